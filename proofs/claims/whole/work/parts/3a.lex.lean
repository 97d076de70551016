/-! ===== the text: runs, words, numbers, both sides ===== -/
/-- from p on, up to the first byte that isn't within lo .. hi -/
def rn (b : Nat → Nat) (n lo hi : Nat) : Nat → Nat → Nat
  | 0, p => p
  | f + 1, p => if p < n ∧ lo ≤ b p ∧ b p ≤ hi then rn b n lo hi f (p + 1) else p
section RN
variable {b : Nat → Nat} {n lo hi : Nat}
theorem rn_le : ∀ (f p : Nat), p ≤ n → p ≤ rn b n lo hi f p ∧ rn b n lo hi f p ≤ n := by
  intro f
  induction f with
  | zero => intro p hp; exact ⟨Nat.le_refl _, hp⟩
  | succ f ih =>
    intro p hp
    rw [rn]
    by_cases z : p < n ∧ lo ≤ b p ∧ b p ≤ hi
    · rw [if_pos z]; have := ih (p + 1) (by omega); omega
    · rw [if_neg z]; exact ⟨Nat.le_refl _, hp⟩
theorem rn_in : ∀ (f p i : Nat), p ≤ i → i < rn b n lo hi f p → i < n ∧ lo ≤ b i ∧ b i ≤ hi := by
  intro f
  induction f with
  | zero => intro p i h1 h2; have h2 : i < p := h2; omega
  | succ f ih =>
    intro p i h1 h2
    rw [rn] at h2
    by_cases z : p < n ∧ lo ≤ b p ∧ b p ≤ hi
    · rw [if_pos z] at h2
      rcases Nat.lt_or_ge p i with q | q
      · exact ih (p + 1) i (by omega) h2
      · obtain rfl : p = i := by omega
        exact z
    · rw [if_neg z] at h2; omega
theorem rn_stop : ∀ (f p : Nat), n < p + f → ¬ (rn b n lo hi f p < n ∧ lo ≤ b (rn b n lo hi f p) ∧ b (rn b n lo hi f p) ≤ hi) := by
  intro f
  induction f with
  | zero => intro p h q; have q : p < n ∧ _ := q; omega
  | succ f ih =>
    intro p h
    rw [rn]
    by_cases z : p < n ∧ lo ≤ b p ∧ b p ≤ hi
    · rw [if_pos z]; exact ih (p + 1) (by omega)
    · rw [if_neg z]; exact z
theorem rn_no {p : Nat} (f : Nat) (h : ¬ (p < n ∧ lo ≤ b p ∧ b p ≤ hi)) : rn b n lo hi f p = p := by
  cases f with
  | zero => rfl
  | succ f => rw [rn, if_neg h]
theorem rn_yes {p f : Nat} (h : p < n ∧ lo ≤ b p ∧ b p ≤ hi) : rn b n lo hi (f + 1) p = rn b n lo hi f (p + 1) := by rw [rn, if_pos h]
end RN
/-- the text's bytes on both sides -/
def TX (n : Nat) (b : Nat → Nat) (f : Nat → Int32) : Prop := n ≤ 150 ∧ ∀ i, i < n → f i = nI (b i) ∧ b i ≤ 127
section TXS
variable {n : Nat} {b : Nat → Nat} {f : Nat → Int32}
theorem x_bw {lo hi : Nat} (T : TX n b f) (h1 : lo ≤ 127) (h2 : hi ≤ 127) (pl : Int32) : ∀ (e p q g : Nat), p + e = n → e < q → e < g → f_X9_behind_5 (nI n) pl f q (nI lo) (nI hi) (nI p) = some (nI (rn b n lo hi g p)) := by
  have hn := T.1
  intro e
  induction e with
  | zero =>
    intro p q g hp hq hg
    obtain ⟨q, rfl⟩ : ∃ q', q = q' + 1 := ⟨q - 1, by omega⟩
    obtain rfl : p = n := by omega
    rw [f_X9_behind_5, if_pos (nI_le (Nat.le_refl _) (by omega)), rn_no g (by omega)]
  | succ e ih =>
    intro p q g hp hq hg
    obtain ⟨q, rfl⟩ : ∃ q', q = q' + 1 := ⟨q - 1, by omega⟩
    obtain ⟨g, rfl⟩ : ∃ g', g = g' + 1 := ⟨g - 1, by omega⟩
    obtain ⟨t1, t2⟩ := T.2 p (by omega)
    rw [f_X9_behind_5, if_neg (nI_ge (by omega) (by omega)), cell_in f (by omega) (by omega), ob1_s, x_within, t1, nI_toInt (show b p < 2 ^ 31 by omega), nI_toInt (show lo < 2 ^ 31 by omega), nI_toInt (show hi < 2 ^ 31 by omega), ob1_s]
    by_cases z : lo ≤ b p ∧ b p ≤ hi
    · rw [if_pos (show (lo : Int) ≤ (b p : Int) ∧ (b p : Int) ≤ (hi : Int) by omega), if_neg one_ne, nI_1, bnd_s, rn_yes ⟨by omega, z⟩]
      exact ih (p + 1) q g (by omega) (by omega) (by omega)
    · rw [if_neg (show ¬ ((lo : Int) ≤ (b p : Int) ∧ (b p : Int) ≤ (hi : Int)) by omega), if_pos rfl, rn_no (g + 1) (fun q => z q.2)]
theorem x_behind {lo hi p : Nat} (T : TX n b f) (h1 : lo ≤ 127) (h2 : hi ≤ 127) (hp : p ≤ n) : f_X9_behind (nI n) (nI p) f (nI lo) (nI hi) = some (nI (rn b n lo hi 151 p)) :=
  x_bw T h1 h2 (nI p) (n - p) p FU 151 (by omega) (Nat.lt_of_le_of_lt (show n - p ≤ 150 by have := T.1; omega) (by decide)) (by have := T.1; omega)
theorem m_byte {p : Nat} (T : TX n b f) (hp : p < n) : f_X12_byteAt (nI n) f (nI p) = some (nI (b p)) := by
  have hn := T.1
  unfold f_X12_byteAt
  rw [if_neg (nI_ge hp (by omega)), chk_n (by omega) (by omega), nI_clamp (by omega), (T.2 p hp).1]
theorem m_byteN {p : Nat} (hn : n ≤ 150) (hp : n ≤ p) (hp2 : p < 2 ^ 31) : f_X12_byteAt (nI n) f (nI p) = some (-1) := by
  unfold f_X12_byteAt
  rw [if_pos (nI_le hp hp2)]
/-- blanks: from p on -/
abbrev sk (b : Nat → Nat) (n p : Nat) : Nat := rn b n 32 32 151 p
theorem m_bl_go (T : TX n b f) (st : Int32) : ∀ (e p q g : Nat), p + e = n → e < q → e < g → f_X12_blanks_0 (nI n) f q (nI p) st = some (nI (rn b n 32 32 g p), nI (rn b n 32 32 g p)) := by
  have hn := T.1
  intro e
  induction e with
  | zero =>
    intro p q g hp hq hg
    obtain ⟨q, rfl⟩ : ∃ q', q = q' + 1 := ⟨q - 1, by omega⟩
    obtain rfl : p = n := by omega
    rw [f_X12_blanks_0, m_byteN hn (Nat.le_refl _) (by omega), ob1_s, if_neg (by decide), rn_no g (by omega)]
    rfl
  | succ e ih =>
    intro p q g hp hq hg
    obtain ⟨q, rfl⟩ : ∃ q', q = q' + 1 := ⟨q - 1, by omega⟩
    obtain ⟨g, rfl⟩ : ∃ g', g = g' + 1 := ⟨g - 1, by omega⟩
    obtain ⟨t1, t2⟩ := T.2 p (by omega)
    rw [f_X12_blanks_0, m_byte T (by omega), ob1_s]
    by_cases z : b p = 32
    · rw [if_pos (by rw [z]; rfl), nI_1, bnd_s, rn_yes ⟨by omega, by omega, by omega⟩]
      exact ih (p + 1) q g (by omega) (by omega) (by omega)
    · rw [if_neg (show ¬ nI (b p) = 32 from fun q => z ((nI_eq (b := 32) (by omega) (by omega)).mp q)), rn_no (g + 1) (fun q => z (by omega))]
      rfl
theorem m_blanks {p : Nat} (T : TX n b f) (hp : p ≤ n) (st : Int32) : f_X12_blanks (nI n) (nI p) st f = some (nI (sk b n p), nI (sk b n p)) :=
  m_bl_go T st (n - p) p FU 151 (by omega) (Nat.lt_of_le_of_lt (show n - p ≤ 150 by have := T.1; omega) (by decide)) (by have := T.1; omega)
theorem m_word_go (T : TX n b f) (st : Int32) : ∀ (e p q g : Nat), p + e = n → e < q → e < g → f_X12_takesWord_4 (nI n) f q (nI p) st = some (nI (rn b n 97 122 g p), st) := by
  have hn := T.1
  intro e
  induction e with
  | zero =>
    intro p q g hp hq hg
    obtain ⟨q, rfl⟩ : ∃ q', q = q' + 1 := ⟨q - 1, by omega⟩
    obtain rfl : p = n := by omega
    rw [f_X12_takesWord_4, m_byteN hn (Nat.le_refl _) (by omega), ob1_s, m_in, if_neg (by decide), ob1_s, if_pos rfl, rn_no g (by omega)]
  | succ e ih =>
    intro p q g hp hq hg
    obtain ⟨q, rfl⟩ : ∃ q', q = q' + 1 := ⟨q - 1, by omega⟩
    obtain ⟨g, rfl⟩ : ∃ g', g = g' + 1 := ⟨g - 1, by omega⟩
    obtain ⟨t1, t2⟩ := T.2 p (by omega)
    rw [f_X12_takesWord_4, m_byte T (by omega), ob1_s, m_in, nI_toInt (show b p < 2 ^ 31 by omega), show (97 : Int64).toInt = 97 from rfl, show (122 : Int64).toInt = 122 from rfl, ob1_s]
    by_cases z : 97 ≤ b p ∧ b p ≤ 122
    · rw [if_pos (show (97 : Int) ≤ (b p : Int) ∧ (b p : Int) ≤ 122 by omega), if_neg one_ne, nI_1, bnd_s, rn_yes ⟨by omega, z⟩]
      exact ih (p + 1) q g (by omega) (by omega) (by omega)
    · rw [if_neg (show ¬ ((97 : Int) ≤ (b p : Int) ∧ (b p : Int) ≤ 122) by omega), if_pos rfl, rn_no (g + 1) (fun q => z q.2)]
theorem m_takesWord {p : Nat} (T : TX n b f) (hp : p ≤ n) (st : Int32) : f_X12_takesWord (nI n) (nI p) st f = some (nI (rn b n 97 122 151 (sk b n p)), nI (sk b n p)) := by
  have hs : p ≤ sk b n p ∧ sk b n p ≤ n := rn_le 151 p hp
  unfold f_X12_takesWord
  rw [m_blanks T hp, ob2_s]
  exact m_word_go T _ (n - sk b n p) (sk b n p) FU 151 (by omega) (Nat.lt_of_le_of_lt (show n - sk b n p ≤ 150 by have := T.1; omega) (by decide)) (by have := T.1; omega)
/-! words -/
def eqw (b : Nat → Nat) (s : Nat) : List Nat → Bool
  | [] => true
  | c :: l => decide (b s = c) && eqw b (s + 1) l
def wdB (b : Nat → Nat) (s e : Nat) (l : List Nat) : Bool := decide (e - s = l.length) && eqw b s l
def wrd : Nat → List Nat
  | 0 => [111, 102, 102, 105, 99, 101]
  | 1 => [99, 108, 101, 114, 107]
  | 2 => [109, 97, 103, 110, 101, 116]
  | 3 => [104, 111, 111, 107]
  | _ => [100, 97, 121, 115]
def nthN : List Nat → Nat → Nat
  | [], _ => 0
  | c :: _, 0 => c
  | _ :: l, i + 1 => nthN l i
theorem str_dec : ∀ k, k < 5 → f_strlen k = some (nI (wrd k).length) ∧ (wrd k).length < 7 := by decide +kernel
theorem chr_dec : ∀ k, k < 5 → ∀ i, i < (wrd k).length → f_strat k (nI i) = some (nI (nthN (wrd k) i)) ∧ nthN (wrd k) i < 128 := by decide +kernel
theorem eqw_nth (b : Nat → Nat) : ∀ (l : List Nat) (s : Nat), eqw b s l = true ↔ ∀ i, i < l.length → b (s + i) = nthN l i := by
  intro l
  induction l with
  | nil => intro s; exact ⟨fun _ i hi => absurd hi (Nat.not_lt_zero i), fun _ => rfl⟩
  | cons c l ih =>
    intro s
    rw [eqw, Bool.and_eq_true, ih (s + 1), decide_eq_true_iff]
    constructor
    · intro h i hi
      cases i with
      | zero => exact h.1
      | succ i => have := h.2 i (by have : i + 1 < l.length + 1 := hi; omega); rw [show s + (i + 1) = s + 1 + i by omega]; exact this
    · intro h
      exact ⟨h 0 (Nat.succ_pos _), fun i hi => by have := h (i + 1) (by show i + 1 < l.length + 1; omega); rw [show s + (i + 1) = s + 1 + i by omega] at this; exact this⟩
theorem x_isWord (T : TX n b f) {k s e : Nat} (hk : k < 5) (hs : s ≤ e) (he : e ≤ n) : f_X9_isWord (nI s) (nI e) f k = some (b2i (wdB b s e (wrd k))) := by
  have hn := T.1
  obtain ⟨l1, l2⟩ := str_dec k hk
  unfold f_X9_isWord f_X9_isWord_21
  have loop : ∀ (d i q : Nat) (x : Bool), i + d = (wrd k).length → d < q → (x = true → e - s = (wrd k).length ∧ ∀ j, j < i → b (s + j) = nthN (wrd k) j) → (x = false → wdB b s e (wrd k) = false) → f_X9_isWord_24 (nI s) (nI e) f k q (b2i x) (nI i) = some (b2i (wdB b s e (wrd k))) := by
    intro d
    induction d with
    | zero =>
      intro i q x hi hq h1 h2
      obtain ⟨q, rfl⟩ : ∃ q', q = q' + 1 := ⟨q - 1, by omega⟩
      rw [f_X9_isWord_24]
      cases x with
      | false => rw [if_pos (b2i_0.mpr rfl), chb_b, h2 rfl]
      | true =>
        obtain ⟨h3, h4⟩ := h1 rfl
        have e1 : wdB b s e (wrd k) = true := by
          unfold wdB
          rw [decide_eq_true h3, Bool.true_and, eqw_nth]
          exact fun j hj => h4 j (by omega)
        rw [if_neg (show ¬ b2i true = 0 by decide), l1, ob1_s, if_pos (nI_le (by omega) (by omega)), chb_b, e1]
    | succ d ih =>
      intro i q x hi hq h1 h2
      obtain ⟨q, rfl⟩ : ∃ q', q = q' + 1 := ⟨q - 1, by omega⟩
      rw [f_X9_isWord_24]
      cases x with
      | false => rw [if_pos (b2i_0.mpr rfl), chb_b, h2 rfl]
      | true =>
        obtain ⟨h3, h4⟩ := h1 rfl
        obtain ⟨c1, c2⟩ := chr_dec k hk i (by omega)
        obtain ⟨t1, t2⟩ := T.2 (s + i) (by omega)
        rw [if_neg (show ¬ b2i true = 0 by decide), l1, ob1_s, if_neg (nI_ge (by omega) (by omega)), nI_add, cell_in f (by omega) (by omega), ob1_s, c1, ob1_s, t1]
        unfold f_X9_isWord_62
        by_cases z : b (s + i) = nthN (wrd k) i
        · rw [if_pos (by rw [z]), nI_1, bnd_s]
          refine ih (i + 1) q true (by omega) (by omega) (fun _ => ⟨h3, fun j hj => ?_⟩) (fun h => Bool.noConfusion h)
          rcases Nat.lt_or_ge j i with y | y
          · exact h4 j y
          · obtain rfl : j = i := by omega
            exact z
        · rw [if_neg (fun q => z ((nI_eq (by omega) (by omega)).mp q)), nI_1, bnd_s]
          refine ih (i + 1) q false (by omega) (by omega) (fun h => Bool.noConfusion h) (fun _ => not_t (fun h => z ?_))
          unfold wdB at h
          rw [Bool.and_eq_true, eqw_nth] at h
          exact h.2 i (by omega)
  rw [l1, ob1_s, nI_sub hs]
  by_cases z : e - s = (wrd k).length
  · rw [if_pos (by rw [z])]
    exact loop (wrd k).length 0 FU true (by omega) (Nat.lt_of_lt_of_le (show (wrd k).length < 7 from l2) (by decide)) (fun _ => ⟨z, fun j hj => absurd hj (Nat.not_lt_zero j)⟩) (fun h => Bool.noConfusion h)
  · rw [if_neg (fun q => z ((nI_eq (by omega) (by omega)).mp q))]
    exact loop (wrd k).length 0 FU false (by omega) (Nat.lt_of_lt_of_le (show (wrd k).length < 7 from l2) (by decide)) (fun h => Bool.noConfusion h) (fun _ => by unfold wdB; rw [decide_eq_false z, Bool.false_and])
/-- one place of a word, as the reference looks at it -/
def ltr (b : Nat → Nat) (s e i c : Nat) : Bool := if c = 0 then decide (e - s ≤ i) else (decide (i < e - s) && decide (b (s + i) = c))
theorem m_letter (T : TX n b f) {s e i c : Nat} (hs : s ≤ e) (he : e ≤ n) (hi : i < 7) (hc : c < 128) : f_X12_isLetter (nI s) f (nI i) (nI c) (nI (e - s)) = some (b2i (ltr b s e i c)) := by
  have hn := T.1
  unfold f_X12_isLetter ltr
  by_cases z : c = 0
  · rw [if_pos (show nI c = 0 by rw [z]; rfl), if_pos z]
    by_cases y : i < e - s
    · rw [if_pos (nI_lt y (by omega)), decide_eq_false (show ¬ e - s ≤ i by omega)]; rfl
    · rw [if_neg (nI_nlt (by omega) (by omega)), decide_eq_true (show e - s ≤ i by omega)]; rfl
  · rw [if_neg (show ¬ nI c = 0 from fun q => z ((nI_eq (b := 0) (by omega) (by omega)).mp q)), if_neg z]
    by_cases y : i < e - s
    · obtain ⟨t1, t2⟩ := T.2 (s + i) (by omega)
      rw [if_neg (nI_ge y (by omega)), nI_add, chk_n (by omega) (by omega), nI_clamp (by omega), t1, decide_eq_true y, Bool.true_and]
      by_cases u : b (s + i) = c
      · rw [if_pos (by rw [u]), decide_eq_true u]; rfl
      · rw [if_neg (fun q => u ((nI_eq (by omega) (by omega)).mp q)), decide_eq_false u]; rfl
    · rw [if_pos (nI_le (by omega) (by omega)), decide_eq_false y, Bool.false_and]; rfl
def ltrs (b : Nat → Nat) (s e c0 c1 c2 c3 c4 c5 c6 : Nat) : Bool := ltr b s e 0 c0 && (ltr b s e 1 c1 && (ltr b s e 2 c2 && (ltr b s e 3 c3 && (ltr b s e 4 c4 && (ltr b s e 5 c5 && (ltr b s e 6 c6 && decide (e - s < 8)))))))
theorem m_isWord (T : TX n b f) {s e : Nat} (hs : s ≤ e) (he : e ≤ n) (c0 c1 c2 c3 c4 c5 c6 : Nat) (h0 : c0 < 128) (h1 : c1 < 128) (h2 : c2 < 128) (h3 : c3 < 128) (h4 : c4 < 128) (h5 : c5 < 128) (h6 : c6 < 128) : f_X12_isWord (nI e) (nI s) f (nI c0) (nI c1) (nI c2) (nI c3) (nI c4) (nI c5) (nI c6) = some (b2i (ltrs b s e c0 c1 c2 c3 c4 c5 c6)) := by
  have hn := T.1
  have q0 : f_X12_isLetter (nI s) f 0 (nI c0) (nI (e - s)) = _ := m_letter T hs he (i := 0) (by omega) h0
  have q1 : f_X12_isLetter (nI s) f 1 (nI c1) (nI (e - s)) = _ := m_letter T hs he (i := 1) (by omega) h1
  have q2 : f_X12_isLetter (nI s) f 2 (nI c2) (nI (e - s)) = _ := m_letter T hs he (i := 2) (by omega) h2
  have q3 : f_X12_isLetter (nI s) f 3 (nI c3) (nI (e - s)) = _ := m_letter T hs he (i := 3) (by omega) h3
  have q4 : f_X12_isLetter (nI s) f 4 (nI c4) (nI (e - s)) = _ := m_letter T hs he (i := 4) (by omega) h4
  have q5 : f_X12_isLetter (nI s) f 5 (nI c5) (nI (e - s)) = _ := m_letter T hs he (i := 5) (by omega) h5
  have q6 : f_X12_isLetter (nI s) f 6 (nI c6) (nI (e - s)) = _ := m_letter T hs he (i := 6) (by omega) h6
  unfold f_X12_isWord ltrs
  rw [nI_sub hs, bnd_s, q0, ob1_s]
  cases ltr b s e 0 c0 with
  | false => rfl
  | true =>
    rw [if_neg (show ¬ b2i true = 0 by decide), q1, ob1_s, Bool.true_and]
    cases ltr b s e 1 c1 with
    | false => rfl
    | true =>
      rw [if_neg (show ¬ b2i true = 0 by decide), q2, ob1_s, Bool.true_and]
      cases ltr b s e 2 c2 with
      | false => rfl
      | true =>
        rw [if_neg (show ¬ b2i true = 0 by decide), q3, ob1_s, Bool.true_and]
        cases ltr b s e 3 c3 with
        | false => rfl
        | true =>
          rw [if_neg (show ¬ b2i true = 0 by decide), q4, ob1_s, Bool.true_and]
          cases ltr b s e 4 c4 with
          | false => rfl
          | true =>
            rw [if_neg (show ¬ b2i true = 0 by decide), q5, ob1_s, Bool.true_and]
            cases ltr b s e 5 c5 with
            | false => rfl
            | true =>
              rw [if_neg (show ¬ b2i true = 0 by decide), q6, ob1_s, Bool.true_and]
              cases ltr b s e 6 c6 with
              | false => rfl
              | true =>
                rw [if_neg (show ¬ b2i true = 0 by decide), Bool.true_and]
                by_cases z : e - s < 8
                · rw [if_neg (show ¬ (8 : Int32) ≤ nI (e - s) from nI_ge (b := 8) z (by omega)), decide_eq_true z]; rfl
                · rw [if_pos (show (8 : Int32) ≤ nI (e - s) from nI_le (a := 8) (by omega) (by omega)), decide_eq_false z]; rfl
theorem ltrs_6 (b : Nat → Nat) (s e c0 c1 c2 c3 c4 c5 : Nat) (h0 : c0 ≠ 0) (h1 : c1 ≠ 0) (h2 : c2 ≠ 0) (h3 : c3 ≠ 0) (h4 : c4 ≠ 0) (h5 : c5 ≠ 0) : ltrs b s e c0 c1 c2 c3 c4 c5 0 = wdB b s e [c0, c1, c2, c3, c4, c5] := by
  apply bool_ext
  unfold ltrs wdB ltr
  simp only [if_neg h0, if_neg h1, if_neg h2, if_neg h3, if_neg h4, if_neg h5, if_true, eqw, Bool.and_eq_true, decide_eq_true_iff, List.length_cons, List.length_nil, Bool.and_true, Nat.add_zero, Nat.add_assoc]
  constructor
  · intro h; refine ⟨by omega, h.1.2, h.2.1.2, h.2.2.1.2, h.2.2.2.1.2, h.2.2.2.2.1.2, h.2.2.2.2.2.1.2⟩
  · intro h; refine ⟨⟨by omega, h.2.1⟩, ⟨by omega, h.2.2.1⟩, ⟨by omega, h.2.2.2.1⟩, ⟨by omega, h.2.2.2.2.1⟩, ⟨by omega, h.2.2.2.2.2.1⟩, ⟨by omega, h.2.2.2.2.2.2⟩, by omega, by omega⟩
theorem ltrs_5 (b : Nat → Nat) (s e c0 c1 c2 c3 c4 : Nat) (h0 : c0 ≠ 0) (h1 : c1 ≠ 0) (h2 : c2 ≠ 0) (h3 : c3 ≠ 0) (h4 : c4 ≠ 0) : ltrs b s e c0 c1 c2 c3 c4 0 0 = wdB b s e [c0, c1, c2, c3, c4] := by
  apply bool_ext
  unfold ltrs wdB ltr
  simp only [if_neg h0, if_neg h1, if_neg h2, if_neg h3, if_neg h4, if_true, eqw, Bool.and_eq_true, decide_eq_true_iff, List.length_cons, List.length_nil, Bool.and_true, Nat.add_zero, Nat.add_assoc]
  constructor
  · intro h; refine ⟨by omega, h.1.2, h.2.1.2, h.2.2.1.2, h.2.2.2.1.2, h.2.2.2.2.1.2⟩
  · intro h; refine ⟨⟨by omega, h.2.1⟩, ⟨by omega, h.2.2.1⟩, ⟨by omega, h.2.2.2.1⟩, ⟨by omega, h.2.2.2.2.1⟩, ⟨by omega, h.2.2.2.2.2⟩, by omega, by omega, by omega⟩
theorem ltrs_4 (b : Nat → Nat) (s e c0 c1 c2 c3 : Nat) (h0 : c0 ≠ 0) (h1 : c1 ≠ 0) (h2 : c2 ≠ 0) (h3 : c3 ≠ 0) : ltrs b s e c0 c1 c2 c3 0 0 0 = wdB b s e [c0, c1, c2, c3] := by
  apply bool_ext
  unfold ltrs wdB ltr
  simp only [if_neg h0, if_neg h1, if_neg h2, if_neg h3, if_true, eqw, Bool.and_eq_true, decide_eq_true_iff, List.length_cons, List.length_nil, Bool.and_true, Nat.add_zero, Nat.add_assoc]
  constructor
  · intro h; refine ⟨by omega, h.1.2, h.2.1.2, h.2.2.1.2, h.2.2.2.1.2⟩
  · intro h; refine ⟨⟨by omega, h.2.1⟩, ⟨by omega, h.2.2.1⟩, ⟨by omega, h.2.2.2.1⟩, ⟨by omega, h.2.2.2.2⟩, by omega, by omega, by omega, by omega⟩
/-- which word stands there: 1 .. 5, 0 if none -/
def wof (b : Nat → Nat) (s e : Nat) : Nat := if wdB b s e (wrd 0) then 1 else if wdB b s e (wrd 1) then 2 else if wdB b s e (wrd 2) then 3 else if wdB b s e (wrd 3) then 4 else if wdB b s e (wrd 4) then 5 else 0
theorem m_wordOf (T : TX n b f) {s e : Nat} (hs : s ≤ e) (he : e ≤ n) : f_X12_wordOf (nI e) (nI s) f = some (nI (wof b s e)) := by
  have w0 := m_isWord T hs he 111 102 102 105 99 101 0 (by omega) (by omega) (by omega) (by omega) (by omega) (by omega) (by omega)
  rw [ltrs_6 b s e 111 102 102 105 99 101 (by omega) (by omega) (by omega) (by omega) (by omega) (by omega)] at w0
  have w0 : f_X12_isWord (nI e) (nI s) f 111 102 102 105 99 101 0 = some (b2i (wdB b s e (wrd 0))) := w0
  have w1 := m_isWord T hs he 99 108 101 114 107 0 0 (by omega) (by omega) (by omega) (by omega) (by omega) (by omega) (by omega)
  rw [ltrs_5 b s e 99 108 101 114 107 (by omega) (by omega) (by omega) (by omega) (by omega)] at w1
  have w1 : f_X12_isWord (nI e) (nI s) f 99 108 101 114 107 0 0 = some (b2i (wdB b s e (wrd 1))) := w1
  have w2 := m_isWord T hs he 109 97 103 110 101 116 0 (by omega) (by omega) (by omega) (by omega) (by omega) (by omega) (by omega)
  rw [ltrs_6 b s e 109 97 103 110 101 116 (by omega) (by omega) (by omega) (by omega) (by omega) (by omega)] at w2
  have w2 : f_X12_isWord (nI e) (nI s) f 109 97 103 110 101 116 0 = some (b2i (wdB b s e (wrd 2))) := w2
  have w3 := m_isWord T hs he 104 111 111 107 0 0 0 (by omega) (by omega) (by omega) (by omega) (by omega) (by omega) (by omega)
  rw [ltrs_4 b s e 104 111 111 107 (by omega) (by omega) (by omega) (by omega)] at w3
  have w3 : f_X12_isWord (nI e) (nI s) f 104 111 111 107 0 0 0 = some (b2i (wdB b s e (wrd 3))) := w3
  have w4 := m_isWord T hs he 100 97 121 115 0 0 0 (by omega) (by omega) (by omega) (by omega) (by omega) (by omega) (by omega)
  rw [ltrs_4 b s e 100 97 121 115 (by omega) (by omega) (by omega) (by omega)] at w4
  have w4 : f_X12_isWord (nI e) (nI s) f 100 97 121 115 0 0 0 = some (b2i (wdB b s e (wrd 4))) := w4
  unfold f_X12_wordOf wof
  rw [w0, ob1_s]
  cases wdB b s e (wrd 0) with
  | true => rfl
  | false =>
    rw [if_pos (b2i_0.mpr rfl), w1, ob1_s, if_neg Bool.false_ne_true]
    cases wdB b s e (wrd 1) with
    | true => rfl
    | false =>
      rw [if_pos (b2i_0.mpr rfl), w2, ob1_s, if_neg Bool.false_ne_true]
      cases wdB b s e (wrd 2) with
      | true => rfl
      | false =>
        rw [if_pos (b2i_0.mpr rfl), w3, ob1_s, if_neg Bool.false_ne_true]
        cases wdB b s e (wrd 3) with
        | true => rfl
        | false =>
          rw [if_pos (b2i_0.mpr rfl), w4, ob1_s, if_neg Bool.false_ne_true]
          cases wdB b s e (wrd 4) <;> rfl
theorem wof_le (b : Nat → Nat) (s e : Nat) : wof b s e ≤ 5 := by
  unfold wof
  split
  · omega
  · split
    · omega
    · split
      · omega
      · split
        · omega
        · split <;> omega
theorem wof_empty (b : Nat → Nat) (s : Nat) : wof b s s = 0 := by
  have h : ∀ k, wdB b s s (wrd k) = false := fun k => by
    unfold wdB
    have : ¬ s - s = (wrd k).length := by
      rw [Nat.sub_self]
      match k with
      | 0 => decide
      | 1 => decide
      | 2 => decide
      | 3 => decide
      | _ + 4 => exact fun q => by have : (0 : Nat) = 4 := q; omega
    rw [decide_eq_false this, Bool.false_and]
  unfold wof
  rw [h 0, h 1, h 2, h 3, h 4]
  rfl
end TXS
