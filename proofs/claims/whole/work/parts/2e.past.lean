/-! ===== the past, both sides ===== -/
theorem ob13_s {A1 A2 A3 A4 A5 A6 A7 A8 A9 A10 A11 A12 A13 C : Type} (a1 : A1) (a2 : A2) (a3 : A3) (a4 : A4) (a5 : A5) (a6 : A6) (a7 : A7) (a8 : A8) (a9 : A9) (a10 : A10) (a11 : A11) (a12 : A12) (a13 : A13) (k : A1 → A2 → A3 → A4 → A5 → A6 → A7 → A8 → A9 → A10 → A11 → A12 → A13 → Option C) : ob13 (some (a1, a2, a3, a4, a5, a6, a7, a8, a9, a10, a11, a12, a13)) k = k a1 a2 a3 a4 a5 a6 a7 a8 a9 a10 a11 a12 a13 := rfl
theorem ob14_s {A1 A2 A3 A4 A5 A6 A7 A8 A9 A10 A11 A12 A13 A14 C : Type} (a1 : A1) (a2 : A2) (a3 : A3) (a4 : A4) (a5 : A5) (a6 : A6) (a7 : A7) (a8 : A8) (a9 : A9) (a10 : A10) (a11 : A11) (a12 : A12) (a13 : A13) (a14 : A14) (k : A1 → A2 → A3 → A4 → A5 → A6 → A7 → A8 → A9 → A10 → A11 → A12 → A13 → A14 → Option C) : ob14 (some (a1, a2, a3, a4, a5, a6, a7, a8, a9, a10, a11, a12, a13, a14)) k = k a1 a2 a3 a4 a5 a6 a7 a8 a9 a10 a11 a12 a13 a14 := rfl
theorem ob15_s {A1 A2 A3 A4 A5 A6 A7 A8 A9 A10 A11 A12 A13 A14 A15 C : Type} (a1 : A1) (a2 : A2) (a3 : A3) (a4 : A4) (a5 : A5) (a6 : A6) (a7 : A7) (a8 : A8) (a9 : A9) (a10 : A10) (a11 : A11) (a12 : A12) (a13 : A13) (a14 : A14) (a15 : A15) (k : A1 → A2 → A3 → A4 → A5 → A6 → A7 → A8 → A9 → A10 → A11 → A12 → A13 → A14 → A15 → Option C) : ob15 (some (a1, a2, a3, a4, a5, a6, a7, a8, a9, a10, a11, a12, a13, a14, a15)) k = k a1 a2 a3 a4 a5 a6 a7 a8 a9 a10 a11 a12 a13 a14 a15 := rfl
theorem ob16_s {A1 A2 A3 A4 A5 A6 A7 A8 A9 A10 A11 A12 A13 A14 A15 A16 C : Type} (a1 : A1) (a2 : A2) (a3 : A3) (a4 : A4) (a5 : A5) (a6 : A6) (a7 : A7) (a8 : A8) (a9 : A9) (a10 : A10) (a11 : A11) (a12 : A12) (a13 : A13) (a14 : A14) (a15 : A15) (a16 : A16) (k : A1 → A2 → A3 → A4 → A5 → A6 → A7 → A8 → A9 → A10 → A11 → A12 → A13 → A14 → A15 → A16 → Option C) : ob16 (some (a1, a2, a3, a4, a5, a6, a7, a8, a9, a10, a11, a12, a13, a14, a15, a16)) k = k a1 a2 a3 a4 a5 a6 a7 a8 a9 a10 a11 a12 a13 a14 a15 a16 := rfl
/-- how many records, and of each its day and its table -/
abbrev Ps : Type := Nat × (Nat → Nat × Tb)
abbrev pN (p : Ps) : Nat := p.1
abbrev pD (p : Ps) (q : Nat) : Nat := (p.2 q).1
abbrev pT (p : Ps) (q : Nat) : Tb := (p.2 q).2
def pAdd (p : Ps) (d : Nat) (t : Tb) : Ps := (min (pN p) 7 + 1, fun q => if q = min (pN p) 7 then (d, t) else if pN p = 8 then p.2 (q + 1) else p.2 q)
def pDrop (p : Ps) : Ps := (pN p - 1, p.2)
def p0s : Ps := (0, fun _ => (0, (0, fun _ => 0, fun _ => 0, fun _ => 0, fun _ => 0, fun _ => none)))
def XP (f : Nat → Int32) (n : Nat) (p : Ps) : Prop := ∀ q, q < pN p → f (q * 22 + 0) = nI (pD p q) ∧ ∀ k, k < n → f (q * 22 + (1 + 3 * k)) = nI (tD (pT p q) k) ∧ f (q * 22 + (2 + 3 * k)) = nI (tU (pT p q) k) ∧ f (q * 22 + (3 + 3 * k)) = onv (tO (pT p q) k)
def MP (w : Nat → Int32) (r n : Nat) (p : Ps) : Prop := w (r + 124) = nI (pN p) ∧ ∀ q, q < pN p → w (r + 125 + 22 * q) = nI (pD p q) ∧ ∀ k, k < n → w (r + 125 + 22 * q + 1 + k) = nI (tD (pT p q) k) ∧ w (r + 125 + 22 * q + 1 + (7 + k)) = nI (tU (pT p q) k) ∧ w (r + 125 + 22 * q + 1 + (14 + k)) = onv (tO (pT p q) k)
/-- a good table with at most two on one -/
def VH (t : Tb) : Prop := VT t ∧ ∀ j, j < tN t → onN t (some j) ≤ 2
def VP (p : Ps) (t : Tb) : Prop := pN p ≤ 8 ∧ ∀ q, q < pN p → pD p q ≤ 999 ∧ VH (pT p q) ∧ tN (pT p q) = tN t ∧ ∀ i, i < tN t → tK (pT p q) i = tK t i ∧ tW (pT p q) i = tW t i
theorem VP.add {p : Ps} {t : Tb} {d : Nat} (P : VP p t) (V : VH t) (hd : d ≤ 999) : VP (pAdd p d t) t := by
  refine ⟨show min (pN p) 7 + 1 ≤ 8 by omega, fun q hq => ?_⟩
  have hq : q < min (pN p) 7 + 1 := hq
  have h8 := P.1
  show ((if q = min (pN p) 7 then (d, t) else if pN p = 8 then p.2 (q + 1) else p.2 q).1 ≤ 999) ∧ _
  unfold pT pAdd
  by_cases z : q = min (pN p) 7
  · simp only [if_pos z]
    exact ⟨hd, V, trivial, fun i _ => ⟨trivial, trivial⟩⟩
  · by_cases y : pN p = 8
    · simp only [if_neg z, if_pos y]
      exact P.2 (q + 1) (by omega)
    · simp only [if_neg z, if_neg y]
      exact P.2 q (by omega)
theorem VP.drop {p : Ps} {t : Tb} (P : VP p t) : VP (pDrop p) t := ⟨by have := P.1; show pN p - 1 ≤ 8; omega, fun q hq => P.2 q (by have : q < pN p - 1 := hq; omega)⟩
theorem VP.zero (t : Tb) : VP p0s t := ⟨Nat.zero_le _, fun q hq => absurd hq (Nat.not_lt_zero q)⟩
theorem VP.to {p : Ps} {t t' : Tb} (P : VP p t) (h0 : tN t' = tN t) (h : ∀ i, i < tN t → tK t' i = tK t i ∧ tW t' i = tW t i) : VP p t' :=
  ⟨P.1, fun q hq => ⟨(P.2 q hq).1, (P.2 q hq).2.1, (P.2 q hq).2.2.1.trans h0.symm, fun i hi => ⟨((P.2 q hq).2.2.2 i (h0 ▸ hi)).1.trans (h i (h0 ▸ hi)).1.symm, ((P.2 q hq).2.2.2 i (h0 ▸ hi)).2.trans (h i (h0 ▸ hi)).2.symm⟩⟩⟩
theorem c13 (j : Nat) : (1 : Int32) + 3 * nI j = nI (1 + 3 * j) := by rw [show (3 : Int32) = nI 3 from rfl, pk_mul]; exact nI_add 1 _
theorem c23 (j : Nat) : (2 : Int32) + 3 * nI j = nI (2 + 3 * j) := by rw [show (3 : Int32) = nI 3 from rfl, pk_mul]; exact nI_add 2 _
theorem c33 (j : Nat) : (3 : Int32) + 3 * nI j = nI (3 + 3 * j) := by
  have e : (3 : Int32) * nI j = nI (3 * j) := pk_mul 3 j
  rw [e]; exact nI_add 3 _
theorem p_put {s i c : Nat} {f : Nat → Int32} {v : Int32} (hi : i < s) (hs : s ≤ 8) (hc : c < 22) : f_X7_put 22 (nI s) 176 f (nI i) (nI c) v = some (upd f (i * 22 + c) v) := put_in (W := 22) hi (by omega) hc (by omega) (by omega) (by omega)
theorem p_get {s i c : Nat} {f : Nat → Int32} (hi : i < s) (hs : s ≤ 8) (hc : c < 22) : f_X7_get 22 (nI s) 176 f (nI i) (nI c) = some (f (i * 22 + c)) := get_in (W := 22) hi (by omega) hc (by omega) (by omega) (by omega)
section PX
variable {fc : Nat → Int32} {t : Tb}
theorem x_rem_go (X : XT fc t) (V : VT t) {s : Nat} (hs : s < 8) (dd : Int32) (f0 : Nat → Int32) : ∀ (e j q : Nat) (f : Nat → Int32), j + e = tN t → e < q → (∀ x, x < s * 22 + 1 → f x = f0 x) → (∀ k, k < j → f (s * 22 + (1 + 3 * k)) = nI (tD t k) ∧ f (s * 22 + (2 + 3 * k)) = nI (tU t k) ∧ f (s * 22 + (3 + 3 * k)) = onv (tO t k)) →
    ∃ f', f_X6_remember_35 dd (nI (tN t)) fc q (nI (s + 1)) f (nI s) (nI j) = some (nI (s + 1), f') ∧ (∀ x, x < s * 22 + 1 → f' x = f0 x) ∧ (∀ k, k < tN t → f' (s * 22 + (1 + 3 * k)) = nI (tD t k) ∧ f' (s * 22 + (2 + 3 * k)) = nI (tU t k) ∧ f' (s * 22 + (3 + 3 * k)) = onv (tO t k)) := by
  have hn := V.1
  intro e
  induction e with
  | zero =>
    intro j q f hj hq h0 h1
    obtain ⟨q, rfl⟩ : ∃ q', q = q' + 1 := ⟨q - 1, by omega⟩
    obtain rfl : j = tN t := by omega
    rw [f_X6_remember_35, x_size, ob1_s, if_pos (nI_le (Nat.le_refl _) (by omega))]
    exact ⟨f, rfl, h0, h1⟩
  | succ e ih =>
    intro j q f hj hq h0 h1
    obtain ⟨q, rfl⟩ : ∃ q', q = q' + 1 := ⟨q - 1, by omega⟩
    have hjn : j < tN t := by omega
    rw [f_X6_remember_35, x_size, ob1_s, if_neg (nI_ge (by omega) (by omega)), X.d hjn hn, ob1_s, c13, p_put (by omega) (by omega) (by omega), ob1_s, X.u hjn hn, ob1_s, c23, p_put (by omega) (by omega) (by omega), ob1_s, X.o hjn hn, ob1_s, c33, p_put (by omega) (by omega) (by omega), ob1_s, nI_1, bnd_s]
    refine ih (j + 1) q _ (by omega) (by omega) (fun x hx => ?_) (fun k hk => ?_)
    · rw [pk_un (by omega), pk_un (by omega), pk_un (by omega), h0 x hx]
    · by_cases z : k = j
      · subst z
        refine ⟨?_, ?_, ?_⟩
        · rw [pk_un (by omega), pk_un (by omega), pk_us]
        · rw [pk_un (by omega), pk_us]
        · rw [pk_us]
      · have := h1 k (by omega)
        refine ⟨?_, ?_, ?_⟩
        · rw [pk_un (by omega), pk_un (by omega), pk_un (by omega), this.1]
        · rw [pk_un (by omega), pk_un (by omega), pk_un (by omega), this.2.1]
        · rw [pk_un (by omega), pk_un (by omega), pk_un (by omega), this.2.2]
theorem x_rem17 (X : XT fc t) (V : VT t) {s : Nat} (hs : s < 8) (d : Nat) (f0 : Nat → Int32) :
    ∃ f', f_X6_remember_17 (nI d) (nI (tN t)) fc (nI s) f0 = some (nI (s + 1), f') ∧ (∀ x, x < s * 22 → f' x = f0 x) ∧ f' (s * 22 + 0) = nI d ∧ (∀ k, k < tN t → f' (s * 22 + (1 + 3 * k)) = nI (tD t k) ∧ f' (s * 22 + (2 + 3 * k)) = nI (tU t k) ∧ f' (s * 22 + (3 + 3 * k)) = onv (tO t k)) := by
  have hn := V.1
  unfold f_X6_remember_17
  have e := x_add (most := 8) (W := 22) (s := s) (N := 176) (f := f0) hs (by omega) (by omega) (by omega) (by omega) (by omega) (nI d) 0 0 0 0
  have e : f_X7_add 8 22 (nI s) 176 f0 (nI d) 0 0 0 0 = some (nI s, nI (s + 1), add5 f0 (s * 22) (nI d) 0 0 0 0) := e
  rw [e, ob3_s]
  obtain ⟨f', e1, h1, h2⟩ := x_rem_go X V hs (nI d) (add5 f0 (s * 22) (nI d) 0 0 0 0) (tN t) 0 FU (add5 f0 (s * 22) (nI d) 0 0 0 0) (by omega) (Nat.lt_of_le_of_lt hn (by decide)) (fun _ _ => rfl) (fun k hk => absurd hk (Nat.not_lt_zero k))
  have e1 : f_X6_remember_35 (nI d) (nI (tN t)) fc FU (nI (s + 1)) (add5 f0 (s * 22) (nI d) 0 0 0 0) (nI s) 0 = some (nI (s + 1), f') := e1
  refine ⟨f', e1, fun x hx => ?_, ?_, h2⟩
  · rw [h1 x (by omega), add5_low (by omega)]
  · rw [h1 _ (by omega)]
    unfold add5
    rw [pk_un (by omega), pk_un (by omega), pk_un (by omega), pk_un (by omega), pk_us]
theorem x_remember (X : XT fc t) (V : VT t) {d : Nat} {p : Ps} {fp : Nat → Int32} (P : XP fp (tN t) p) (h8 : pN p ≤ 8) :
    ∃ fp', f_X6_remember (nI d) (nI (tN t)) fc (nI (pN p)) fp = some (nI (pN (pAdd p d t)), fp') ∧ XP fp' (tN t) (pAdd p d t) := by
  have hn := V.1
  unfold f_X6_remember
  have e0 : f_X7_isFull 8 (nI (pN p)) = some (if pN p < 8 then 0 else 1) := x_isFull (most := 8) (by omega) h8
  rw [e0, ob1_s]
  by_cases z : pN p < 8
  · rw [if_pos z, if_pos rfl]
    obtain ⟨f', e1, h1, h2, h3⟩ := x_rem17 X V z d fp
    rw [e1]
    have m7 : min (pN p) 7 = pN p := by omega
    refine ⟨f', ?_, fun q hq => ?_⟩
    · show _ = some (nI (min (pN p) 7 + 1), f')
      rw [m7]
    · have hq : q < min (pN p) 7 + 1 := hq
      rw [m7] at hq
      unfold pT pD pAdd
      by_cases y : q = pN p
      · simp only [m7, if_pos y]
        rw [y]
        exact ⟨h2, h3⟩
      · simp only [m7, if_neg y, if_neg (show ¬ pN p = 8 by omega)]
        have := P q (by omega)
        refine ⟨by rw [h1 _ (by omega)]; exact this.1, fun k hk => ?_⟩
        rw [h1 _ (by omega), h1 _ (by omega), h1 _ (by omega)]
        exact this.2 k hk
  · rw [if_neg z, if_neg (show ¬ (1 : Int32) = 0 by decide)]
    have z8 : pN p = 8 := by omega
    obtain ⟨f1, e1, g1⟩ := x_dropFirst (W := 22) (N := 176) (s := pN p) (by omega) (by omega) (by omega) (by omega) (by omega) fp
    have e1 : f_X7_dropFirst 22 (nI (pN p)) 176 fp = some (nI (pN p - 1), f1) := e1
    rw [e1, ob2_s, z8]
    obtain ⟨f', e2, h1, h2, h3⟩ := x_rem17 X V (s := 7) (by omega) d f1
    rw [e2]
    have m7 : min (pN p) 7 = 7 := by omega
    refine ⟨f', ?_, fun q hq => ?_⟩
    · show _ = some (nI (min (pN p) 7 + 1), f')
      rw [m7]
    · have hq : q < min (pN p) 7 + 1 := hq
      rw [m7] at hq
      unfold pT pD pAdd
      by_cases y : q = 7
      · simp only [m7, if_pos y]
        rw [y]
        exact ⟨h2, h3⟩
      · simp only [m7, if_neg y, if_pos z8]
        have := P (q + 1) (by omega)
        refine ⟨?_, fun k hk => ?_⟩
        · rw [h1 _ (by omega), g1, if_pos (by omega), show q * 22 + 0 + 22 = (q + 1) * 22 + 0 by omega]; exact this.1
        · rw [h1 _ (by omega), h1 _ (by omega), h1 _ (by omega), g1, g1, g1, if_pos (by omega), if_pos (by omega), if_pos (by omega), show q * 22 + (1 + 3 * k) + 22 = (q + 1) * 22 + (1 + 3 * k) by omega, show q * 22 + (2 + 3 * k) + 22 = (q + 1) * 22 + (2 + 3 * k) by omega, show q * 22 + (3 + 3 * k) + 22 = (q + 1) * 22 + (3 + 3 * k) by omega]
          exact this.2 k hk
end PX
theorem m_minds_P {w : Nat → Int32} {t : Tb} {d : Nat} {p : Ps} (M : MT w 0 t) (V : VT t) (hd : w 2 = nI d) (P : MP w 0 (tN t) p) (h8 : pN p ≤ 8) :
    ∃ w', f_X12_minds w = some w' ∧ MP w' 0 (tN t) (pAdd p d t) ∧ ∀ x, (x < 124 ∨ 301 ≤ x) → w' x = w x := by
  have hn := V.1
  have h124 := P.1
  rw [Nat.zero_add] at h124
  obtain ⟨w', e, a1, a2, a3, a4⟩ := m_minds h8 h124
  have ms : ∀ x, (x < 124 ∨ 301 ≤ x) → mshift (pN p) w x = w x := fun x hx => by unfold mshift; rw [if_neg (by omega)]
  refine ⟨w', e, ⟨a1, fun q hq => ?_⟩, fun x hx => by rw [a4 x (by omega) (by omega), ms x hx]⟩
  have hq : q < min (pN p) 7 + 1 := hq
  unfold pT pD pAdd
  by_cases y : q = min (pN p) 7
  · simp only [if_pos y]
    rw [y]
    refine ⟨by rw [Nat.zero_add, a2, hd], fun k hk => ?_⟩
    have h0 := M.2 k hk
    rw [Nat.zero_add, a3 k (by omega), a3 (7 + k) (by omega), a3 (14 + k) (by omega)]
    refine ⟨?_, ?_, ?_⟩
    · rw [show 17 + k = 0 + 17 + k by omega]; exact h0.2.1
    · rw [show 17 + (7 + k) = 0 + 24 + k by omega]; exact h0.2.2.2.1
    · rw [show 17 + (14 + k) = 0 + 31 + k by omega]; exact h0.2.2.2.2
  · have o : ∀ c, c < 22 → w' (0 + 125 + 22 * q + c) = if pN p = 8 then w (0 + 125 + 22 * (q + 1) + c) else w (0 + 125 + 22 * q + c) := by
      intro c hc
      rw [a4 _ (by omega) (by omega)]
      unfold mshift
      by_cases z : pN p = 8
      · rw [if_pos (by omega), if_pos z, show 0 + 125 + 22 * q + c + 22 = 0 + 125 + 22 * (q + 1) + c by omega]
      · rw [if_neg (fun q => z q.1), if_neg z]
    have o0 : w' (0 + 125 + 22 * q) = if pN p = 8 then w (0 + 125 + 22 * (q + 1)) else w (0 + 125 + 22 * q) := o 0 (by omega)
    have oc : ∀ c, c < 21 → w' (0 + 125 + 22 * q + 1 + c) = if pN p = 8 then w (0 + 125 + 22 * (q + 1) + 1 + c) else w (0 + 125 + 22 * q + 1 + c) := by
      intro c hc
      rw [Nat.add_assoc _ 1 c, o (1 + c) (by omega), ← Nat.add_assoc, ← Nat.add_assoc]
    by_cases z : pN p = 8
    · simp only [if_neg y, if_pos z]
      have := P.2 (q + 1) (by omega)
      refine ⟨by rw [o0, if_pos z]; exact this.1, fun k hk => ?_⟩
      rw [oc k (by omega), oc (7 + k) (by omega), oc (14 + k) (by omega), if_pos z, if_pos z, if_pos z]
      exact this.2 k hk
    · simp only [if_neg y, if_neg z]
      have := P.2 q (by omega)
      refine ⟨by rw [o0, if_neg z]; exact this.1, fun k hk => ?_⟩
      rw [oc k (by omega), oc (7 + k) (by omega), oc (14 + k) (by omega), if_neg z, if_neg z, if_neg z]
      exact this.2 k hk
