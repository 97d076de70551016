/-! ===== the call undo, both sides ===== -/
theorem x_back_go {fc fp : Nat → Int32} {t : Tb} {p : Ps} (hn : tN t ≤ 7) (P : XP fp (tN t) p) (h8 : pN p ≤ 8) {s : Nat} (hs : s + 1 = pN p) (d : Int32) (hc : ∀ i, i < tN t → fc (i * 5 + 0) = nI (tK t i) ∧ fc (i * 5 + 2) = nI (tW t i)) : ∀ (e j q : Nat) (f : Nat → Int32), j + e = tN t → e < q → (∀ i, i < tN t → f (i * 5 + 0) = fc (i * 5 + 0) ∧ f (i * 5 + 2) = fc (i * 5 + 2)) → (∀ k, k < j → f (k * 5 + 1) = nI (tD (pT p s) k) ∧ f (k * 5 + 3) = nI (tU (pT p s) k) ∧ f (k * 5 + 4) = onv (tO (pT p s) k)) →
    ∃ f', f_X6_goBack_25 (nI (tN t)) fp q d f (nI (pN p)) (nI s) (nI j) = some (d, f', nI (pN p - 1)) ∧ (∀ i, i < tN t → f' (i * 5 + 0) = nI (tK t i) ∧ f' (i * 5 + 1) = nI (tD (pT p s) i) ∧ f' (i * 5 + 2) = nI (tW t i) ∧ f' (i * 5 + 3) = nI (tU (pT p s) i) ∧ f' (i * 5 + 4) = onv (tO (pT p s) i)) := by
  have hP := P s (by omega)
  intro e
  induction e with
  | zero =>
    intro j q f hj hq h0 h1
    obtain ⟨q, rfl⟩ : ∃ q', q = q' + 1 := ⟨q - 1, by omega⟩
    obtain rfl : j = tN t := by omega
    rw [f_X6_goBack_25, x_size, ob1_s, if_pos (nI_le (Nat.le_refl _) (by omega))]
    unfold f_X6_goBack_108
    rw [x_dropLast (by omega) (by omega), ob1_s]
    refine ⟨f, rfl, fun i hi => ?_⟩
    have a := h0 i hi
    have b := h1 i hi
    exact ⟨a.1.trans (hc i hi).1, b.1, a.2.trans (hc i hi).2, b.2.1, b.2.2⟩
  | succ e ih =>
    intro j q f hj hq h0 h1
    obtain ⟨q, rfl⟩ : ∃ q', q = q' + 1 := ⟨q - 1, by omega⟩
    have hjn : j < tN t := by omega
    have hr := hP.2 j hjn
    rw [f_X6_goBack_25, x_size, ob1_s, if_neg (nI_ge (by omega) (by omega)), c13, p_get (by omega) h8 (by omega), ob1_s, hr.1, c_put (C := 1) (c := 1) rfl hjn hn (by omega), ob1_s, c23, p_get (by omega) h8 (by omega), ob1_s, hr.2.1, c_put (C := 3) (c := 3) rfl hjn hn (by omega), ob1_s, c33, p_get (by omega) h8 (by omega), ob1_s, hr.2.2, c_put (C := 4) (c := 4) rfl hjn hn (by omega), ob1_s, nI_1, bnd_s]
    refine ih (j + 1) q _ (by omega) (by omega) (fun i hi => ?_) (fun k hk => ?_)
    · rw [pk_un (by omega), pk_un (by omega), pk_un (by omega), pk_un (by omega), pk_un (by omega), pk_un (by omega)]
      exact h0 i hi
    · by_cases z : k = j
      · subst z
        refine ⟨?_, ?_, ?_⟩
        · rw [pk_un (by omega), pk_un (by omega), pk_us]
        · rw [pk_un (by omega), pk_us]
        · rw [pk_us]
      · have := h1 k (by omega)
        rw [pk_un (by omega), pk_un (by omega), pk_un (by omega), pk_un (by omega), pk_un (by omega), pk_un (by omega), pk_un (by omega), pk_un (by omega), pk_un (by omega)]
        exact this
theorem x_goBack {fc fp : Nat → Int32} {t : Tb} {p : Ps} (X : XT fc t) (hn : tN t ≤ 7) (P : XP fp (tN t) p) (VPp : VP p t) (h0 : pN p ≠ 0) (d : Int32) :
    ∃ fc', f_X6_goBack d (nI (tN t)) fc (nI (pN p)) fp = some (nI (pD p (pN p - 1)), fc', nI (pN p - 1)) ∧ XT fc' (pT p (pN p - 1)) := by
  have h8 := VPp.1
  have r := VPp.2 (pN p - 1) (by omega)
  unfold f_X6_goBack
  rw [x_size, ob1_s, show (1 : Int32) = nI 1 from rfl, nI_sub (show 1 ≤ pN p by omega), bnd_s]
  have e0 : f_X7_get 22 (nI (pN p)) 176 fp (nI (pN p - 1)) 0 = some (fp ((pN p - 1) * 22 + 0)) := p_get (c := 0) (by omega) h8 (by omega)
  rw [e0, ob1_s, (P (pN p - 1) (by omega)).1]
  obtain ⟨f', e1, h1⟩ := x_back_go (fc := fc) hn P h8 (s := pN p - 1) (by omega) (nI (pD p (pN p - 1))) (fun i hi => ⟨(X i hi).1, (X i hi).2.2.1⟩) (tN t) 0 FU fc (by omega) (Nat.lt_of_le_of_lt hn (by decide)) (fun _ _ => ⟨rfl, rfl⟩) (fun k hk => absurd hk (Nat.not_lt_zero k))
  refine ⟨f', e1, fun i hi => ?_⟩
  rw [r.2.2.1] at hi
  have := h1 i hi
  rw [(r.2.2.2 i hi).1, (r.2.2.2 i hi).2]
  exact this
theorem m_undo_go {b : Nat} (hb : 125 ≤ b) (hb2 : b + 22 ≤ 301) (st w0 : Nat → Int32) : ∀ (e j q : Nat) (w : Nat → Int32), j + e = 21 → e < q → (∀ x, w x = if 17 ≤ x ∧ x < 17 + j then w0 (b + 1 + (x - 17)) else w0 x) →
    ∃ w', f_X12_undo_54 q w st (nI b) (nI j) = f_X12_undo_85 w' st ∧ ∀ x, w' x = if 17 ≤ x ∧ x < 17 + 21 then w0 (b + 1 + (x - 17)) else w0 x := by
  intro e
  induction e with
  | zero =>
    intro j q w hj hq h
    obtain ⟨q, rfl⟩ : ∃ q', q = q' + 1 := ⟨q - 1, by omega⟩
    obtain rfl : j = 21 := by omega
    rw [f_X12_undo_54, if_pos (show (21 : Int32) ≤ nI 21 by decide)]
    exact ⟨w, rfl, h⟩
  | succ e ih =>
    intro j q w hj hq h
    obtain ⟨q, rfl⟩ : ∃ q', q = q' + 1 := ⟨q - 1, by omega⟩
    rw [f_X12_undo_54, if_neg (show ¬ (21 : Int32) ≤ nI j from nI_ge (b := 21) (by omega) (by omega)), show (17 : Int32) = nI 17 from rfl, nI_add, nI_1, nI_add, chk_n (by omega) (by omega), chk_n (by omega) (by omega), bnd_s, nI_1, bnd_s, nI_clamp (by omega), nI_clamp (by omega)]
    refine ih (j + 1) q _ (by omega) (by omega) (fun x => ?_)
    have ea : w (b + 1 + j) = w0 (b + 1 + j) := by rw [h, if_neg (by omega)]
    by_cases z : x = 17 + j
    · subst z
      rw [pk_us, ea, if_pos (by omega), show 17 + j - 17 = j by omega]
    · rw [pk_un z, h x]
      by_cases y : 17 ≤ x ∧ x < 17 + j
      · rw [if_pos y, if_pos (by omega)]
      · rw [if_neg y, if_neg (by omega)]
theorem m_undo {n : Nat} (h1 : 1 ≤ n) (h8 : n ≤ 8) {w : Nat → Int32} (h : w 124 = nI n) (st : Nat → Int32) :
    ∃ w', f_X12_undo w st = some (w (125 + 22 * (n - 1)), w', st) ∧ w' 124 = nI (n - 1) ∧ w' 2 = w (125 + 22 * (n - 1)) ∧ (∀ c, c < 21 → w' (17 + c) = w (125 + 22 * (n - 1) + 1 + c)) ∧ ∀ x, x ≠ 124 → x ≠ 2 → (x < 17 ∨ 38 ≤ x) → w' x = w x := by
  unfold f_X12_undo
  rw [show (124 : Int32) = nI 124 from rfl, show (125 : Int32) = nI 125 from rfl, show (22 : Int32) = nI 22 from rfl, show (2 : Int32) = nI 2 from rfl, chk_n (by omega) (by omega), nI_clamp (by omega), h, if_neg (show ¬ nI n = 0 from fun q => by have := (nI_eq (a := n) (b := 0) (by omega) (by omega)).mp q; omega), show (1 : Int32) = nI 1 from rfl, nI_sub h1, chk_n (by omega) (by omega), chk_n (by omega) (by omega), bnd_s, chk_n (by omega) (by omega), pk_us, pk_mul, nI_add, bnd_s, chk_n (by omega) (by omega), chk_n (by omega) (by omega), nI_clamp (by omega), nI_clamp (by omega), bnd_s, pk_un (by omega)]
  obtain ⟨w1, e1, a1⟩ := m_undo_go (b := 125 + 22 * (n - 1)) (by omega) (by omega) st (upd (upd w 124 (nI (n - 1))) 2 (w (125 + 22 * (n - 1)))) 21 0 FU _ (by omega) (by decide) (fun x => by rw [if_neg (by omega)])
  have e1 : f_X12_undo_54 FU (upd (upd w 124 (nI (n - 1))) 2 (w (125 + 22 * (n - 1)))) st (nI (125 + 22 * (n - 1))) 0 = f_X12_undo_85 w1 st := e1
  rw [e1]
  unfold f_X12_undo_85
  have h2 : w1 2 = w (125 + 22 * (n - 1)) := by rw [a1, if_neg (by omega), pk_us]
  rw [show (2 : Int32) = nI 2 from rfl, chk_n (by omega) (by omega), nI_clamp (by omega), h2]
  refine ⟨w1, rfl, ?_, h2, fun c hc => ?_, fun x y1 y2 y3 => ?_⟩
  · rw [a1, if_neg (by omega), pk_un (by omega), pk_us]
  · rw [a1, if_pos (by omega), pk_un (by omega), pk_un (by omega), show 17 + c - 17 = c by omega]
  · rw [a1, if_neg (by omega), pk_un y2, pk_un y1]
section UN
variable {dy cs : Int32} {cc : Nat → Int32} {ms : Int32} {mc : Nat → Int32} {ts : Int32} {tc : Nat → Int32} {ns : Int32} {nc : Nat → Int32} {ks : Int32} {kc : Nat → Int32} {ps : Int32} {pc w : Nat → Int32} {o : Ofc}
theorem c_undo_eq (X : XO dy cs cc ms mc ts tc ns nc ks kc ps pc o) (V : VO o) (M : MO w 0 o) (st st2 : Nat → Int32) :
    ∃ (r : Int32) (c : Option Nat) (o' : Ofc) (dy' : Int32) (cc' : Nat → Int32) (ps' : Int32) (w' : Nat → Int32), f_X11_undo dy cs cc ps pc st = some (r, dy', cc', ps', stx c st) ∧ f_X12_undo w st2 = some (r, w', stx c st2) ∧ (∀ i, c = some i → i < 3) ∧
      XO dy' cs cc' ms mc ts tc ns nc ks kc ps' pc o' ∧ VO o' ∧ MO w' 0 o' ∧ ∀ x, 301 ≤ x → w' x = w x := by
  have X0 := X
  obtain ⟨rfl, rfl, Xc, rfl, Xm, rfl, Xa, rfl, Xb, rfl, Xk, rfl, Xp⟩ := X
  have V0 := V
  obtain ⟨v1, v2, v3, v4, v5, v6, v7⟩ := V
  have M0 := M
  obtain ⟨m1, m2, m3, m4, m5, m6, m7⟩ := M
  have h8 := v7.1
  have hn := v2.1.1
  have h124 : w 124 = nI (pN (oP o)) := by have := m7.1; rw [Nat.zero_add] at this; exact this
  unfold f_X11_undo
  rw [x_size, ob1_s]
  by_cases z : pN (oP o) = 0
  · rw [if_pos (show nI (pN (oP o)) = 0 by rw [z]; rfl), x_no, ob2_s]
    refine ⟨-3, some 1, o, _, _, _, w, rfl, ?_, fun i hi => ?_, X0, V0, M0, fun _ _ => rfl⟩
    · unfold f_X12_undo
      rw [show (124 : Int32) = nI 124 from rfl, chk_n (by omega) (by omega), nI_clamp (by omega), h124, if_pos (show nI (pN (oP o)) = 0 by rw [z]; rfl), m_no, ob2_s]
    · injection hi with hi; omega
  · rw [if_neg (show ¬ nI (pN (oP o)) = 0 from fun q => z ((nI_eq (b := 0) (by omega) (by omega)).mp q))]
    obtain ⟨fc', e1, X1⟩ := x_goBack Xc hn Xp v7 z (nI (oD o))
    rw [e1, ob3_s]
    obtain ⟨w', e2, a1, a2, a3, a4⟩ := m_undo (by omega) h8 h124 st2
    have rr := v7.2 (pN (oP o) - 1) (by omega)
    have hr := m7.2 (pN (oP o) - 1) (by omega)
    rw [Nat.zero_add] at hr
    have hr0 : w (125 + 22 * (pN (oP o) - 1)) = nI (pD (oP o) (pN (oP o) - 1)) := hr.1
    refine ⟨_, none, oBack o, _, fc', _, w', rfl, ?_, fun i hi => (by cases hi), ?_, VO.back V0 z, ?_, fun x hx => a4 x (by omega) (by omega) (by omega)⟩
    · rw [e2, hr0]; rfl
    · refine ⟨rfl, ?_, X1, rfl, Xm, rfl, Xa, rfl, Xb, rfl, Xk, rfl, ?_⟩
      · show nI (tN (oT o)) = nI (tN (pT (oP o) (pN (oP o) - 1)))
        rw [rr.2.2.1]
      · intro q hq
        have hq : q < pN (oP o) - 1 := hq
        show _ ∧ ∀ k, k < tN (pT (oP o) (pN (oP o) - 1)) → _
        rw [rr.2.2.1]
        exact Xp q (by omega)
    · refine ⟨?_, ⟨?_, fun i hi => ?_⟩, MM.fr m3 v3.1 (fun x hx => a4 x (by omega) (by omega) (by omega)), ML.fr (a := oA o) (m := 20) m4 (by have := v4.1; omega) (fun x hx => a4 x (by omega) (by omega) (by omega)), ML.fr (a := oB o) (m := 24) m5 (by have := v5.1; omega) (fun x hx => a4 x (by omega) (by omega) (by omega)), ML.fr (a := oC o) (m := 30) m6 (by have := v6.1; omega) (fun x hx => a4 x (by omega) (by omega) (by omega)), ?_⟩
      · show w' 2 = _
        rw [a2, hr0]; rfl
      · show w' 0 = nI (tN (pT (oP o) (pN (oP o) - 1)))
        rw [a4 0 (by omega) (by omega) (by omega), rr.2.2.1]; exact m2.1
      · have hi : i < tN (pT (oP o) (pN (oP o) - 1)) := hi
        rw [rr.2.2.1] at hi
        have b := m2.2 i hi
        have c := hr.2 i hi
        rw [Nat.zero_add, Nat.zero_add, Nat.zero_add, Nat.zero_add, Nat.zero_add] at b ⊢
        rw [a4 (3 + i) (by omega) (by omega) (by omega), a4 (10 + i) (by omega) (by omega) (by omega), a3 i (by omega), show 24 + i = 17 + (7 + i) by omega, a3 (7 + i) (by omega), show 31 + i = 17 + (14 + i) by omega, a3 (14 + i) (by omega)]
        refine ⟨?_, c.1, ?_, c.2.1, c.2.2⟩
        · show _ = nI (tK (pT (oP o) (pN (oP o) - 1)) i)
          rw [(rr.2.2.2 i hi).1]; exact b.1
        · show _ = nI (tW (pT (oP o) (pN (oP o) - 1)) i)
          rw [(rr.2.2.2 i hi).2]; exact b.2.2.1
      · refine ⟨a1, fun q hq => ?_⟩
        have hq : q < pN (oP o) - 1 := hq
        show w' (0 + 125 + 22 * q) = _ ∧ ∀ k, k < tN (pT (oP o) (pN (oP o) - 1)) → _
        rw [rr.2.2.1]
        have c := m7.2 q (by omega)
        refine ⟨by rw [a4 _ (by omega) (by omega) (by omega)]; exact c.1, fun k hk => ?_⟩
        rw [a4 _ (by omega) (by omega) (by omega), a4 _ (by omega) (by omega) (by omega), a4 _ (by omega) (by omega) (by omega)]
        exact c.2 k hk
end UN
