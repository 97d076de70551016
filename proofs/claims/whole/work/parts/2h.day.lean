/-! ===== the call day, both sides ===== -/
theorem onN_O {t t' : Tb} (h0 : tN t' = tN t) (h : tO t' = tO t) (o : Option Nat) : onN t' o = onN t o := by unfold onN; rw [h0, h]
theorem VH.to {t t' : Tb} (H : VH t) (V : VT t') (h0 : tN t' = tN t) (h : tO t' = tO t) : VH t' := ⟨V, fun j hj => by rw [onN_O h0 h]; exact H.2 j (h0 ▸ hj)⟩
theorem dyT_H (g : Mg) (e d : Nat) {t : Tb} (H : VH t) : VH (dyT g e d t) := VH.to H (dyT_V g e d t H.1) (dyT_n g e d t).1 (dyT_n g e d t).2.2.2
section DY
variable {dy cs : Int32} {cc : Nat → Int32} {ms : Int32} {mc : Nat → Int32} {ts : Int32} {tc : Nat → Int32} {ns : Int32} {nc : Nat → Int32} {ks : Int32} {kc : Nat → Int32} {ps : Int32} {pc w : Nat → Int32} {o : Ofc}
theorem c_day_eq (X : XO dy cs cc ms mc ts tc ns nc ks kc ps pc o) (V : VO o) (M : MO w 0 o) (st st2 : Nat → Int32) (went : Int32) (ways : Nat → Int32) (x1 : Int32) :
    ∃ (r : Int32) (c : Option Nat) (o' : Ofc) (dy' : Int32) (cc' : Nat → Int32) (ps' : Int32) (pc' : Nat → Int32) (went' : Int32) (w' ways' : Nat → Int32), f_X11_day dy cs cc ms mc ps pc st x1 = some (r, dy', cc', ps', pc', stx c st) ∧ f_X12_day went w st2 ways x1 = some (r, went', w', stx c st2, ways') ∧ (∀ i, c = some i → i < 3) ∧
      XO dy' cs cc' ms mc ts tc ns nc ks kc ps' pc' o' ∧ VO o' ∧ MO w' 0 o' ∧ ∀ x, 301 ≤ x → w' x = w x := by
  have X0 := X
  obtain ⟨rfl, rfl, Xc, rfl, Xm, rfl, Xa, rfl, Xb, rfl, Xk, rfl, Xp⟩ := X
  have V0 := V
  obtain ⟨v1, v2, v3, v4, v5, v6, v7⟩ := V
  have M0 := M
  obtain ⟨m1, m2, m3, m4, m5, m6, m7⟩ := M
  have h8 := v7.1
  have hn := v2.1.1
  rw [Nat.zero_add] at m1
  unfold f_X11_day f_X12_day
  rw [x_within, m_in, ob1_s, ob1_s]
  have e1 : (1 : Int32).toInt = (1 : Int64).toInt := rfl
  have e60 : (60 : Int32).toInt = (60 : Int64).toInt := rfl
  rw [e1, e60]
  by_cases h2 : (1 : Int64).toInt ≤ x1.toInt ∧ x1.toInt ≤ (60 : Int64).toInt
  · rw [if_pos h2, if_neg (show ¬ (1 : Int32) = 0 by decide), if_neg (show ¬ (1 : Int32) = 0 by decide)]
    have h2 : 1 ≤ x1.toInt ∧ x1.toInt ≤ 60 := h2
    obtain ⟨N, rfl, hN, -⟩ := nat_of (show 0 ≤ x1.toInt by omega)
    obtain ⟨pc', a1, P1⟩ := x_remember Xc v2.1 (d := oD o) Xp h8
    obtain ⟨fc', b1, X1⟩ := x_passDays Xc v2.1 Xm v3 v1 (N := N) (by omega)
    obtain ⟨w1, a2, P2, hs1⟩ := m_minds_P m2 v2.1 m1 m7 h8
    obtain ⟨w2, ways2, b2, M2, G2, hd2, hs2⟩ := m_day_go v3 st2 (N := N) (by omega) N 0 FU (oD o) (oT o) w1 ways 0 (by omega) (Nat.lt_of_le_of_lt (show N ≤ 60 by omega) (by decide)) v1 (MT.fr m2 hn (fun x _ _ _ _ => hs1 x (Or.inl (by omega)))) v2.1 (MM.fr m3 v3.1 (fun x hx => hs1 x (Or.inl (by omega)))) ((hs1 2 (by omega)).trans m1)
    have b2 : f_X12_day_30 FU 0 w1 st2 ways (nI N) 0 = f_X12_day_58 (nI (dyW (oG o) (min N (999 - oD o)) (oD o) (oT o) 0)) w2 st2 ways2 := b2
    have dn := dyT_n (oG o) (min N (999 - oD o)) (oD o) (oT o)
    have fr : ∀ x, (x = 47 ∨ x = 68 ∨ x = 93 ∨ (48 ≤ x ∧ x < 124) ∨ 301 ≤ x) → w2 x = w x := fun x hx => by rw [hs2 x (by omega) (by omega), hs1 x (by omega)]
    refine ⟨nI (dyW (oG o) (min N (999 - oD o)) (oD o) (oT o) 0), none, (oD o + min N (999 - oD o), dyT (oG o) (min N (999 - oD o)) (oD o) (oT o), oG o, oA o, oB o, oC o, pAdd (oP o) (oD o) (oT o)), nI (oD o + min N (999 - oD o)), fc', nI (pN (pAdd (oP o) (oD o) (oT o))), pc', nI (dyW (oG o) (min N (999 - oD o)) (oD o) (oT o) 0), w2, ways2, ?_, ?_, fun i hi => (by cases hi), ⟨rfl, ?_, X1, rfl, Xm, rfl, Xa, rfl, Xb, rfl, Xk, rfl, ?_⟩, ⟨?_, dyT_H _ _ _ v2, v3, ?_, ?_, v6, ?_⟩, ⟨hd2, M2, G2, ?_, ?_, ?_, ?_⟩, fun x hx => fr x (by omega)⟩
    · rw [a1, ob2_s, b1, ob3_s]; rfl
    · rw [a2, ob1_s, b2]; rfl
    · show nI (tN (oT o)) = nI (tN (dyT (oG o) (min N (999 - oD o)) (oD o) (oT o)))
      rw [dn.1]
    · show XP pc' (tN (dyT (oG o) (min N (999 - oD o)) (oD o) (oT o))) _
      rw [dn.1]; exact P1
    · show oD o + min N (999 - oD o) ≤ 999
      omega
    · show VA (tN (dyT (oG o) (min N (999 - oD o)) (oD o) (oT o))) _
      rw [dn.1]; exact v4
    · show VB (tN (dyT (oG o) (min N (999 - oD o)) (oD o) (oT o))) _
      rw [dn.1]; exact v5
    · exact VP.to (VP.add v7 v2 v1) dn.1 (fun i _ => ⟨congrFun dn.2.1 i, congrFun dn.2.2.1 i⟩)
    · exact ML.fr (a := oA o) (m := 20) m4 (by have := v4.1; omega) (fun x hx => fr x (by omega))
    · exact ML.fr (a := oB o) (m := 24) m5 (by have := v5.1; omega) (fun x hx => fr x (by omega))
    · exact ML.fr (a := oC o) (m := 30) m6 (by have := v6.1; omega) (fun x hx => fr x (by omega))
    · show MP w2 0 (tN (dyT (oG o) (min N (999 - oD o)) (oD o) (oT o))) _
      rw [dn.1]
      exact MP.fr P2 hn (by show min (pN (oP o)) 7 + 1 ≤ 8; omega) (fun x h1 h2 => hs2 x (by omega) (by omega))
  · rw [if_neg h2, if_pos rfl, if_pos rfl, x_bad, m_bad, ob2_s, ob2_s]
    refine ⟨-2, some 0, o, _, cc, _, pc, went, w, ways, rfl, rfl, fun i hi => ?_, X0, V0, M0, fun _ _ => rfl⟩
    injection hi with hi; omega
end DY
