/-! ===== the calls told, note, mark, forget, both sides (laid by wip/gen/mk_lists.py) ===== -/
def row5 (a b c d e : Int32) (k : Nat) : Int32 := if k = 0 then a else if k = 1 then b else if k = 2 then c else if k = 3 then d else e
def addL (a : Ls) (v : Nat → Int32) : Ls := (a.1 + 1, fun i c => if i = a.1 then v c else a.2 i c)
theorem addL_4 {f : Nat → Int32} {a : Ls} (X : XL 4 f a) (p q r s e : Int32) : XL 4 (add4 f (a.1 * 4) p q r s) (addL a (row5 p q r s e)) := by
  intro i hi c hc
  have hi : i < a.1 + 1 := hi
  show _ = (if i = a.1 then row5 p q r s e c else a.2 i c)
  unfold add4
  by_cases z : i = a.1
  · rw [if_pos z, z]
    rcases (show c = 0 ∨ c = 1 ∨ c = 2 ∨ c = 3 by omega) with rfl | rfl | rfl | rfl
    · rw [pk_un (by omega), pk_un (by omega), pk_un (by omega), pk_us]; rfl
    · rw [pk_un (by omega), pk_un (by omega), pk_us]; rfl
    · rw [pk_un (by omega), pk_us]; rfl
    · rw [pk_us]; rfl
  · rw [if_neg z, pk_un (by omega), pk_un (by omega), pk_un (by omega), pk_un (by omega)]
    exact X i (by omega) c hc
theorem addL_5 {f : Nat → Int32} {a : Ls} (X : XL 5 f a) (p q r s e : Int32) : XL 5 (add5 f (a.1 * 5) p q r s e) (addL a (row5 p q r s e)) := by
  intro i hi c hc
  have hi : i < a.1 + 1 := hi
  show _ = (if i = a.1 then row5 p q r s e c else a.2 i c)
  unfold add5
  by_cases z : i = a.1
  · rw [if_pos z, z]
    rcases (show c = 0 ∨ c = 1 ∨ c = 2 ∨ c = 3 ∨ c = 4 by omega) with rfl | rfl | rfl | rfl | rfl
    · rw [pk_un (by omega), pk_un (by omega), pk_un (by omega), pk_un (by omega), pk_us]; rfl
    · rw [pk_un (by omega), pk_un (by omega), pk_un (by omega), pk_us]; rfl
    · rw [pk_un (by omega), pk_un (by omega), pk_us]; rfl
    · rw [pk_un (by omega), pk_us]; rfl
    · rw [pk_us]; rfl
  · rw [if_neg z, pk_un (by omega), pk_un (by omega), pk_un (by omega), pk_un (by omega), pk_un (by omega)]
    exact X i (by omega) c hc
theorem x_isTug (v : Int32) : f_X11_isTug v = some (if (1 : Int64).toInt ≤ v.toInt ∧ v.toInt ≤ (20 : Int64).toInt then 1 else 0) := by
  unfold f_X11_isTug; rw [x_within, ob1_s, chb_01]; rfl
theorem chk_c {α : Type} {k : Option α} (C : Int32) (i : Nat) (hC : C = nI i) (h : i < 1251) : chk C 1251 k = k := by rw [hC]; exact chk_n h (by omega)
theorem cl_c (C : Int32) (i : Nat) (hC : C = nI i) (h : i < 2 ^ 31) : C.toNatClampNeg = i := by rw [hC]; exact nI_clamp h
theorem nI_2' (k : Nat) : nI k + 2 = nI (k + 2) := nI_add k 2
theorem nI_3' (k : Nat) : nI k + 3 = nI (k + 3) := nI_add k 3
theorem nI_4' (k : Nat) : nI k + 4 = nI (k + 4) := nI_add k 4
section LI
variable {dy cs : Int32} {cc : Nat → Int32} {ms : Int32} {mc : Nat → Int32} {ts : Int32} {tc : Nat → Int32} {ns : Int32} {nc : Nat → Int32} {ks : Int32} {kc : Nat → Int32} {ps : Int32} {pc w : Nat → Int32} {o : Ofc}
theorem c_told_eq (X : XO dy cs cc ms mc ts tc ns nc ks kc ps pc o) (V : VO o) (M : MO w 0 o) (st st2 : Nat → Int32) (x1 x2 x3 x4 : Int32) :
    ∃ (r : Int32) (c : Option Nat) (o' : Ofc) (ts' : Int32) (tc' w' : Nat → Int32), f_X11_told cs ts tc st x1 x2 x3 x4 = some (r, ts', tc', stx c st) ∧ f_X12_told w st2 x1 x2 x3 x4 = some (r, w', stx c st2) ∧ (∀ i, c = some i → i < 3) ∧
      XO dy cs cc ms mc ts' tc' ns nc ks kc ps pc o' ∧ VO o' ∧ MO w' 0 o' ∧ ∀ x, 301 ≤ x → w' x = w x := by
  have hbad : ∃ (r : Int32) (c : Option Nat) (o' : Ofc) (ts' : Int32) (tc' w' : Nat → Int32), f_X11_told_34 cs ts tc st = some (r, ts', tc', stx c st) ∧ f_X12_told_41 w st2 = some (r, w', stx c st2) ∧ (∀ i, c = some i → i < 3) ∧
      XO dy cs cc ms mc ts' tc' ns nc ks kc ps pc o' ∧ VO o' ∧ MO w' 0 o' ∧ ∀ x, 301 ≤ x → w' x = w x := by
    refine ⟨-2, some 0, o, ts, tc, w, ?_, ?_, fun i hi => ?_, X, V, M, fun _ _ => rfl⟩
    · unfold f_X11_told_34; rw [x_bad, ob2_s]
    · unfold f_X12_told_41; rw [m_bad, ob2_s]; rfl
    · injection hi with hi; omega
  have X0 := X
  have V0 := V
  have M0 := M
  obtain ⟨rfl, rfl, Xc, rfl, Xm, rfl, Xa, rfl, Xb, rfl, Xk, rfl, Xp⟩ := X
  obtain ⟨v1, v2, v3, v4, v5, v6, v7⟩ := V
  obtain ⟨m1, m2, m3, m4, m5, m6, m7⟩ := M
  have hn := v2.1.1
  have hg := v3.1
  have hl := v4.1
  unfold f_X11_told f_X12_told
  rw [x_isClerk (by omega), m_isClerk m2 v2.1, ob1_s, ob1_s]
  by_cases h1 : wthn x1 (tN (oT o)) = true
  · rw [if_pos h1, if_neg one_ne, if_neg one_ne]
    rw [x_isTug, m_in, ob1_s, ob1_s]
    by_cases h2 : (1 : Int64).toInt ≤ x2.toInt ∧ x2.toInt ≤ (20 : Int64).toInt
    · rw [if_pos h2, if_neg one_ne, if_neg one_ne]
      rw [x_isClerk (by omega), m_isClerk m2 v2.1, ob1_s, ob1_s]
      by_cases h3 : wthn x3 (tN (oT o)) = true
      · rw [if_pos h3, if_neg one_ne, if_neg one_ne]
        rw [x_within, m_in, ob1_s, ob1_s, show (0 : Int32).toInt = (0 : Int64).toInt from rfl, show (20 : Int32).toInt = (20 : Int64).toInt from rfl]
        by_cases h4 : (0 : Int64).toInt ≤ x4.toInt ∧ x4.toInt ≤ (20 : Int64).toInt
        · rw [if_pos h4, if_neg one_ne, if_neg one_ne]
          obtain ⟨k1, rfl, g1⟩ := wthn_n h1
          have h2 : (1 : Int) ≤ x2.toInt ∧ x2.toInt ≤ 20 := h2
          obtain ⟨k2, rfl, g2, -⟩ := nat_of (show 0 ≤ x2.toInt by omega)
          obtain ⟨k3, rfl, g3⟩ := wthn_n h3
          have h4 : (0 : Int) ≤ x4.toInt ∧ x4.toInt ≤ 20 := h4
          obtain ⟨k4, rfl, g4, -⟩ := nat_of (show 0 ≤ x4.toInt by omega)
          have ef : f_X7_isFull 5 (nI (oA o).1) = some (if (oA o).1 < 5 then 0 else 1) := x_isFull (most := 5) (by omega) hl
          have hc : w 47 = nI (oA o).1 := by have := m4.1; rw [Nat.zero_add] at this; exact this
          unfold f_X11_keep
          rw [ef, ob1_s, chk_c 47 47 rfl (by omega), cl_c 47 47 rfl (by omega), hc]
          by_cases z : (oA o).1 < 5
          · rw [if_pos z, if_pos rfl, if_neg (show ¬ nI (oA o).1 = 5 from fun q => by have := (nI_eq (b := 5) (by omega) (by omega)).mp q; omega)]
            have ea := x_add4 (m := 5) (s := (oA o).1) (f := tc) (by omega) z (nI k1) (nI k2) (nI k3) (nI k4) 0
            have ea : f_X7_add 5 4 (nI (oA o).1) 20 tc (nI k1) (nI k2) (nI k3) (nI k4) 0 = some (nI (oA o).1, nI ((oA o).1 + 1), add4 tc ((oA o).1 * 4) (nI k1) (nI k2) (nI k3) (nI k4)) := ea
            have eb : (48 : Int32) + 4 * nI (oA o).1 = nI (48 + 4 * (oA o).1) := by
              have e : (4 : Int32) * nI (oA o).1 = nI (4 * (oA o).1) := pk_mul 4 _
              rw [e]; exact nI_add 48 _
            have hc2 : (upd (upd (upd (upd w (48 + 4 * (oA o).1) (nI k1)) (48 + 4 * (oA o).1 + 1) (nI k2)) (48 + 4 * (oA o).1 + 2) (nI k3)) (48 + 4 * (oA o).1 + 3) (nI k4)) 47 = nI (oA o).1 := by rw [pk_un (by omega), pk_un (by omega), pk_un (by omega), pk_un (by omega), hc]
            have fr : ∀ y, y ≠ 47 → (y < 48 ∨ 68 ≤ y) → (upd (upd (upd (upd (upd w (48 + 4 * (oA o).1) (nI k1)) (48 + 4 * (oA o).1 + 1) (nI k2)) (48 + 4 * (oA o).1 + 2) (nI k3)) (48 + 4 * (oA o).1 + 3) (nI k4)) 47 (nI ((oA o).1 + 1))) y = w y := fun y h1 h2 => by rw [pk_un (by omega), pk_un (by omega), pk_un (by omega), pk_un (by omega), pk_un (by omega)]
            refine ⟨nI ((oA o).1 + 1), none, (oD o, oT o, oG o, addL (oA o) (row5 (nI k1) (nI k2) (nI k3) (nI k4) 0), oB o, oC o, oP o), _, _, upd (upd (upd (upd (upd w (48 + 4 * (oA o).1) (nI k1)) (48 + 4 * (oA o).1 + 1) (nI k2)) (48 + 4 * (oA o).1 + 2) (nI k3)) (48 + 4 * (oA o).1 + 3) (nI k4)) 47 (nI ((oA o).1 + 1)), ?_, ?_, fun i hi => (by cases hi), ⟨rfl, rfl, Xc, rfl, Xm, rfl, addL_4 Xa _ _ _ _ _, rfl, Xb, rfl, Xk, rfl, Xp⟩, ⟨v1, v2, v3, ?_, v5, v6, v7⟩, ⟨?_, ?_, ?_, ?_, ?_, ?_, ?_⟩, fun y hy => fr y (by omega) (by omega)⟩
            · rw [ea, ob3_s, x_size, ob1_s, ob4_s]; rfl
            · rw [chk_c 47 47 rfl (by omega), eb, bnd_s, chk_n (by omega) (by omega), bnd_s, nI_clamp (by omega), nI_1, chk_n (by omega) (by omega), bnd_s, nI_clamp (by omega), nI_2', chk_n (by omega) (by omega), bnd_s, nI_clamp (by omega), nI_3', chk_n (by omega) (by omega), bnd_s, nI_clamp (by omega), chk_c 47 47 rfl (by omega), chk_c 47 47 rfl (by omega), hc2, nI_1, bnd_s, chk_c 47 47 rfl (by omega), pk_us]
              rfl
            · refine ⟨show (oA o).1 + 1 ≤ 5 by omega, fun i hi => ?_⟩
              have hi : i < (oA o).1 + 1 := hi
              show ∃ x y z u : Nat, (if i = (oA o).1 then row5 (nI k1) (nI k2) (nI k3) (nI k4) 0 0 else (oA o).2 i 0) = nI x ∧ (if i = (oA o).1 then row5 (nI k1) (nI k2) (nI k3) (nI k4) 0 1 else (oA o).2 i 1) = nI y ∧ (if i = (oA o).1 then row5 (nI k1) (nI k2) (nI k3) (nI k4) 0 2 else (oA o).2 i 2) = nI z ∧ (if i = (oA o).1 then row5 (nI k1) (nI k2) (nI k3) (nI k4) 0 3 else (oA o).2 i 3) = nI u ∧ _
              by_cases y : i = (oA o).1
              · simp only [if_pos y]
                exact ⟨k1, k2, k3, k4, rfl, rfl, rfl, rfl, by omega, by omega, by omega, by omega, by omega⟩
              · simp only [if_neg y]
                exact v4.2 i (by omega)
            · rw [fr _ (by omega) (by omega)]; exact m1
            · exact MT.fr m2 hn (fun y _ _ _ _ => fr y (by omega) (by omega))
            · exact MM.fr m3 hg (fun y hy => fr y (by omega) (by omega))
            · refine ⟨by rw [Nat.zero_add, pk_us]; rfl, fun i hi c hc => ?_⟩
              have hi : i < (oA o).1 + 1 := hi
              show _ = (if i = (oA o).1 then row5 (nI k1) (nI k2) (nI k3) (nI k4) 0 c else (oA o).2 i c)
              rw [Nat.zero_add]
              by_cases y : i = (oA o).1
              · rw [if_pos y, y]
                rcases (show c = 0 ∨ c = 1 ∨ c = 2 ∨ c = 3 by omega) with rfl | rfl | rfl | rfl
                · rw [pk_un (by omega), pk_un (by omega), pk_un (by omega), pk_un (by omega)]; exact pk_us
                · rw [pk_un (by omega), pk_un (by omega), pk_un (by omega), pk_us]; rfl
                · rw [pk_un (by omega), pk_un (by omega), pk_us]; rfl
                · rw [pk_un (by omega), pk_us]; rfl
              · rw [if_neg y, pk_un (by omega), pk_un (by omega), pk_un (by omega), pk_un (by omega), pk_un (by omega)]
                have := m4.2 i (by omega) c hc
                rw [Nat.zero_add] at this
                exact this
            · exact ML.fr (a := oB o) (m := 24) m5 (by have := v5.1; omega) (fun y hy => fr y (by omega) (by omega))
            · exact ML.fr (a := oC o) (m := 30) m6 (by have := v6.1; omega) (fun y hy => fr y (by omega) (by omega))
            · exact MP.fr m7 hn v7.1 (fun y h1 h2 => fr y (by omega) (by omega))
          · rw [if_neg z, if_neg one_ne, if_pos (show nI (oA o).1 = 5 by rw [show (oA o).1 = 5 by omega]; rfl), x_full, m_full, ob2_s, ob2_s, ob4_s]
            refine ⟨-4, some 2, o, _, tc, w, rfl, rfl, fun i hi => ?_, X0, V0, M0, fun _ _ => rfl⟩
            injection hi with hi; omega
        · rw [if_neg h4, if_pos rfl, if_pos rfl]; exact hbad
      · rw [if_neg h3, if_pos rfl, if_pos rfl]; exact hbad
    · rw [if_neg h2, if_pos rfl, if_pos rfl]; exact hbad
  · rw [if_neg h1, if_pos rfl, if_pos rfl]; exact hbad
theorem c_note_eq (X : XO dy cs cc ms mc ts tc ns nc ks kc ps pc o) (V : VO o) (M : MO w 0 o) (st st2 : Nat → Int32) (x1 x2 x3 x4 : Int32) :
    ∃ (r : Int32) (c : Option Nat) (o' : Ofc) (ns' : Int32) (nc' w' : Nat → Int32), f_X11_note cs ns nc st x1 x2 x3 x4 = some (r, ns', nc', stx c st) ∧ f_X12_note w st2 x1 x2 x3 x4 = some (r, w', stx c st2) ∧ (∀ i, c = some i → i < 3) ∧
      XO dy cs cc ms mc ts tc ns' nc' ks kc ps pc o' ∧ VO o' ∧ MO w' 0 o' ∧ ∀ x, 301 ≤ x → w' x = w x := by
  have hbad : ∃ (r : Int32) (c : Option Nat) (o' : Ofc) (ns' : Int32) (nc' w' : Nat → Int32), f_X11_note_36 cs ns nc st = some (r, ns', nc', stx c st) ∧ f_X12_note_45 w st2 = some (r, w', stx c st2) ∧ (∀ i, c = some i → i < 3) ∧
      XO dy cs cc ms mc ts tc ns' nc' ks kc ps pc o' ∧ VO o' ∧ MO w' 0 o' ∧ ∀ x, 301 ≤ x → w' x = w x := by
    refine ⟨-2, some 0, o, ns, nc, w, ?_, ?_, fun i hi => ?_, X, V, M, fun _ _ => rfl⟩
    · unfold f_X11_note_36; rw [x_bad, ob2_s]
    · unfold f_X12_note_45; rw [m_bad, ob2_s]; rfl
    · injection hi with hi; omega
  have X0 := X
  have V0 := V
  have M0 := M
  obtain ⟨rfl, rfl, Xc, rfl, Xm, rfl, Xa, rfl, Xb, rfl, Xk, rfl, Xp⟩ := X
  obtain ⟨v1, v2, v3, v4, v5, v6, v7⟩ := V
  obtain ⟨m1, m2, m3, m4, m5, m6, m7⟩ := M
  have hn := v2.1.1
  have hg := v3.1
  have hl := v5.1
  unfold f_X11_note f_X12_note
  rw [x_isClerk (by omega), m_isClerk m2 v2.1, ob1_s, ob1_s]
  by_cases h1 : wthn x1 (tN (oT o)) = true
  · rw [if_pos h1, if_neg one_ne, if_neg one_ne]
    rw [x_isTug, m_in, ob1_s, ob1_s]
    by_cases h2 : (1 : Int64).toInt ≤ x2.toInt ∧ x2.toInt ≤ (20 : Int64).toInt
    · rw [if_pos h2, if_neg one_ne, if_neg one_ne]
      rw [x_within, m_in, ob1_s, ob1_s, show (0 : Int32).toInt = (0 : Int64).toInt from rfl, show (99 : Int32).toInt = (99 : Int64).toInt from rfl]
      by_cases h3 : (0 : Int64).toInt ≤ x3.toInt ∧ x3.toInt ≤ (99 : Int64).toInt
      · rw [if_pos h3, if_neg one_ne, if_neg one_ne]
        rw [x_within, m_in, ob1_s, ob1_s, show (0 : Int32).toInt = (0 : Int64).toInt from rfl, show (20 : Int32).toInt = (20 : Int64).toInt from rfl]
        by_cases h4 : (0 : Int64).toInt ≤ x4.toInt ∧ x4.toInt ≤ (20 : Int64).toInt
        · rw [if_pos h4, if_neg one_ne, if_neg one_ne]
          obtain ⟨k1, rfl, g1⟩ := wthn_n h1
          have h2 : (1 : Int) ≤ x2.toInt ∧ x2.toInt ≤ 20 := h2
          obtain ⟨k2, rfl, g2, -⟩ := nat_of (show 0 ≤ x2.toInt by omega)
          have h3 : (0 : Int) ≤ x3.toInt ∧ x3.toInt ≤ 99 := h3
          obtain ⟨k3, rfl, g3, -⟩ := nat_of (show 0 ≤ x3.toInt by omega)
          have h4 : (0 : Int) ≤ x4.toInt ∧ x4.toInt ≤ 20 := h4
          obtain ⟨k4, rfl, g4, -⟩ := nat_of (show 0 ≤ x4.toInt by omega)
          have ef : f_X7_isFull 6 (nI (oB o).1) = some (if (oB o).1 < 6 then 0 else 1) := x_isFull (most := 6) (by omega) hl
          have hc : w 68 = nI (oB o).1 := by have := m5.1; rw [Nat.zero_add] at this; exact this
          unfold f_X11_keep
          rw [ef, ob1_s, chk_c 68 68 rfl (by omega), cl_c 68 68 rfl (by omega), hc]
          by_cases z : (oB o).1 < 6
          · rw [if_pos z, if_pos rfl, if_neg (show ¬ nI (oB o).1 = 6 from fun q => by have := (nI_eq (b := 6) (by omega) (by omega)).mp q; omega)]
            have ea := x_add4 (m := 6) (s := (oB o).1) (f := nc) (by omega) z (nI k1) (nI k2) (nI k3) (nI k4) 0
            have ea : f_X7_add 6 4 (nI (oB o).1) 24 nc (nI k1) (nI k2) (nI k3) (nI k4) 0 = some (nI (oB o).1, nI ((oB o).1 + 1), add4 nc ((oB o).1 * 4) (nI k1) (nI k2) (nI k3) (nI k4)) := ea
            have eb : (69 : Int32) + 4 * nI (oB o).1 = nI (69 + 4 * (oB o).1) := by
              have e : (4 : Int32) * nI (oB o).1 = nI (4 * (oB o).1) := pk_mul 4 _
              rw [e]; exact nI_add 69 _
            have hc2 : (upd (upd (upd (upd w (69 + 4 * (oB o).1) (nI k1)) (69 + 4 * (oB o).1 + 1) (nI k2)) (69 + 4 * (oB o).1 + 2) (nI k3)) (69 + 4 * (oB o).1 + 3) (nI k4)) 68 = nI (oB o).1 := by rw [pk_un (by omega), pk_un (by omega), pk_un (by omega), pk_un (by omega), hc]
            have fr : ∀ y, y ≠ 68 → (y < 69 ∨ 93 ≤ y) → (upd (upd (upd (upd (upd w (69 + 4 * (oB o).1) (nI k1)) (69 + 4 * (oB o).1 + 1) (nI k2)) (69 + 4 * (oB o).1 + 2) (nI k3)) (69 + 4 * (oB o).1 + 3) (nI k4)) 68 (nI ((oB o).1 + 1))) y = w y := fun y h1 h2 => by rw [pk_un (by omega), pk_un (by omega), pk_un (by omega), pk_un (by omega), pk_un (by omega)]
            refine ⟨nI ((oB o).1 + 1), none, (oD o, oT o, oG o, oA o, addL (oB o) (row5 (nI k1) (nI k2) (nI k3) (nI k4) 0), oC o, oP o), _, _, upd (upd (upd (upd (upd w (69 + 4 * (oB o).1) (nI k1)) (69 + 4 * (oB o).1 + 1) (nI k2)) (69 + 4 * (oB o).1 + 2) (nI k3)) (69 + 4 * (oB o).1 + 3) (nI k4)) 68 (nI ((oB o).1 + 1)), ?_, ?_, fun i hi => (by cases hi), ⟨rfl, rfl, Xc, rfl, Xm, rfl, Xa, rfl, addL_4 Xb _ _ _ _ _, rfl, Xk, rfl, Xp⟩, ⟨v1, v2, v3, v4, ?_, v6, v7⟩, ⟨?_, ?_, ?_, ?_, ?_, ?_, ?_⟩, fun y hy => fr y (by omega) (by omega)⟩
            · rw [ea, ob3_s, x_size, ob1_s, ob4_s]; rfl
            · rw [chk_c 68 68 rfl (by omega), eb, bnd_s, chk_n (by omega) (by omega), bnd_s, nI_clamp (by omega), nI_1, chk_n (by omega) (by omega), bnd_s, nI_clamp (by omega), nI_2', chk_n (by omega) (by omega), bnd_s, nI_clamp (by omega), nI_3', chk_n (by omega) (by omega), bnd_s, nI_clamp (by omega), chk_c 68 68 rfl (by omega), chk_c 68 68 rfl (by omega), hc2, nI_1, bnd_s, chk_c 68 68 rfl (by omega), pk_us]
              rfl
            · refine ⟨show (oB o).1 + 1 ≤ 6 by omega, fun i hi => ?_⟩
              have hi : i < (oB o).1 + 1 := hi
              show ∃ x y z u : Nat, (if i = (oB o).1 then row5 (nI k1) (nI k2) (nI k3) (nI k4) 0 0 else (oB o).2 i 0) = nI x ∧ (if i = (oB o).1 then row5 (nI k1) (nI k2) (nI k3) (nI k4) 0 1 else (oB o).2 i 1) = nI y ∧ (if i = (oB o).1 then row5 (nI k1) (nI k2) (nI k3) (nI k4) 0 2 else (oB o).2 i 2) = nI z ∧ (if i = (oB o).1 then row5 (nI k1) (nI k2) (nI k3) (nI k4) 0 3 else (oB o).2 i 3) = nI u ∧ _
              by_cases y : i = (oB o).1
              · simp only [if_pos y]
                exact ⟨k1, k2, k3, k4, rfl, rfl, rfl, rfl, by omega, by omega, by omega, by omega, by omega⟩
              · simp only [if_neg y]
                exact v5.2 i (by omega)
            · rw [fr _ (by omega) (by omega)]; exact m1
            · exact MT.fr m2 hn (fun y _ _ _ _ => fr y (by omega) (by omega))
            · exact MM.fr m3 hg (fun y hy => fr y (by omega) (by omega))
            · exact ML.fr (a := oA o) (m := 20) m4 (by have := v4.1; omega) (fun y hy => fr y (by omega) (by omega))
            · refine ⟨by rw [Nat.zero_add, pk_us]; rfl, fun i hi c hc => ?_⟩
              have hi : i < (oB o).1 + 1 := hi
              show _ = (if i = (oB o).1 then row5 (nI k1) (nI k2) (nI k3) (nI k4) 0 c else (oB o).2 i c)
              rw [Nat.zero_add]
              by_cases y : i = (oB o).1
              · rw [if_pos y, y]
                rcases (show c = 0 ∨ c = 1 ∨ c = 2 ∨ c = 3 by omega) with rfl | rfl | rfl | rfl
                · rw [pk_un (by omega), pk_un (by omega), pk_un (by omega), pk_un (by omega)]; exact pk_us
                · rw [pk_un (by omega), pk_un (by omega), pk_un (by omega), pk_us]; rfl
                · rw [pk_un (by omega), pk_un (by omega), pk_us]; rfl
                · rw [pk_un (by omega), pk_us]; rfl
              · rw [if_neg y, pk_un (by omega), pk_un (by omega), pk_un (by omega), pk_un (by omega), pk_un (by omega)]
                have := m5.2 i (by omega) c hc
                rw [Nat.zero_add] at this
                exact this
            · exact ML.fr (a := oC o) (m := 30) m6 (by have := v6.1; omega) (fun y hy => fr y (by omega) (by omega))
            · exact MP.fr m7 hn v7.1 (fun y h1 h2 => fr y (by omega) (by omega))
          · rw [if_neg z, if_neg one_ne, if_pos (show nI (oB o).1 = 6 by rw [show (oB o).1 = 6 by omega]; rfl), x_full, m_full, ob2_s, ob2_s, ob4_s]
            refine ⟨-4, some 2, o, _, nc, w, rfl, rfl, fun i hi => ?_, X0, V0, M0, fun _ _ => rfl⟩
            injection hi with hi; omega
        · rw [if_neg h4, if_pos rfl, if_pos rfl]; exact hbad
      · rw [if_neg h3, if_pos rfl, if_pos rfl]; exact hbad
    · rw [if_neg h2, if_pos rfl, if_pos rfl]; exact hbad
  · rw [if_neg h1, if_pos rfl, if_pos rfl]; exact hbad
theorem c_mark_eq (X : XO dy cs cc ms mc ts tc ns nc ks kc ps pc o) (V : VO o) (M : MO w 0 o) (st st2 : Nat → Int32) (x1 x2 x3 x4 x5 : Int32) :
    ∃ (r : Int32) (c : Option Nat) (o' : Ofc) (ks' : Int32) (kc' w' : Nat → Int32), f_X11_mark ms ks kc st x1 x2 x3 x4 x5 = some (r, ks', kc', stx c st) ∧ f_X12_mark w st2 x1 x2 x3 x4 x5 = some (r, w', stx c st2) ∧ (∀ i, c = some i → i < 3) ∧
      XO dy cs cc ms mc ts tc ns nc ks' kc' ps pc o' ∧ VO o' ∧ MO w' 0 o' ∧ ∀ x, 301 ≤ x → w' x = w x := by
  have hbad : ∃ (r : Int32) (c : Option Nat) (o' : Ofc) (ks' : Int32) (kc' w' : Nat → Int32), f_X11_mark_48 ms ks kc st = some (r, ks', kc', stx c st) ∧ f_X12_mark_60 w st2 = some (r, w', stx c st2) ∧ (∀ i, c = some i → i < 3) ∧
      XO dy cs cc ms mc ts tc ns nc ks' kc' ps pc o' ∧ VO o' ∧ MO w' 0 o' ∧ ∀ x, 301 ≤ x → w' x = w x := by
    refine ⟨-2, some 0, o, ks, kc, w, ?_, ?_, fun i hi => ?_, X, V, M, fun _ _ => rfl⟩
    · unfold f_X11_mark_48; rw [x_bad, ob2_s]
    · unfold f_X12_mark_60; rw [m_bad, ob2_s]; rfl
    · injection hi with hi; omega
  have X0 := X
  have V0 := V
  have M0 := M
  obtain ⟨rfl, rfl, Xc, rfl, Xm, rfl, Xa, rfl, Xb, rfl, Xk, rfl, Xp⟩ := X
  obtain ⟨v1, v2, v3, v4, v5, v6, v7⟩ := V
  obtain ⟨m1, m2, m3, m4, m5, m6, m7⟩ := M
  have hn := v2.1.1
  have hg := v3.1
  have hl := v6.1
  unfold f_X11_mark f_X12_mark
  rw [x_isMagnet (by omega), m_isMagnet m3 v3, ob1_s, ob1_s]
  by_cases h1 : wthn x1 (gN (oG o)) = true
  · rw [if_pos h1, if_neg one_ne, if_neg one_ne]
    rw [x_within, m_in, ob1_s, ob1_s, show (1 : Int32).toInt = (1 : Int64).toInt from rfl, show (9 : Int32).toInt = (9 : Int64).toInt from rfl]
    by_cases h2 : (1 : Int64).toInt ≤ x2.toInt ∧ x2.toInt ≤ (9 : Int64).toInt
    · rw [if_pos h2, if_neg one_ne, if_neg one_ne]
      rw [x_isDesk, m_in, ob1_s, ob1_s]
      by_cases h3 : (0 : Int64).toInt ≤ x3.toInt ∧ x3.toInt ≤ (11 : Int64).toInt
      · rw [if_pos h3, if_neg one_ne, if_neg one_ne]
        rw [x_within, m_in, ob1_s, ob1_s, show (0 : Int32).toInt = (0 : Int64).toInt from rfl, show (99 : Int32).toInt = (99 : Int64).toInt from rfl]
        by_cases h4 : (0 : Int64).toInt ≤ x4.toInt ∧ x4.toInt ≤ (99 : Int64).toInt
        · rw [if_pos h4, if_neg one_ne, if_neg one_ne]
          rw [x_within, m_in, ob1_s, ob1_s, show (-40 : Int32).toInt = (-40 : Int64).toInt from rfl, show (40 : Int32).toInt = (40 : Int64).toInt from rfl]
          by_cases h5 : (-40 : Int64).toInt ≤ x5.toInt ∧ x5.toInt ≤ (40 : Int64).toInt
          · rw [if_pos h5, if_neg one_ne, if_neg one_ne]
            obtain ⟨k1, rfl, g1⟩ := wthn_n h1
            have h2 : (1 : Int) ≤ x2.toInt ∧ x2.toInt ≤ 9 := h2
            obtain ⟨k2, rfl, g2, -⟩ := nat_of (show 0 ≤ x2.toInt by omega)
            have h3 : (0 : Int) ≤ x3.toInt ∧ x3.toInt ≤ 11 := h3
            obtain ⟨k3, rfl, g3, -⟩ := nat_of (show 0 ≤ x3.toInt by omega)
            have h4 : (0 : Int) ≤ x4.toInt ∧ x4.toInt ≤ 99 := h4
            obtain ⟨k4, rfl, g4, -⟩ := nat_of (show 0 ≤ x4.toInt by omega)
            have h5 : (-40 : Int) ≤ x5.toInt ∧ x5.toInt ≤ 40 := h5
            have ef : f_X7_isFull 6 (nI (oC o).1) = some (if (oC o).1 < 6 then 0 else 1) := x_isFull (most := 6) (by omega) hl
            have hc : w 93 = nI (oC o).1 := by have := m6.1; rw [Nat.zero_add] at this; exact this
            unfold f_X11_keep
            rw [ef, ob1_s, chk_c 93 93 rfl (by omega), cl_c 93 93 rfl (by omega), hc]
            by_cases z : (oC o).1 < 6
            · rw [if_pos z, if_pos rfl, if_neg (show ¬ nI (oC o).1 = 6 from fun q => by have := (nI_eq (b := 6) (by omega) (by omega)).mp q; omega)]
              have ea := x_add (most := 6) (W := 5) (s := (oC o).1) (N := 30) (f := kc) z (by omega) (by omega) (by omega) (by omega) (by omega) (nI k1) (nI k2) (nI k3) (nI k4) x5
              have ea : f_X7_add 6 5 (nI (oC o).1) 30 kc (nI k1) (nI k2) (nI k3) (nI k4) x5 = some (nI (oC o).1, nI ((oC o).1 + 1), add5 kc ((oC o).1 * 5) (nI k1) (nI k2) (nI k3) (nI k4) x5) := ea
              have eb : (94 : Int32) + 5 * nI (oC o).1 = nI (94 + 5 * (oC o).1) := by
                have e : (5 : Int32) * nI (oC o).1 = nI (5 * (oC o).1) := pk_mul 5 _
                rw [e]; exact nI_add 94 _
              have hc2 : (upd (upd (upd (upd (upd w (94 + 5 * (oC o).1) (nI k1)) (94 + 5 * (oC o).1 + 1) (nI k2)) (94 + 5 * (oC o).1 + 2) (nI k3)) (94 + 5 * (oC o).1 + 3) (nI k4)) (94 + 5 * (oC o).1 + 4) x5) 93 = nI (oC o).1 := by rw [pk_un (by omega), pk_un (by omega), pk_un (by omega), pk_un (by omega), pk_un (by omega), hc]
              have fr : ∀ y, y ≠ 93 → (y < 94 ∨ 124 ≤ y) → (upd (upd (upd (upd (upd (upd w (94 + 5 * (oC o).1) (nI k1)) (94 + 5 * (oC o).1 + 1) (nI k2)) (94 + 5 * (oC o).1 + 2) (nI k3)) (94 + 5 * (oC o).1 + 3) (nI k4)) (94 + 5 * (oC o).1 + 4) x5) 93 (nI ((oC o).1 + 1))) y = w y := fun y h1 h2 => by rw [pk_un (by omega), pk_un (by omega), pk_un (by omega), pk_un (by omega), pk_un (by omega), pk_un (by omega)]
              refine ⟨nI ((oC o).1 + 1), none, (oD o, oT o, oG o, oA o, oB o, addL (oC o) (row5 (nI k1) (nI k2) (nI k3) (nI k4) x5), oP o), _, _, upd (upd (upd (upd (upd (upd w (94 + 5 * (oC o).1) (nI k1)) (94 + 5 * (oC o).1 + 1) (nI k2)) (94 + 5 * (oC o).1 + 2) (nI k3)) (94 + 5 * (oC o).1 + 3) (nI k4)) (94 + 5 * (oC o).1 + 4) x5) 93 (nI ((oC o).1 + 1)), ?_, ?_, fun i hi => (by cases hi), ⟨rfl, rfl, Xc, rfl, Xm, rfl, Xa, rfl, Xb, rfl, addL_5 Xk _ _ _ _ _, rfl, Xp⟩, ⟨v1, v2, v3, v4, v5, ?_, v7⟩, ⟨?_, ?_, ?_, ?_, ?_, ?_, ?_⟩, fun y hy => fr y (by omega) (by omega)⟩
              · rw [ea, ob3_s, x_size, ob1_s, ob4_s]; rfl
              · rw [chk_c 93 93 rfl (by omega), eb, bnd_s, chk_n (by omega) (by omega), bnd_s, nI_clamp (by omega), nI_1, chk_n (by omega) (by omega), bnd_s, nI_clamp (by omega), nI_2', chk_n (by omega) (by omega), bnd_s, nI_clamp (by omega), nI_3', chk_n (by omega) (by omega), bnd_s, nI_clamp (by omega), nI_4', chk_n (by omega) (by omega), bnd_s, nI_clamp (by omega), chk_c 93 93 rfl (by omega), chk_c 93 93 rfl (by omega), hc2, nI_1, bnd_s, chk_c 93 93 rfl (by omega), pk_us]
                rfl
              · refine ⟨show (oC o).1 + 1 ≤ 6 by omega, fun i hi => ?_⟩
                have hi : i < (oC o).1 + 1 := hi
                show ∃ x y z u : Nat, (if i = (oC o).1 then row5 (nI k1) (nI k2) (nI k3) (nI k4) x5 0 else (oC o).2 i 0) = nI x ∧ (if i = (oC o).1 then row5 (nI k1) (nI k2) (nI k3) (nI k4) x5 1 else (oC o).2 i 1) = nI y ∧ (if i = (oC o).1 then row5 (nI k1) (nI k2) (nI k3) (nI k4) x5 2 else (oC o).2 i 2) = nI z ∧ (if i = (oC o).1 then row5 (nI k1) (nI k2) (nI k3) (nI k4) x5 3 else (oC o).2 i 3) = nI u ∧ _
                by_cases y : i = (oC o).1
                · simp only [if_pos y]
                  exact ⟨k1, k2, k3, k4, rfl, rfl, rfl, rfl, by omega, by omega, by omega, by omega, by omega⟩
                · simp only [if_neg y]
                  exact v6.2 i (by omega)
              · rw [fr _ (by omega) (by omega)]; exact m1
              · exact MT.fr m2 hn (fun y _ _ _ _ => fr y (by omega) (by omega))
              · exact MM.fr m3 hg (fun y hy => fr y (by omega) (by omega))
              · exact ML.fr (a := oA o) (m := 20) m4 (by have := v4.1; omega) (fun y hy => fr y (by omega) (by omega))
              · exact ML.fr (a := oB o) (m := 24) m5 (by have := v5.1; omega) (fun y hy => fr y (by omega) (by omega))
              · refine ⟨by rw [Nat.zero_add, pk_us]; rfl, fun i hi c hc => ?_⟩
                have hi : i < (oC o).1 + 1 := hi
                show _ = (if i = (oC o).1 then row5 (nI k1) (nI k2) (nI k3) (nI k4) x5 c else (oC o).2 i c)
                rw [Nat.zero_add]
                by_cases y : i = (oC o).1
                · rw [if_pos y, y]
                  rcases (show c = 0 ∨ c = 1 ∨ c = 2 ∨ c = 3 ∨ c = 4 by omega) with rfl | rfl | rfl | rfl | rfl
                  · rw [pk_un (by omega), pk_un (by omega), pk_un (by omega), pk_un (by omega), pk_un (by omega)]; exact pk_us
                  · rw [pk_un (by omega), pk_un (by omega), pk_un (by omega), pk_un (by omega), pk_us]; rfl
                  · rw [pk_un (by omega), pk_un (by omega), pk_un (by omega), pk_us]; rfl
                  · rw [pk_un (by omega), pk_un (by omega), pk_us]; rfl
                  · rw [pk_un (by omega), pk_us]; rfl
                · rw [if_neg y, pk_un (by omega), pk_un (by omega), pk_un (by omega), pk_un (by omega), pk_un (by omega), pk_un (by omega)]
                  have := m6.2 i (by omega) c hc
                  rw [Nat.zero_add] at this
                  exact this
              · exact MP.fr m7 hn v7.1 (fun y h1 h2 => fr y (by omega) (by omega))
            · rw [if_neg z, if_neg one_ne, if_pos (show nI (oC o).1 = 6 by rw [show (oC o).1 = 6 by omega]; rfl), x_full, m_full, ob2_s, ob2_s, ob4_s]
              refine ⟨-4, some 2, o, _, kc, w, rfl, rfl, fun i hi => ?_, X0, V0, M0, fun _ _ => rfl⟩
              injection hi with hi; omega
          · rw [if_neg h5, if_pos rfl, if_pos rfl]; exact hbad
        · rw [if_neg h4, if_pos rfl, if_pos rfl]; exact hbad
      · rw [if_neg h3, if_pos rfl, if_pos rfl]; exact hbad
    · rw [if_neg h2, if_pos rfl, if_pos rfl]; exact hbad
  · rw [if_neg h1, if_pos rfl, if_pos rfl]; exact hbad
theorem m_fg {w : Nat → Int32} {cn n : Nat} (hcn : cn < 1251) (h : w cn = nI n) (st : Nat → Int32) : f_X12_forget_40 w st (nI cn) = some (nI n, upd w cn 0, st) := by
  unfold f_X12_forget_40
  rw [chk_n hcn (by omega), nI_clamp (by omega), h, bnd_s, chk_n hcn (by omega), bnd_s]
theorem c_forget_eq (X : XO dy cs cc ms mc ts tc ns nc ks kc ps pc o) (V : VO o) (M : MO w 0 o) (st st2 : Nat → Int32) (x1 : Int32) :
    ∃ (r : Int32) (c : Option Nat) (o' : Ofc) (ts' ns' ks' : Int32) (w' : Nat → Int32), f_X11_forget ts ns ks st x1 = some (r, ts', ns', ks', stx c st) ∧ f_X12_forget w st2 x1 = some (r, w', stx c st2) ∧ (∀ i, c = some i → i < 3) ∧
      XO dy cs cc ms mc ts' tc ns' nc ks' kc ps pc o' ∧ VO o' ∧ MO w' 0 o' ∧ ∀ x, 301 ≤ x → w' x = w x := by
  have X0 := X
  have V0 := V
  have M0 := M
  obtain ⟨rfl, rfl, Xc, rfl, Xm, rfl, Xa, rfl, Xb, rfl, Xk, rfl, Xp⟩ := X
  obtain ⟨v1, v2, v3, v4, v5, v6, v7⟩ := V
  obtain ⟨m1, m2, m3, m4, m5, m6, m7⟩ := M
  have hn := v2.1.1
  have hg := v3.1
  have c4 : w 47 = nI (oA o).1 := by have := m4.1; rw [Nat.zero_add] at this; exact this
  have c5 : w 68 = nI (oB o).1 := by have := m5.1; rw [Nat.zero_add] at this; exact this
  have c6 : w 93 = nI (oC o).1 := by have := m6.1; rw [Nat.zero_add] at this; exact this
  have hz : ∀ n, VA n lZ ∧ VB n lZ ∧ VC n lZ := fun n => ⟨⟨Nat.zero_le _, fun i hi => absurd hi (Nat.not_lt_zero i)⟩, ⟨Nat.zero_le _, fun i hi => absurd hi (Nat.not_lt_zero i)⟩, ⟨Nat.zero_le _, fun i hi => absurd hi (Nat.not_lt_zero i)⟩⟩
  have hx : ∀ W f, XL W f lZ := fun W f i hi => absurd hi (Nat.not_lt_zero i)
  unfold f_X11_forget f_X12_forget
  rw [m_in, ob1_s]
  by_cases h0 : x1 = 0
  · rw [if_pos h0, h0, if_pos (show (0 : Int64).toInt ≤ (0 : Int32).toInt ∧ (0 : Int32).toInt ≤ (2 : Int64).toInt by decide), if_neg one_ne, if_pos rfl]
    have e : f_X12_forget_40 w st2 47 = some (nI (oA o).1, upd w 47 0, st2) := m_fg (cn := 47) (by omega) c4 st2
    rw [e]
    have fr : ∀ y, y ≠ 47 → upd w 47 0 y = w y := fun y h => pk_un h
    exact ⟨nI (oA o).1, none, (oD o, oT o, oG o, lZ, oB o, oC o, oP o), 0, _, _, upd w 47 0, rfl, rfl, fun i hi => (by cases hi), ⟨rfl, rfl, Xc, rfl, Xm, rfl, hx _ _, rfl, Xb, rfl, Xk, rfl, Xp⟩, ⟨v1, v2, v3, (hz _).1, v5, v6, v7⟩, ⟨by rw [fr _ (by omega)]; exact m1, MT.fr m2 hn (fun y _ _ _ _ => fr y (by omega)), MM.fr m3 hg (fun y hy => fr y (by omega)), ⟨pk_us, fun i hi => absurd hi (Nat.not_lt_zero i)⟩, ML.fr (a := oB o) (m := 24) m5 (by have := v5.1; omega) (fun y hy => fr y (by omega)), ML.fr (a := oC o) (m := 30) m6 (by have := v6.1; omega) (fun y hy => fr y (by omega)), MP.fr m7 hn v7.1 (fun y h1 h2 => fr y (by omega))⟩, fun y hy => fr y (by omega)⟩
  · by_cases h1 : x1 = 1
    · rw [if_neg h0, if_pos h1, h1, if_pos (show (0 : Int64).toInt ≤ (1 : Int32).toInt ∧ (1 : Int32).toInt ≤ (2 : Int64).toInt by decide), if_neg one_ne, if_neg one_ne, if_pos rfl]
      have e : f_X12_forget_40 w st2 68 = some (nI (oB o).1, upd w 68 0, st2) := m_fg (cn := 68) (by omega) c5 st2
      rw [e]
      have fr : ∀ y, y ≠ 68 → upd w 68 0 y = w y := fun y h => pk_un h
      exact ⟨nI (oB o).1, none, (oD o, oT o, oG o, oA o, lZ, oC o, oP o), _, 0, _, upd w 68 0, rfl, rfl, fun i hi => (by cases hi), ⟨rfl, rfl, Xc, rfl, Xm, rfl, Xa, rfl, hx _ _, rfl, Xk, rfl, Xp⟩, ⟨v1, v2, v3, v4, (hz _).2.1, v6, v7⟩, ⟨by rw [fr _ (by omega)]; exact m1, MT.fr m2 hn (fun y _ _ _ _ => fr y (by omega)), MM.fr m3 hg (fun y hy => fr y (by omega)), ML.fr (a := oA o) (m := 20) m4 (by have := v4.1; omega) (fun y hy => fr y (by omega)), ⟨pk_us, fun i hi => absurd hi (Nat.not_lt_zero i)⟩, ML.fr (a := oC o) (m := 30) m6 (by have := v6.1; omega) (fun y hy => fr y (by omega)), MP.fr m7 hn v7.1 (fun y h1 h2 => fr y (by omega))⟩, fun y hy => fr y (by omega)⟩
    · by_cases h2 : x1 = 2
      · rw [if_neg h0, if_neg h1, if_pos h2, h2, if_pos (show (0 : Int64).toInt ≤ (2 : Int32).toInt ∧ (2 : Int32).toInt ≤ (2 : Int64).toInt by decide), if_neg one_ne, if_neg (show ¬ (2 : Int32) = 0 by decide), if_neg (show ¬ (2 : Int32) = 1 by decide)]
        have e : f_X12_forget_40 w st2 93 = some (nI (oC o).1, upd w 93 0, st2) := m_fg (cn := 93) (by omega) c6 st2
        rw [e]
        have fr : ∀ y, y ≠ 93 → upd w 93 0 y = w y := fun y h => pk_un h
        exact ⟨nI (oC o).1, none, (oD o, oT o, oG o, oA o, oB o, lZ, oP o), _, _, 0, upd w 93 0, rfl, rfl, fun i hi => (by cases hi), ⟨rfl, rfl, Xc, rfl, Xm, rfl, Xa, rfl, Xb, rfl, hx _ _, rfl, Xp⟩, ⟨v1, v2, v3, v4, v5, (hz _).2.2, v7⟩, ⟨by rw [fr _ (by omega)]; exact m1, MT.fr m2 hn (fun y _ _ _ _ => fr y (by omega)), MM.fr m3 hg (fun y hy => fr y (by omega)), ML.fr (a := oA o) (m := 20) m4 (by have := v4.1; omega) (fun y hy => fr y (by omega)), ML.fr (a := oB o) (m := 24) m5 (by have := v5.1; omega) (fun y hy => fr y (by omega)), ⟨pk_us, fun i hi => absurd hi (Nat.not_lt_zero i)⟩, MP.fr m7 hn v7.1 (fun y h1 h2 => fr y (by omega))⟩, fun y hy => fr y (by omega)⟩
      · have hx1 : ¬ ((0 : Int64).toInt ≤ x1.toInt ∧ x1.toInt ≤ (2 : Int64).toInt) := by
          intro h
          have h : 0 ≤ x1.toInt ∧ x1.toInt ≤ 2 := h
          obtain ⟨k, rfl, hk, -⟩ := nat_of h.1
          rcases (show k = 0 ∨ k = 1 ∨ k = 2 by omega) with rfl | rfl | rfl
          · exact h0 rfl
          · exact h1 rfl
          · exact h2 rfl
        rw [if_neg h0, if_neg h1, if_neg h2, if_neg hx1, if_pos rfl, x_bad, m_bad, ob2_s, ob2_s]
        refine ⟨-2, some 0, o, _, _, _, w, rfl, rfl, fun i hi => ?_, X0, V0, M0, fun _ _ => rfl⟩
        injection hi with hi; omega
end LI
