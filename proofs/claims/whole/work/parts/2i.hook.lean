/-! ===== the calls hook and unbend, both sides ===== -/
def stO (t : Tb) (a : Nat) (o : Option Nat) : Tb := (tN t, tK t, tD t, tW t, tU t, fun i => if i = a then o else tO t i)
theorem XT.setO {f : Nat → Int32} {t : Tb} (X : XT f t) (a : Nat) (o : Option Nat) : XT (upd f (a * 5 + 4) (onv o)) (stO t a o) := by
  intro i hi
  have := X i hi
  rw [pk_un (by omega), pk_un (by omega), pk_un (by omega), pk_un (by omega)]
  refine ⟨this.1, this.2.1, this.2.2.1, this.2.2.2.1, ?_⟩
  show _ = onv (if i = a then o else tO t i)
  by_cases z : i = a
  · rw [if_pos z, z, pk_us]
  · rw [if_neg z, pk_un (by omega)]; exact this.2.2.2.2
theorem MT.setO {w : Nat → Int32} {r : Nat} {t : Tb} (M : MT w r t) (hn : tN t ≤ 7) (a : Nat) (o : Option Nat) (v : Int32) (hv : v = onv o) : MT (upd w (r + 31 + a) v) r (stO t a o) := by
  refine ⟨by rw [pk_un (by omega)]; exact M.1, fun i hi => ?_⟩
  have hi : i < tN t := hi
  have := M.2 i hi
  rw [pk_un (by omega), pk_un (by omega), pk_un (by omega), pk_un (by omega)]
  refine ⟨this.1, this.2.1, this.2.2.1, this.2.2.2.1, ?_⟩
  show _ = onv (if i = a then o else tO t i)
  by_cases z : i = a
  · rw [if_pos z, z, pk_us, hv]
  · rw [if_neg z, pk_un (by omega)]; exact this.2.2.2.2
theorem over_not {on : Nat → Option Nat} {i : Nat} : ∀ (d j : Nat), over on i d j = false → ∀ k, k < d → upk on k j ≠ i := by
  intro d
  induction d with
  | zero => intro j _ k hk; omega
  | succ d ih =>
    intro j h k hk
    rw [over] at h
    by_cases z : j = i
    · rw [if_pos z] at h; exact absurd h (by decide)
    · rw [if_neg z] at h
      cases ho : on j with
      | none => rw [upk_none ho]; exact z
      | some j' =>
        rw [ho] at h
        cases k with
        | zero => rw [upk_0]; exact z
        | succ k => rw [upk_some ho]; exact ih j' h k (by omega)
theorem ovr_not {t : Tb} (V : VT t) {i j : Nat} (hj : j < tN t) (h : ovr t i j = false) : ∀ k, upk (tO t) k j ≠ i := by
  have hn := V.1
  intro k
  rcases Nat.lt_or_ge k 7 with hk | hk
  · exact over_not 7 j h k hk
  · have h6 : tO t (upk (tO t) 6 j) = none := upk_top V.2.2 hj (by omega)
    have := upk_stay h6 (k - 6)
    rw [show 6 + (k - 6) = k by omega] at this
    rw [this]
    exact over_not 7 j h 6 (by omega)
theorem acy_hook {t : Tb} (V : VT t) {a b : Nat} (hb : b < tN t) (hab : ovr t a b = false) : Acy (tN t) (fun i => if i = a then some b else tO t i) := by
  obtain ⟨rk, h⟩ := V.2.2
  have hnr := ovr_not V hb hab
  have inst : ∀ x, Decidable (∃ k, upk (tO t) k x = a) := fun x => Classical.propDecidable _
  refine ⟨fun x => rk x + (if ∃ k, upk (tO t) k x = a then rk b + 1 else 0), fun i hi j hj => ?_⟩
  have hj : (if i = a then some b else tO t i) = some j := hj
  show j < tN t ∧ rk j + (if ∃ k, upk (tO t) k j = a then rk b + 1 else 0) < rk i + (if ∃ k, upk (tO t) k i = a then rk b + 1 else 0)
  by_cases z : i = a
  · rw [if_pos z] at hj
    injection hj with hj
    subst hj
    refine ⟨hb, ?_⟩
    rw [if_neg (fun ⟨k, hk⟩ => hnr k hk), if_pos ⟨0, z⟩]
    omega
  · rw [if_neg z] at hj
    have h1 := h i hi j hj
    refine ⟨h1.1, ?_⟩
    by_cases y : ∃ k, upk (tO t) k j = a
    · obtain ⟨k, hk⟩ := y
      rw [if_pos ⟨k, hk⟩, if_pos ⟨k + 1, by rw [upk_some hj]; exact hk⟩]
      omega
    · rw [if_neg y]
      omega
theorem VT.hook {t : Tb} (V : VT t) {a b : Nat} (hb : b < tN t) (hab : ovr t a b = false) : VT (stO t a (some b)) := ⟨V.1, V.2.1, acy_hook V hb hab⟩
theorem VT.bend {t : Tb} (V : VT t) (a : Nat) : VT (stO t a none) := by
  refine ⟨V.1, V.2.1, ?_⟩
  obtain ⟨rk, h⟩ := V.2.2
  refine ⟨rk, fun i hi j hj => ?_⟩
  have hj : (if i = a then none else tO t i) = some j := hj
  by_cases z : i = a
  · rw [if_pos z] at hj; cases hj
  · rw [if_neg z] at hj; exact h i hi j hj
theorem cnt_mono {p q : Nat → Bool} : ∀ n, (∀ k, k < n → p k = true → q k = true) → cnt p n ≤ cnt q n := by
  intro n
  induction n with
  | zero => intro _; exact Nat.le_refl _
  | succ n ih =>
    intro h
    have h1 := ih (fun k hk => h k (by omega))
    have h2 := h n (by omega)
    show cnt p n + (if p n then 1 else 0) ≤ cnt q n + (if q n then 1 else 0)
    cases hp : p n with
    | false => simp only [Bool.false_eq_true, if_false]; omega
    | true => rw [h2 hp]; simp only [if_true]; omega
theorem cnt_one {p q : Nat → Bool} {a : Nat} : ∀ n, (∀ k, k < n → p k = true → q k = true ∨ k = a) → cnt p n ≤ cnt q n + 1 := by
  intro n
  induction n with
  | zero => intro _; exact Nat.zero_le _
  | succ n ih =>
    intro h
    show cnt p n + (if p n then 1 else 0) ≤ cnt q n + (if q n then 1 else 0) + 1
    by_cases z : n = a
    · have := cnt_mono (p := p) (q := q) n (fun k hk hp => (h k (by omega) hp).resolve_right (by omega))
      have : (if p n then 1 else 0) ≤ 1 := by cases p n <;> decide
      omega
    · have h1 := ih (fun k hk => h k (by omega))
      have h2 := h n (by omega)
      cases hp : p n with
      | false => simp only [Bool.false_eq_true, if_false]; omega
      | true => rw [(h2 hp).resolve_right z]; simp only [if_true]; omega
theorem VH.hook {t : Tb} (H : VH t) {a b : Nat} (hb : b < tN t) (hab : ovr t a b = false) (h2 : onN t (some b) < 2) : VH (stO t a (some b)) := by
  refine ⟨VT.hook H.1 hb hab, fun j hj => ?_⟩
  have hj : j < tN t := hj
  show cnt (fun k => decide ((if k = a then some b else tO t k) = some j)) (tN t) ≤ 2
  by_cases z : j = b
  · have := cnt_one (p := fun k => decide ((if k = a then some b else tO t k) = some j)) (q := fun k => decide (tO t k = some b)) (a := a) (tN t) (fun k _ hp => by
      have hp := of_decide_eq_true hp
      by_cases y : k = a
      · exact Or.inr y
      · rw [if_neg y, z] at hp; exact Or.inl (decide_eq_true hp))
    have h2 : cnt (fun k => decide (tO t k = some b)) (tN t) < 2 := h2
    omega
  · have := cnt_mono (p := fun k => decide ((if k = a then some b else tO t k) = some j)) (q := fun k => decide (tO t k = some j)) (tN t) (fun k _ hp => by
      have hp := of_decide_eq_true hp
      by_cases y : k = a
      · rw [if_pos y] at hp; injection hp with hp; exact absurd hp.symm z
      · rw [if_neg y] at hp; exact decide_eq_true hp)
    exact Nat.le_trans this (H.2 j hj)
theorem VH.bend {t : Tb} (H : VH t) (a : Nat) : VH (stO t a none) := by
  refine ⟨VT.bend H.1 a, fun j hj => ?_⟩
  have hj : j < tN t := hj
  have := cnt_mono (p := fun k => decide ((if k = a then none else tO t k) = some j)) (q := fun k => decide (tO t k = some j)) (tN t) (fun k _ hp => by
    have hp := of_decide_eq_true hp
    by_cases y : k = a
    · rw [if_pos y] at hp; cases hp
    · rw [if_neg y] at hp; exact decide_eq_true hp)
  exact Nat.le_trans this (H.2 j hj)
theorem not_some {o : Option Nat} (h : o = none) : onv o = -1 := by rw [h]; rfl
section HK
variable {dy cs : Int32} {cc : Nat → Int32} {ms : Int32} {mc : Nat → Int32} {ts : Int32} {tc : Nat → Int32} {ns : Int32} {nc : Nat → Int32} {ks : Int32} {kc : Nat → Int32} {ps : Int32} {pc w : Nat → Int32} {o : Ofc}
/-- what remembering and setting one hook does to an office -/
theorem hk_off (X : XO dy cs cc ms mc ts tc ns nc ks kc ps pc o) (V : VO o) (M : MO w 0 o) {a : Nat} (ha : a < tN (oT o)) (b : Option Nat) (H : VH (stO (oT o) a b)) :
    ∃ (o' : Ofc) (ps' : Int32) (pc' w1 : Nat → Int32), oT o' = stO (oT o) a b ∧ f_X6_remember dy cs cc ps pc = some (ps', pc') ∧ f_X12_minds w = some w1 ∧ XO dy cs (upd cc (a * 5 + 4) (onv b)) ms mc ts tc ns nc ks kc ps' pc' o' ∧ VO o' ∧ MO (upd w1 (31 + a) (onv b)) 0 o' ∧ (∀ x, 301 ≤ x → upd w1 (31 + a) (onv b) x = w x) := by
  obtain ⟨rfl, rfl, Xc, rfl, Xm, rfl, Xa, rfl, Xb, rfl, Xk, rfl, Xp⟩ := X
  obtain ⟨v1, v2, v3, v4, v5, v6, v7⟩ := V
  obtain ⟨m1, m2, m3, m4, m5, m6, m7⟩ := M
  have h8 := v7.1
  have hn := v2.1.1
  rw [Nat.zero_add] at m1
  obtain ⟨pc', a1, P1⟩ := x_remember Xc v2.1 (d := oD o) Xp h8
  obtain ⟨w1, a2, P2, hs1⟩ := m_minds_P m2 v2.1 m1 m7 h8
  have fr : ∀ x, x ≠ 31 + a → (x < 124 ∨ 301 ≤ x) → upd w1 (31 + a) (onv b) x = w x := fun x h1 hx => by rw [pk_un h1, hs1 x hx]
  refine ⟨(oD o, stO (oT o) a b, oG o, oA o, oB o, oC o, pAdd (oP o) (oD o) (oT o)), _, pc', w1, rfl, a1, a2, ⟨rfl, rfl, XT.setO Xc a b, rfl, Xm, rfl, Xa, rfl, Xb, rfl, Xk, rfl, P1⟩, ⟨v1, H, v3, v4, v5, v6, VP.to (VP.add v7 v2 v1) rfl (fun i _ => ⟨rfl, rfl⟩)⟩, ⟨?_, ?_, ?_, ?_, ?_, ?_, ?_⟩, fun x hx => fr x (by omega) (by omega)⟩
  · show upd w1 (31 + a) (onv b) 2 = nI (oD o)
    rw [fr 2 (by omega) (by omega), m1]
  · have := MT.setO (MT.fr m2 hn (fun x _ _ _ _ => hs1 x (Or.inl (by omega)))) hn a b (onv b) rfl
    rw [Nat.zero_add] at this
    exact this
  · exact MM.fr m3 v3.1 (fun x hx => fr x (by omega) (by omega))
  · exact ML.fr (a := oA o) (m := 20) m4 (by have := v4.1; omega) (fun x hx => fr x (by omega) (by omega))
  · exact ML.fr (a := oB o) (m := 24) m5 (by have := v5.1; omega) (fun x hx => fr x (by omega) (by omega))
  · exact ML.fr (a := oC o) (m := 30) m6 (by have := v6.1; omega) (fun x hx => fr x (by omega) (by omega))
  · exact MP.fr P2 hn (by show min (pN (oP o)) 7 + 1 ≤ 8; omega) (fun x h1 h2 => pk_un (by omega))
theorem c_hook_eq (X : XO dy cs cc ms mc ts tc ns nc ks kc ps pc o) (V : VO o) (M : MO w 0 o) (st st2 : Nat → Int32) (x1 x2 : Int32) :
    ∃ (r : Int32) (c : Option Nat) (o' : Ofc) (cc' : Nat → Int32) (ps' : Int32) (pc' w' : Nat → Int32), f_X11_hook dy cs cc ps pc st x1 x2 = some (r, cc', ps', pc', stx c st) ∧ f_X12_hook w st2 x1 x2 = some (r, w', stx c st2) ∧ (∀ i, c = some i → i < 3) ∧
      XO dy cs cc' ms mc ts tc ns nc ks kc ps' pc' o' ∧ VO o' ∧ MO w' 0 o' ∧ ∀ x, 301 ≤ x → w' x = w x := by
  have X0 := X
  have V0 := V
  have M0 := M
  have hbad : ∃ (r : Int32) (c : Option Nat) (o' : Ofc) (cc' : Nat → Int32) (ps' : Int32) (pc' w' : Nat → Int32), f_X11_hook_21 dy cs cc ps pc st = some (r, cc', ps', pc', stx c st) ∧ f_X12_hook_21 w st2 = some (r, w', stx c st2) ∧ (∀ i, c = some i → i < 3) ∧
      XO dy cs cc' ms mc ts tc ns nc ks kc ps' pc' o' ∧ VO o' ∧ MO w' 0 o' ∧ ∀ x, 301 ≤ x → w' x = w x := by
    refine ⟨-2, some 0, o, cc, ps, pc, w, ?_, ?_, fun i hi => ?_, X0, V0, M0, fun _ _ => rfl⟩
    · unfold f_X11_hook_21; rw [x_bad, ob2_s]
    · unfold f_X12_hook_21; rw [m_bad, ob2_s]; rfl
    · injection hi with hi; omega
  have hno : ∃ (r : Int32) (c : Option Nat) (o' : Ofc) (cc' : Nat → Int32) (ps' : Int32) (pc' w' : Nat → Int32), f_X11_hook_59 dy cs cc ps pc st = some (r, cc', ps', pc', stx c st) ∧ f_X12_hook_51 w st2 = some (r, w', stx c st2) ∧ (∀ i, c = some i → i < 3) ∧
      XO dy cs cc' ms mc ts tc ns nc ks kc ps' pc' o' ∧ VO o' ∧ MO w' 0 o' ∧ ∀ x, 301 ≤ x → w' x = w x := by
    refine ⟨-3, some 1, o, cc, ps, pc, w, ?_, ?_, fun i hi => ?_, X0, V0, M0, fun _ _ => rfl⟩
    · unfold f_X11_hook_59; rw [x_no, ob2_s]
    · unfold f_X12_hook_51; rw [m_no, ob2_s]
    · injection hi with hi; omega
  obtain ⟨hdy, hcs, Xc, -, -, -, -, -, -, -, -, -, -⟩ := X
  obtain ⟨-, v2, -, -, -, -, -⟩ := V
  obtain ⟨-, m2, -, -, -, -, -⟩ := M
  have hn := v2.1.1
  unfold f_X11_hook f_X12_hook
  rw [hcs] at hbad hno X0 ⊢
  rw [x_isClerk (by omega), m_isClerk m2 v2.1, ob1_s, ob1_s]
  by_cases h1 : wthn x1 (tN (oT o)) = true
  · rw [if_pos h1, if_neg (show ¬ (1 : Int32) = 0 by decide), if_neg (show ¬ (1 : Int32) = 0 by decide), x_isClerk (by omega), m_isClerk m2 v2.1, ob1_s, ob1_s]
    by_cases h2 : wthn x2 (tN (oT o)) = true
    · rw [if_pos h2, if_neg (show ¬ (1 : Int32) = 0 by decide), if_neg (show ¬ (1 : Int32) = 0 by decide)]
      by_cases h3 : x1 = x2
      · rw [if_pos h3, if_pos h3]; exact hbad
      · rw [if_neg h3, if_neg h3]
        obtain ⟨a, rfl, ha⟩ := wthn_n h1
        obtain ⟨b, rfl, hb⟩ := wthn_n h2
        have g4 := m2.go ha
        rw [show 0 + 31 + a = 31 + a by omega] at g4
        rw [Xc.o ha hn, ob1_s, show (31 : Int32) = nI 31 from rfl, nI_add, chk_n (by omega) (by omega), nI_clamp (by omega), g4]
        by_cases z : tO (oT o) a = none
        · have z' := (onv_nil (v2.1.on31 ha)).mpr z
          have eo := m_over (v1 := 0) (r := 0) rfl m2 v2.1 (by omega) ha hb
          rw [if_pos z', if_pos z', x_over Xc v2.1 ha hb, eo, ob1_s, ob1_s]
          by_cases y : ovr (oT o) a b = true
          · rw [if_pos y, if_neg (show ¬ (1 : Int32) = 0 by decide), if_neg (show ¬ (1 : Int32) = 0 by decide)]; exact hno
          · have en : f_X12_onIt w 0 (nI b) = some (nI (onN (oT o) (some b))) := m_onN (v1 := 0) (r := 0) rfl m2 v2.1 (by omega) (o := some b) (fun j hj => by injection hj with hj; omega)
            rw [if_neg y, if_pos rfl, if_pos rfl, x_two Xc v2.1 hb, en, ob1_s, ob1_s]
            have h22 := v2.2 b hb
            by_cases u : onN (oT o) (some b) < 2
            · rw [if_pos u, if_pos rfl, if_neg (show ¬ nI (onN (oT o) (some b)) = 2 from fun q => by have := (nI_eq (b := 2) (by omega) (by omega)).mp q; omega)]
              have H := VH.hook v2 (a := a) hb (by cases h : ovr (oT o) a b with
                | false => rfl
                | true => exact absurd h y) u
              obtain ⟨o', ps', pc', w1, q1, q2, q3, q4, q5, q6, q7⟩ := hk_off X0 V0 M0 ha (some b) H
              have q4' := q4
              obtain ⟨-, hcs', Xc', -⟩ := q4'
              have q5' := q5.2.1
              rw [q1] at Xc' q5'
              have e1 := x_members Xc' q5'.1 ha
              have e1 : f_X0_members 5 (nI (tN (oT o))) 35 (upd cc (a * 5 + 4) (nI b)) (nI a) = some (nI (strg (stO (oT o) a (some b)) a)) := e1
              have q6' := q6.2.1
              rw [q1] at q6'
              have e2 := m_string (v1 := 0) (r := 0) rfl q6' q5'.1 (by omega) ha
              have e2 : f_X12_stringOf (upd w1 (31 + a) (nI b)) 0 (nI a) = some (nI (strg (stO (oT o) a (some b)) a)) := e2
              have l1 := strg_lt q5'.1 a
              rw [q2, q3, ob2_s, ob1_s, c_put (C := 4) (c := 4) rfl ha hn (by omega), ob1_s, e1, ob1_s, x_ones _ l1, ob1_s, chk_n (by omega) (by omega), bnd_s, e2, ob1_s, m_ones (by omega), ob1_s]
              exact ⟨_, none, o', _, ps', pc', _, rfl, rfl, fun i hi => (by cases hi), q4, q5, q6, q7⟩
            · rw [if_neg u, if_neg (show ¬ (1 : Int32) = 0 by decide), if_pos (show nI (onN (oT o) (some b)) = 2 by rw [show onN (oT o) (some b) = 2 by omega]; rfl), x_full, m_full, ob2_s, ob2_s]
              refine ⟨-4, some 2, o, cc, ps, pc, w, rfl, rfl, fun i hi => ?_, X0, V0, M0, fun _ _ => rfl⟩
              injection hi with hi; omega
        · have z' : ¬ onv (tO (oT o) a) = -1 := fun q => z ((onv_nil (v2.1.on31 ha)).mp q)
          rw [if_neg z', if_neg z']; exact hno
    · rw [if_neg h2, if_pos rfl, if_pos rfl]; exact hbad
  · rw [if_neg h1, if_pos rfl, if_pos rfl]; exact hbad
theorem c_unbend_eq (X : XO dy cs cc ms mc ts tc ns nc ks kc ps pc o) (V : VO o) (M : MO w 0 o) (st st2 : Nat → Int32) (x1 : Int32) :
    ∃ (r : Int32) (c : Option Nat) (o' : Ofc) (cc' : Nat → Int32) (ps' : Int32) (pc' w' : Nat → Int32), f_X11_unbend dy cs cc ps pc st x1 = some (r, cc', ps', pc', stx c st) ∧ f_X12_unbend w st2 x1 = some (r, w', stx c st2) ∧ (∀ i, c = some i → i < 3) ∧
      XO dy cs cc' ms mc ts tc ns nc ks kc ps' pc' o' ∧ VO o' ∧ MO w' 0 o' ∧ ∀ x, 301 ≤ x → w' x = w x := by
  have X0 := X
  have V0 := V
  have M0 := M
  obtain ⟨hdy, hcs, Xc, -, -, -, -, -, -, -, -, -, -⟩ := X
  obtain ⟨-, v2, -, -, -, -, -⟩ := V
  obtain ⟨-, m2, -, -, -, -, -⟩ := M
  have hn := v2.1.1
  unfold f_X11_unbend f_X12_unbend
  rw [hcs] at X0 ⊢
  rw [x_isClerk (by omega), m_isClerk m2 v2.1, ob1_s, ob1_s]
  by_cases h1 : wthn x1 (tN (oT o)) = true
  · rw [if_pos h1, if_neg (show ¬ (1 : Int32) = 0 by decide), if_neg (show ¬ (1 : Int32) = 0 by decide)]
    obtain ⟨a, rfl, ha⟩ := wthn_n h1
    have g4 := m2.go ha
    rw [show 0 + 31 + a = 31 + a by omega] at g4
    rw [Xc.o ha hn, ob1_s, show (31 : Int32) = nI 31 from rfl, nI_add, chk_n (by omega) (by omega), nI_clamp (by omega), g4, bnd_s]
    by_cases z : tO (oT o) a = none
    · have z' := (onv_nil (v2.1.on31 ha)).mpr z
      rw [if_pos z', if_pos z', x_no, m_no, ob2_s, ob2_s]
      refine ⟨-3, some 1, o, cc, ps, pc, w, rfl, rfl, fun i hi => ?_, X0, V0, M0, fun _ _ => rfl⟩
      injection hi with hi; omega
    · have z' : ¬ onv (tO (oT o) a) = -1 := fun q => z ((onv_nil (v2.1.on31 ha)).mp q)
      rw [if_neg z', if_neg z']
      obtain ⟨o', ps', pc', w1, q1, q2, q3, q4, q5, q6, q7⟩ := hk_off X0 V0 M0 ha none (VH.bend v2 a)
      rw [q2, q3, ob2_s, ob1_s, c_put (C := 4) (c := 4) rfl ha hn (by omega), ob1_s, chk_n (by omega) (by omega), bnd_s]
      exact ⟨_, none, o', _, ps', pc', _, rfl, rfl, fun i hi => (by cases hi), q4, q5, q6, q7⟩
  · rw [if_neg h1, if_pos rfl, if_pos rfl, x_bad, m_bad, ob2_s, ob2_s]
    refine ⟨-2, some 0, o, cc, ps, pc, w, rfl, rfl, fun i hi => ?_, X0, V0, M0, fun _ _ => rfl⟩
    injection hi with hi; omega
end HK
