/-! ===== the class: how a tug spreads ===== -/
theorem x_cell {n : Nat} {f : Nat → Int32} {i : Nat} (hi : i < n) (hn : n < 2 ^ 31) : f_X11_cell n f (nI i) = some (f i) := by
  unfold f_X11_cell
  rw [if_neg (nI_pos (by omega)), if_neg (nI_ge hi hn), chk_n hi hn, nI_clamp (by omega)]
theorem x_set {n : Nat} {f : Nat → Int32} {i : Nat} {v : Int32} (hi : i < n) (hn : n < 2 ^ 31) : f_X11_setCell n f (nI i) v = some (upd f i v) := by
  unfold f_X11_setCell
  rw [if_neg (nI_pos (by omega)), if_neg (nI_ge hi hn), chk_n hi hn, nI_clamp (by omega), bnd_s]
def gT (t : Tb) (a v : Nat) : Nat := goK (tK t a) v (tU t a)
section SP
variable {f fe : Nat → Int32} {t : Tb} {par : Nat → Option Nat} {i tt : Nat}
abbrev Fe (t : Tb) (par : Nat → Option Nat) (i tt x : Nat) : Nat := feel par (gT t) i tt x
theorem Fe_le (V : VT t) (A : Acy (tN t) par) (ht : tt ≤ 20) : ∀ x, x < tN t → Fe t par i tt x ≤ 20 := by
  refine par_ind A _ (fun x hx h => ?_)
  by_cases e : x = i
  · rw [e]; show feel par (gT t) i tt i ≤ 20; rw [feel_i]; exact ht
  · cases hp : par x with
    | none => show feel par (gT t) i tt x ≤ 20; rw [feel_none e hp]; omega
    | some a =>
      show feel par (gT t) i tt x ≤ 20
      rw [feel_some A V.1 e hx hp]
      have := h a hp
      split
      · omega
      · exact goK_le this
theorem x_go (V : VT t) {a v : Nat} (ha : a < tN t) (hv : 0 < v) (hv2 : v ≤ 20) : f_X4_letsGo (nI (tK t a)) (nI v) (nI (tU t a)) = some (nI (gT t a v)) := by
  obtain ⟨h1, -, -, -, h5⟩ := V.2.1 a ha
  exact x_go_dec _ h1 _ (by omega) _ (by omega) hv
theorem m_go (V : VT t) {a v : Nat} (ha : a < tN t) (hv : 0 < v) (hv2 : v ≤ 20) : f_X12_goesOn (nI (tK t a)) (nI v) (nI (tU t a)) = some (nI (gT t a v)) := by
  obtain ⟨h1, -, -, -, h5⟩ := V.2.1 a ha
  exact m_go_dec _ h1 _ (by omega) _ (by omega) hv
theorem gT_le {a v : Nat} (hv : v ≤ 20) : gT t a v ≤ 20 := goK_le hv
/-- what is felt so far: nothing, or just what is due, and then from the one it came from -/
def SI (t : Tb) (par : Nat → Option Nat) (i tt : Nat) (fe : Nat → Int32) : Prop :=
  (∀ x, x < tN t → fe x = 0 ∨ (Fe t par i tt x ≠ 0 ∧ fe x = nI (Fe t par i tt x) ∧ (x = i ∨ ∃ a, par x = some a ∧ fe a ≠ 0))) ∧ fe i ≠ 0 ∧ ∀ x, tN t ≤ x → x < 7 → fe x = 0
theorem nI_ne {k : Nat} (h : k ≠ 0) (hk : k < 2 ^ 31) : nI k ≠ 0 := fun e => h ((nI_eq hk (by omega)).mp (e.trans (show (0 : Int32) = nI 0 from rfl)))
theorem x_pass (X : XT f t) (V : VT t) (Rr : RR (tN t) (tO t) i par) (ht : tt ≤ 20) {fe : Nat → Int32} (S : SI t par i tt fe) {a b : Nat} (ha : a < tN t) (hb : b < tN t) (hab : tO t a = some b ∨ tO t b = some a) :
    ∃ (r : Int32) (fe' : Nat → Int32), f_X10_pass fe 5 (nI (tN t)) 35 f (nI a) (nI b) = some (r, fe') ∧ SI t par i tt fe' ∧ (∀ x, fe x ≠ 0 → fe' x = fe x) ∧ (fe a ≠ 0 → par b = some a → fe' b = nI (Fe t par i tt b)) ∧ (r = 0 → ∀ x, fe' x = fe x) ∧ (r = 0 ∨ r = 1) := by
  have hn := V.1
  have A := Rr.2.2.2
  unfold f_X10_pass
  rw [x_cell (by omega) (by omega), x_cell (by omega) (by omega), ob1_s]
  rcases S.1 a ha with e | ⟨e1, e2, e3⟩
  · rw [if_pos e]
    exact ⟨0, fe, rfl, S, fun x _ => rfl, fun h => absurd e h, fun _ x => rfl, Or.inl rfl⟩
  · have hFa := Fe_le V A ht (i := i) a ha
    have hfa : fe a ≠ 0 := by rw [e2]; exact nI_ne e1 (by omega)
    rw [if_neg hfa, ob1_s]
    rcases S.1 b hb with d | ⟨d1, d2, d3⟩
    · have hpb : par b = some a := by
        have : par b = some a ∨ par a = some b := by
          rcases hab with q | q
          · rcases Rr.2.2.1 a ha b q with q | q
            · exact Or.inr q
            · exact Or.inl q
          · exact Rr.2.2.1 b hb a q
        rcases this with q | q
        · exact q
        · rcases e3 with e3 | ⟨a', e3, e4⟩
          · rw [e3, Rr.1] at q; cases q
          · rw [e3] at q; cases q; exact absurd d e4
      have hbi : b ≠ i := by intro q; rw [q, Rr.1] at hpb; cases hpb
      have hFb : Fe t par i tt b = gT t a (Fe t par i tt a) := by
        show feel par (gT t) i tt b = _
        rw [feel_some A hn hbi hb hpb, if_neg e1]
      have hba : a ≠ b := by intro q; rw [q] at hfa; exact hfa d
      rw [d, if_pos (by decide), X.k ha hn, X.u ha hn, ob1_s, ob1_s, e2, x_go V ha (by omega) hFa, ob1_s, x_set (by omega) (by omega), ob1_s, ← hFb]
      have S' : SI t par i tt (upd fe b (nI (Fe t par i tt b))) := by
        refine ⟨fun x hx => ?_, ?_, fun x h1 h2 => ?_⟩
        · by_cases q : x = b
          · subst q
            rw [pk_us]
            by_cases z : Fe t par i tt x = 0
            · left; rw [z]; rfl
            · right
              exact ⟨z, rfl, Or.inr ⟨a, hpb, by rw [pk_un hba]; exact hfa⟩⟩
          · rw [pk_un q]
            rcases S.1 x hx with c | ⟨c1, c2, c3⟩
            · exact Or.inl c
            · right
              refine ⟨c1, c2, ?_⟩
              rcases c3 with c3 | ⟨a', c3, c4⟩
              · exact Or.inl c3
              · right
                refine ⟨a', c3, ?_⟩
                rw [pk_un (fun q => c4 (by rw [q]; exact d))]
                exact c4
        · rw [pk_un (Ne.symm hbi)]; exact S.2.1
        · rw [pk_un (by omega)]; exact S.2.2 x h1 h2
      have hFb20 := Fe_le V A ht (i := i) b hb
      by_cases z : Fe t par i tt b = 0
      · rw [if_pos (by rw [z]; decide)]
        refine ⟨0, _, rfl, S', fun x hx => pk_un (fun q => hx (by rw [q]; exact d)), fun _ _ => pk_us, fun _ x => ?_, Or.inl rfl⟩
        by_cases q : x = b
        · rw [q, pk_us, z, d]; rfl
        · exact pk_un q
      · rw [if_neg (nI_nle (by omega) (by omega))]
        exact ⟨1, _, rfl, S', fun x hx => pk_un (fun q => hx (by rw [q]; exact d)), fun _ _ => pk_us, fun h => absurd h (by decide), Or.inr rfl⟩
    · have hFb20 := Fe_le V A ht (i := i) b hb
      rw [d2, if_neg (nI_nle (by omega) (by omega))]
      exact ⟨0, fe, rfl, S, fun x _ => rfl, fun _ _ => d2, fun _ x => rfl, Or.inl rfl⟩
/-- behind a round: each hook has been tried both ways -/
def Tried (t : Tb) (par : Nat → Option Nat) (i tt : Nat) (fe0 fe : Nat → Int32) (c : Nat) : Prop :=
  ∀ x, x < c → ∀ h, tO t x = some h → (fe0 x ≠ 0 → par h = some x → fe h = nI (Fe t par i tt h)) ∧ (fe0 h ≠ 0 → par x = some h → fe x = nI (Fe t par i tt x))
theorem or01 {a b : Int32} (ha : a = 0 ∨ a = 1) (hb : b = 0 ∨ b = 1) : (a ||| b = 0 ∨ a ||| b = 1) ∧ (a ||| b = 0 → a = 0 ∧ b = 0) := by
  rcases ha with rfl | rfl <;> rcases hb with rfl | rfl <;> decide
/-- one round over the hooks -/
theorem x_round (X : XT f t) (V : VT t) (Rr : RR (tN t) (tO t) i par) (ht : tt ≤ 20) {fe0 : Nat → Int32} (k : (Nat → Int32) → Int32 → Int32 → Option (Nat → Int32)) (rd : Int32) (Res : Option (Nat → Int32) → Prop)
    (hk : ∀ (fe : Nat → Int32) (v : Int32), SI t par i tt fe → (v = 0 ∨ v = 1) → (∀ x, fe0 x ≠ 0 → fe x = fe0 x) → Tried t par i tt fe0 fe (tN t) → (v = 0 → ∀ x, fe x = fe0 x) → Res (k fe v (rd + 1))) :
    ∀ (d c g : Nat) (fe : Nat → Int32) (v : Int32), c + d = tN t → d < g → SI t par i tt fe → (v = 0 ∨ v = 1) → (∀ x, fe0 x ≠ 0 → fe x = fe0 x) → Tried t par i tt fe0 fe c → (v = 0 → ∀ x, fe x = fe0 x) →
      Res (f_X10_spread_62 5 (nI (tN t)) 35 f k g fe v rd (nI c)) := by
  have hn := V.1
  intro d
  induction d with
  | zero =>
    intro c g fe v hc hg S hv hm hT hz
    obtain ⟨g, rfl⟩ : ∃ g', g = g' + 1 := ⟨g - 1, by omega⟩
    obtain rfl : c = tN t := by omega
    rw [f_X10_spread_62, x_size, ob1_s, if_pos (nI_le (Nat.le_refl _) (by omega))]
    unfold f_X10_spread_116
    rw [bnd_s]
    exact hk fe v S hv hm hT hz
  | succ d ih =>
    intro c g fe v hc hg S hv hm hT hz
    obtain ⟨g, rfl⟩ : ∃ g', g = g' + 1 := ⟨g - 1, by omega⟩
    have hcn : c < tN t := by omega
    rw [f_X10_spread_62, x_size, ob1_s, if_neg (nI_ge hcn (by omega)), X.o hcn hn, ob1_s]
    cases ho : tO t c with
    | none =>
      rw [if_pos (show onv none = -1 from rfl)]
      unfold f_X10_spread_110
      rw [bnd_s, nI_1]
      refine ih (c + 1) g fe v (by omega) (by omega) S hv hm (fun x hx h hh => ?_) hz
      rcases Nat.lt_or_ge x c with q | q
      · exact hT x q h hh
      · obtain rfl : x = c := by omega
        rw [ho] at hh; cases hh
    | some h =>
      have hh := V.on hcn ho
      rw [if_neg (fun q => by rw [onv, nI_m1 (by omega)] at q; exact q)]
      show Res (ob2 (f_X10_pass fe 5 (nI (tN t)) 35 f (nI c) (nI h)) _)
      obtain ⟨r1, fe1, p1, S1, m1, w1, z1, b1⟩ := x_pass X V Rr ht S hcn hh (Or.inl ho)
      rw [p1, ob2_s]
      show Res (ob2 (f_X10_pass fe1 5 (nI (tN t)) 35 f (nI h) (nI c)) _)
      obtain ⟨r2, fe2, p2, S2, m2, w2, z2, b2⟩ := x_pass X V Rr ht S1 hh hcn (Or.inr ho)
      rw [p2, ob2_s, bnd_s]
      unfold f_X10_spread_110
      rw [bnd_s, nI_1]
      obtain ⟨o1, o2⟩ := or01 b1 b2
      obtain ⟨o3, o4⟩ := or01 hv o1
      have keep : ∀ x, fe x ≠ 0 → fe2 x = fe x := fun x hx => by rw [m2 x (by rw [m1 x hx]; exact hx), m1 x hx]
      have due : ∀ x, fe x ≠ 0 → x < tN t → fe x = nI (Fe t par i tt x) := fun x hx hxn => by
        rcases S.1 x hxn with q | ⟨-, q, -⟩
        · exact absurd q hx
        · exact q
      refine ih (c + 1) g fe2 (v ||| (r1 ||| r2)) (by omega) (by omega) S2 o3 (fun x hx => by rw [keep x (by rw [hm x hx]; exact hx), hm x hx]) (fun x hx h' hh' => ?_) (fun q => ?_)
      · rcases Nat.lt_or_ge x c with q | q
        · obtain ⟨q1, q2⟩ := hT x q h' hh'
          refine ⟨fun h1 h2 => ?_, fun h1 h2 => ?_⟩
          · have e := q1 h1 h2
            by_cases z : fe h' = 0
            · have : Fe t par i tt h' = 0 := by
                rw [z] at e
                have := Fe_le V Rr.2.2.2 ht (i := i) h' (V.on (by omega) hh')
                exact ((nI_eq (by omega) (by omega)).mp (e.symm.trans (show (0 : Int32) = nI 0 from rfl)))
              rcases S2.1 h' (V.on (by omega) hh') with q5 | ⟨q5, -, -⟩
              · rw [q5, this]; rfl
              · exact absurd this q5
            · rw [keep h' z]; exact e
          · have e := q2 h1 h2
            by_cases z : fe x = 0
            · have : Fe t par i tt x = 0 := by
                rw [z] at e
                have := Fe_le V Rr.2.2.2 ht (i := i) x (by omega)
                exact ((nI_eq (by omega) (by omega)).mp (e.symm.trans (show (0 : Int32) = nI 0 from rfl)))
              rcases S2.1 x (by omega) with q5 | ⟨q5, -, -⟩
              · rw [q5, this]; rfl
              · exact absurd this q5
            · rw [keep x z]; exact e
        · obtain rfl : x = c := by omega
          rw [ho] at hh'; cases hh'
          refine ⟨fun h1 h2 => ?_, fun h1 h2 => ?_⟩
          · have e := w1 (by rw [hm x h1]; exact h1) h2
            by_cases z : fe1 h = 0
            · rw [z] at e
              have := Fe_le V Rr.2.2.2 ht (i := i) h hh
              have e0 : Fe t par i tt h = 0 := (nI_eq (by omega) (by omega)).mp (e.symm.trans (show (0 : Int32) = nI 0 from rfl))
              rcases S2.1 h hh with q5 | ⟨q5, -, -⟩
              · rw [q5, e0]; rfl
              · exact absurd e0 q5
            · rw [m2 h z]; exact e
          · exact w2 (by rw [m1 h (by rw [hm h h1]; exact h1), hm h h1]; exact h1) h2
      · obtain ⟨q1, q2⟩ := o4 q
        obtain ⟨q3, q4⟩ := o2 q2
        intro x
        rw [z2 q4 x, z1 q3 x, hz q1 x]
/-- nobody further will feel it -/
def Done (t : Tb) (par : Nat → Option Nat) (i tt : Nat) (fe : Nat → Int32) : Prop := ∀ x, x < tN t → fe x = nI (Fe t par i tt x)
theorem done_not (S : SI t par i tt fe) (V : VT t) (A : Acy (tN t) par) : ∀ x, x < tN t → (¬ ∃ k, upk par k x = i) → fe x = nI (Fe t par i tt x) := by
  have F0 : ∀ x, x < tN t → (¬ ∃ k, upk par k x = i) → Fe t par i tt x = 0 := par_ind A _ (fun x hx h hn => by
    have hxi : x ≠ i := fun e => hn ⟨0, e⟩
    cases hp : par x with
    | none => exact feel_none hxi hp
    | some a =>
      show feel par (gT t) i tt x = 0
      rw [feel_some A V.1 hxi hx hp, if_pos (h a hp (fun ⟨k, hk⟩ => hn ⟨k + 1, by rw [upk_some hp]; exact hk⟩))])
  intro x hx hn
  have e := F0 x hx hn
  rcases S.1 x hx with q | ⟨q, -, -⟩
  · rw [q, e]; rfl
  · exact absurd e q
theorem done_fix (S : SI t par i tt fe) (V : VT t) (Rr : RR (tN t) (tO t) i par) (ht : tt ≤ 20) (hi : i < tN t) (hx : ∀ x a, x < tN t → par x = some a → fe a ≠ 0 → fe x = nI (Fe t par i tt x)) : Done t par i tt fe := by
  have A := Rr.2.2.2
  have hI : fe i = nI (Fe t par i tt i) := by
    rcases S.1 i hi with q | ⟨-, q, -⟩
    · exact absurd q S.2.1
    · exact q
  have P : ∀ x, x < tN t → (∃ k, upk par k x = i) → fe x = nI (Fe t par i tt x) := par_ind A _ (fun x hxn h hk => by
    by_cases e : x = i
    · rw [e]; exact hI
    · obtain ⟨k, hk⟩ := hk
      cases k with
      | zero => exact absurd hk e
      | succ k =>
        cases hp : par x with
        | none => rw [upk_none hp] at hk; exact absurd hk e
        | some a =>
          rw [upk_some hp] at hk
          have ha := h a hp ⟨k, hk⟩
          have han : a < tN t := (Rr.2.1 x hxn a hp).1
          have hF := Fe_le V A ht (i := i) a han
          by_cases z : Fe t par i tt a = 0
          · have F0 : Fe t par i tt x = 0 := by
              show feel par (gT t) i tt x = 0
              rw [feel_some A V.1 e hxn hp, if_pos z]
            rcases S.1 x hxn with q | ⟨q, -, -⟩
            · rw [q, F0]; rfl
            · exact absurd F0 q
          · exact hx x a hxn hp (by rw [ha]; exact nI_ne z (by omega)))
  intro x hxn
  by_cases h : ∃ k, upk par k x = i
  · exact P x hxn h
  · exact done_not S V A x hxn h
/-- reached: those fewer than r hooks from i -/
def Rch (t : Tb) (par : Nat → Option Nat) (i tt : Nat) (fe : Nat → Int32) (r : Nat) : Prop := ∀ x, x < tN t → (∃ k, k < r ∧ upk par k x = i) → fe x = nI (Fe t par i tt x)
theorem x_rounds (X : XT f t) (V : VT t) (Rr : RR (tN t) (tO t) i par) (ht : tt ≤ 20) (hi : i < tN t) :
    ∀ (d r g : Nat) (fe : Nat → Int32) (v : Int32), r + d = tN t → d < g → SI t par i tt fe → (v = 0 ∨ v = 1) → Rch t par i tt fe r → 0 < r → (v = 0 → Done t par i tt fe) →
      ∃ fe', f_X10_spread_42 5 (nI (tN t)) 35 f g fe v (nI r) = some fe' ∧ Done t par i tt fe' ∧ SI t par i tt fe' := by
  have hn := V.1
  have A := Rr.2.2.2
  intro d
  induction d with
  | zero =>
    intro r g fe v hr hg S hv hR h0 hz
    obtain ⟨g, rfl⟩ : ∃ g', g = g' + 1 := ⟨g - 1, by omega⟩
    obtain rfl : r = tN t := by omega
    rw [f_X10_spread_42, x_size, ob1_s, if_pos (nI_le (Nat.le_refl _) (by omega))]
    refine ⟨fe, rfl, fun x hx => ?_, S⟩
    by_cases h : ∃ k, upk par k x = i
    · obtain ⟨k, hk⟩ := h
      by_cases q : k < tN t
      · exact hR x hx ⟨k, q, hk⟩
      · refine hR x hx ⟨tN t - 1, by omega, ?_⟩
        have e := upk_top A hx (k := tN t - 1) (by omega)
        have e2 := upk_stay e (k - (tN t - 1))
        rw [show tN t - 1 + (k - (tN t - 1)) = k by omega] at e2
        rw [← e2]; exact hk
    · exact done_not S V A x hx h
  | succ d ih =>
    intro r g fe v hr hg S hv hR h0 hz
    obtain ⟨g, rfl⟩ : ∃ g', g = g' + 1 := ⟨g - 1, by omega⟩
    rw [f_X10_spread_42, x_size, ob1_s, if_neg (nI_ge (by omega) (by omega))]
    by_cases hv0 : v = 0
    · rw [if_pos hv0]
      exact ⟨fe, rfl, hz hv0, S⟩
    · rw [if_neg hv0]
      refine x_round X V Rr ht (fe0 := fe) (f_X10_spread_42 5 (nI (tN t)) 35 f g) (nI r) (fun o => ∃ fe', o = some fe' ∧ Done t par i tt fe' ∧ SI t par i tt fe') (fun fe2 v2 S2 hv2 hm hT hz2 => ?_) (tN t) 0 FU fe 0 (by omega) (Nat.lt_of_le_of_lt hn (by decide)) S (Or.inl rfl) (fun _ _ => rfl) (fun x hx => absurd hx (by omega)) (fun _ _ => rfl)
      rw [nI_1]
      have step : ∀ x a, x < tN t → par x = some a → fe a ≠ 0 → fe2 x = nI (Fe t par i tt x) := fun x a hx hp ha => by
        obtain ⟨han, had⟩ := Rr.2.1 x hx a hp
        rcases had with q | q
        · exact (hT x hx a q).2 ha hp
        · exact (hT a han x q).1 ha hp
      refine ih (r + 1) g fe2 v2 (by omega) (by omega) S2 hv2 (fun x hx hk => ?_) (by omega) (fun q => ?_)
      · obtain ⟨k, hk, hki⟩ := hk
        have keep : fe x ≠ 0 → fe x = nI (Fe t par i tt x) → fe2 x = nI (Fe t par i tt x) := fun h1 h2 => by rw [hm x h1]; exact h2
        have due : fe x = 0 → Fe t par i tt x = 0 → fe2 x = nI (Fe t par i tt x) := fun _ h2 => by
          rcases S2.1 x hx with q | ⟨q, -, -⟩
          · rw [q, h2]; rfl
          · exact absurd h2 q
        have both : fe x = nI (Fe t par i tt x) → fe2 x = nI (Fe t par i tt x) := fun h => by
          by_cases z : fe x = 0
          · refine due z ?_
            have hF := Fe_le V A ht (i := i) x hx
            rw [z] at h
            exact (nI_eq (by omega) (by omega)).mp (h.symm.trans (show (0 : Int32) = nI 0 from rfl))
          · exact keep z h
        by_cases e : x = i
        · exact both (hR x hx ⟨0, h0, e⟩)
        · cases k with
          | zero => exact absurd hki e
          | succ k =>
            cases hp : par x with
            | none => rw [upk_none hp] at hki; exact absurd hki e
            | some a =>
              rw [upk_some hp] at hki
              obtain ⟨han, -⟩ := Rr.2.1 x hx a hp
              have ea := hR a han ⟨k, by omega, hki⟩
              by_cases z : fe a = 0
              · have hF := Fe_le V A ht (i := i) a han
                have Fa : Fe t par i tt a = 0 := by
                  rw [z] at ea
                  exact (nI_eq (by omega) (by omega)).mp (ea.symm.trans (show (0 : Int32) = nI 0 from rfl))
                have Fx : Fe t par i tt x = 0 := by
                  show feel par (gT t) i tt x = 0
                  rw [feel_some A hn e hx hp, if_pos Fa]
                rcases S2.1 x hx with q | ⟨q, -, -⟩
                · rw [q, Fx]; rfl
                · exact absurd Fx q
              · exact step x a hx hp z
      · have hsame := hz2 q
        exact done_fix S2 V Rr ht hi (fun x a hx hp ha => step x a hx hp (by rw [← hsame a]; exact ha))
/-- the class's tug: what each feels -/
theorem x_spread (X : XT f t) (V : VT t) (Rr : RR (tN t) (tO t) i par) (ht : tt ≤ 20) (h1 : 1 ≤ tt) (hi : i < tN t) (fe0 : Nat → Int32) :
    ∃ fe, f_X10_spread fe0 5 (nI (tN t)) 35 f (nI i) (nI tt) = some fe ∧ (∀ x, x < tN t → fe x = nI (Fe t par i tt x)) ∧ (∀ x, tN t ≤ x → x < 7 → fe x = 0) := by
  have hn := V.1
  unfold f_X10_spread
  have clr : ∀ (d c g : Nat) (fe : Nat → Int32), c + d = 7 → d < g → (∀ x, x < c → fe x = if x = i then nI tt else 0) →
      ∃ fe', (∀ x, x < 7 → fe' x = if x = i then nI tt else 0) ∧ f_X10_spread_3 5 (nI (tN t)) 35 f g fe (nI i) (nI tt) (nI c) = f_X10_spread_36 5 (nI (tN t)) 35 f fe' := by
    intro d
    induction d with
    | zero =>
      intro c g fe hc hg h
      obtain ⟨g, rfl⟩ : ∃ g', g = g' + 1 := ⟨g - 1, by omega⟩
      obtain rfl : c = 7 := by omega
      rw [f_X10_spread_3, if_pos (show (7 : Int32) ≤ nI 7 by decide)]
      exact ⟨fe, h, rfl⟩
    | succ d ih =>
      intro c g fe hc hg h
      obtain ⟨g, rfl⟩ : ∃ g', g = g' + 1 := ⟨g - 1, by omega⟩
      rw [f_X10_spread_3, if_neg (show ¬ (7 : Int32) ≤ nI c from nI_ge (b := 7) (by omega) (by omega))]
      have go : ∀ v : Int32, v = (if c = i then nI tt else 0) → ∃ fe', (∀ x, x < 7 → fe' x = if x = i then nI tt else 0) ∧ f_X10_spread_27 5 (nI (tN t)) 35 f (f_X10_spread_3 5 (nI (tN t)) 35 f g) fe (nI i) (nI tt) (nI c) (nI c) v = f_X10_spread_36 5 (nI (tN t)) 35 f fe' := fun v hv => by
        unfold f_X10_spread_27
        rw [x_set (by omega) (by omega), ob1_s, bnd_s, nI_1]
        refine ih (c + 1) g _ (by omega) (by omega) (fun x hx => ?_)
        by_cases q : x = c
        · rw [q, pk_us, hv]
        · rw [pk_un q]; exact h x (by omega)
      by_cases q : c = i
      · rw [if_pos (by rw [q])]; exact go _ (by rw [if_pos q])
      · rw [if_neg (fun z => q ((nI_eq (by omega) (by omega)).mp z))]; exact go _ (by rw [if_neg q])
  obtain ⟨fe1, hf, e⟩ := clr 7 0 FU fe0 rfl (by decide) (fun x hx => absurd hx (by omega))
  rw [show (0 : Int32) = nI 0 from rfl, e]
  unfold f_X10_spread_36
  have Fi : Fe t par i tt i = tt := feel_i
  have hii : fe1 i = nI tt := by rw [hf i (by omega), if_pos rfl]
  have S : SI t par i tt fe1 := by
    refine ⟨fun x hx => ?_, ?_, fun x h2 h3 => ?_⟩
    · by_cases q : x = i
      · right
        rw [q, Fi, hii]
        exact ⟨by omega, rfl, Or.inl rfl⟩
      · left; rw [hf x (by omega), if_neg q]
    · rw [hii]; exact nI_ne (by omega) (by omega)
    · rw [hf x h3, if_neg (by omega)]
  obtain ⟨fe, h2, h3, h4⟩ := x_rounds X V Rr ht hi (tN t - 1) 1 FU fe1 1 (by omega) (Nat.lt_of_le_of_lt (show tN t - 1 ≤ 7 by omega) (by decide)) S (Or.inr rfl) (fun x hx hk => by
    obtain ⟨k, hk, hki⟩ := hk
    obtain rfl : k = 0 := by omega
    have e : x = i := hki
    rw [e, Fi, hii]) (by omega) (fun q => absurd q (by decide))
  exact ⟨fe, h2, h3, h4.2.2⟩
end SP
