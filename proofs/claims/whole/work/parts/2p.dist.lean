/-! ===== how far two of a string are, the class's way ===== -/
section LC
variable {t : Tb}
theorem rk_up {n : Nat} {on : Nat → Option Nat} {rk : Nat → Nat} (h : ∀ i, i < n → ∀ j, on i = some j → j < n ∧ rk j < rk i) {i : Nat} (hi : i < n) : ∀ b a, a < b → (∀ c, a ≤ c → c < b → on (upk on c i) ≠ none) → rk (upk on b i) < rk (upk on a i) := by
  intro b
  induction b with
  | zero => intro a hab _; omega
  | succ b ih =>
    intro a hab hc
    have st : rk (upk on (b + 1) i) < rk (upk on b i) := by
      rw [upk_last]
      cases ho : on (upk on b i) with
      | none => exact absurd ho (hc b (by omega) (by omega))
      | some j => exact (h _ (upk_lt ⟨rk, h⟩ hi b) j ho).2
    rcases Nat.lt_or_ge a b with q | q
    · exact Nat.lt_trans st (ih a q (fun c h1 h2 => hc c h1 (by omega)))
    · obtain rfl : a = b := by omega
      exact st
theorem rk_le {n : Nat} {on : Nat → Option Nat} {rk : Nat → Nat} (h : ∀ i, i < n → ∀ j, on i = some j → j < n ∧ rk j < rk i) {i : Nat} (hi : i < n) (a : Nat) : ∀ d, rk (upk on (a + d) i) ≤ rk (upk on a i) := by
  intro d
  induction d with
  | zero => exact Nat.le_refl _
  | succ d ih =>
    rw [← Nat.add_assoc, upk_last]
    cases ho : on (upk on (a + d) i) with
    | none => exact ih
    | some j => exact Nat.le_trans (Nat.le_of_lt (h _ (upk_lt ⟨rk, h⟩ hi (a + d)) j ho).2) ih
/-- up p from i and up s from j is the first place that both come to -/
def LC (t : Tb) (i j p s : Nat) : Prop := upk (tO t) p i = upk (tO t) s j ∧ (∀ p', p' < p → ∀ s', upk (tO t) p' i ≠ upk (tO t) s' j) ∧ (∀ p', p' < p → tO t (upk (tO t) p' i) ≠ none) ∧ (∀ s', s' < s → tO t (upk (tO t) s' j) ≠ none)
theorem LC_ex (V : VT t) {i j : Nat} (hi : i < tN t) (hj : j < tN t) (h : topo t i = topo t j) : ∃ p s, p < 7 ∧ s < 7 ∧ LC t i j p s := by
  have hn := V.1
  obtain ⟨p, ⟨s0, hs0⟩, hp⟩ := pk_least (fun p => ∃ s, upk (tO t) p i = upk (tO t) s j) ⟨7, 7, h⟩
  obtain ⟨s, hs, hs2⟩ := pk_least (fun s => upk (tO t) p i = upk (tO t) s j) ⟨s0, hs0⟩
  have hs : upk (tO t) p i = upk (tO t) s j := hs
  have u1 : ∀ p', p' < p → tO t (upk (tO t) p' i) ≠ none := fun p' hp' hz => hp p' hp' ⟨s, by
    have := upk_stay hz (p - p')
    rw [show p' + (p - p') = p by omega] at this
    rw [← this]; exact hs⟩
  have u2 : ∀ s', s' < s → tO t (upk (tO t) s' j) ≠ none := fun s' hs' hz => hs2 s' hs' (by
    have := upk_stay hz (s - s')
    rw [show s' + (s - s') = s by omega] at this
    show upk (tO t) p i = upk (tO t) s' j
    rw [← this]; exact hs)
  refine ⟨p, s, ?_, ?_, hs, fun p' hp' s' e => hp p' hp' ⟨s', e⟩, u1, u2⟩
  · rcases Nat.lt_or_ge p 7 with q | q
    · exact q
    · exact absurd (upk_top V.2.2 hi (by omega)) (u1 6 (by omega))
  · rcases Nat.lt_or_ge s 7 with q | q
    · exact q
    · exact absurd (upk_top V.2.2 hj (by omega)) (u2 6 (by omega))
theorem LC.symm (V : VT t) {i j p s : Nat} (hi : i < tN t) (hj : j < tN t) (L : LC t i j p s) : LC t j i s p := by
  obtain ⟨rk, h⟩ := V.2.2
  refine ⟨L.1.symm, fun s' hs' p' e => ?_, L.2.2.2, L.2.2.1⟩
  rcases Nat.lt_or_ge p' p with q | q
  · exact L.2.1 p' q s' e.symm
  · have h1 := rk_le h hi p (p' - p)
    rw [show p + (p' - p) = p' by omega] at h1
    have h2 := rk_up h hj s s' hs' (fun c _ hc => L.2.2.2 c hc)
    rw [← L.1, e] at h2
    omega
/-- how many clerks stand on the way from i to x, both counted; 0 if there is no way -/
def FDn (par : Nat → Option Nat) (i x : Nat) : Nat := feel par (fun _ v => v + 1) i 1 x
theorem FDn_some {n : Nat} {par : Nat → Option Nat} (A : Acy n par) (hn : n ≤ 7) {i x a : Nat} (hx : x ≠ i) (hxn : x < n) (h : par x = some a) : FDn par i x = if FDn par i a = 0 then 0 else FDn par i a + 1 := feel_some A hn hx hxn h
theorem FD_LC (V : VT t) {i j p s : Nat} {par : Nat → Option Nat} (Rr : RR (tN t) (tO t) i par) (hi : i < tN t) (hj : j < tN t) (L : LC t i j p s) : FDn par i j = p + s + 1 := by
  have hn := V.1
  have A := Rr.2.2.2
  obtain ⟨rk, h⟩ := id V.2.2
  have Ac := V.2.2
  have pn : ∀ x a, par x = some a → x ≠ i := fun x a hx e => by rw [e, Rr.1] at hx; cases hx
  have u : ∀ q, q ≤ p → FDn par i (upk (tO t) q i) = q + 1 ∧ (0 < q → par (upk (tO t) q i) = some (upk (tO t) (q - 1) i)) := by
    intro q
    induction q with
    | zero => intro _; exact ⟨feel_i, fun h => absurd h (by omega)⟩
    | succ q ih =>
      intro hq
      obtain ⟨i1, i2⟩ := ih (by omega)
      have hlt := upk_lt Ac hi q
      cases ho : tO t (upk (tO t) q i) with
      | none => exact absurd ho (L.2.2.1 q (by omega))
      | some b =>
        have eb : upk (tO t) (q + 1) i = b := by rw [upk_last, ho]
        have hb : b < tN t := V.on hlt ho
        have hp : par b = some (upk (tO t) q i) := by
          rcases Rr.2.2.1 _ hlt b ho with y | y
          · rcases Nat.eq_zero_or_pos q with z | z
            · rw [z] at y
              exact absurd rfl (pn _ _ y)
            · rw [i2 z] at y
              have e := Option.some.inj y
              have := rk_up h hi (q + 1) (q - 1) (by omega) (fun c _ hc => L.2.2.1 c (by omega))
              rw [eb, ← e] at this
              omega
          · exact y
        refine ⟨?_, fun _ => by rw [eb]; exact hp⟩
        rw [eb, FDn_some A hn (pn _ _ hp) hb hp, i1, if_neg (by omega)]
  have x1 : ∀ t', t' < s → par (upk (tO t) t' j) = some (upk (tO t) (t' + 1) j) := by
    intro t' ht
    have hlt := upk_lt Ac hj t'
    cases ho : tO t (upk (tO t) t' j) with
    | none => exact absurd ho (L.2.2.2 t' ht)
    | some b =>
      have eb : upk (tO t) (t' + 1) j = b := by rw [upk_last, ho]
      rcases Rr.2.2.1 _ hlt b ho with y | y
      · rw [eb]; exact y
      · exfalso
        have away : ∀ d, t' + d < s → par (upk (tO t) (t' + d + 1) j) = some (upk (tO t) (t' + d) j) := by
          intro d
          induction d with
          | zero => intro _; rw [Nat.add_zero, eb]; exact y
          | succ d ih =>
            intro hd
            have i1 := ih (by omega)
            have hl2 := upk_lt Ac hj (t' + d + 1)
            cases ho2 : tO t (upk (tO t) (t' + d + 1) j) with
            | none => exact absurd ho2 (L.2.2.2 (t' + d + 1) (by omega))
            | some b2 =>
              have eb2 : upk (tO t) (t' + (d + 1) + 1) j = b2 := by
                show upk (tO t) (t' + d + 1 + 1) j = b2
                rw [upk_last, ho2]
              rcases Rr.2.2.1 _ hl2 b2 ho2 with y2 | y2
              · rw [i1] at y2
                have e := Option.some.inj y2
                have := rk_up h hj (t' + d + 2) (t' + d) (by omega) (fun c _ hc => L.2.2.2 c (by omega))
                have eb2 : upk (tO t) (t' + d + 2) j = b2 := eb2
                rw [eb2, ← e] at this
                omega
              · rw [eb2]; exact y2
        have last := away (s - 1 - t') (by omega)
        rw [show t' + (s - 1 - t') + 1 = s by omega, show t' + (s - 1 - t') = s - 1 by omega, ← L.1] at last
        rcases Nat.eq_zero_or_pos p with z | z
        · rw [z] at last
          exact absurd rfl (pn _ _ last)
        · rw [(u p (Nat.le_refl _)).2 z] at last
          exact L.2.1 (p - 1) (by omega) (s - 1) (Option.some.inj last)
  have dn : ∀ d, d ≤ s → FDn par i (upk (tO t) (s - d) j) = p + d + 1 := by
    intro d
    induction d with
    | zero => intro _; rw [Nat.sub_zero, ← L.1]; exact (u p (Nat.le_refl _)).1
    | succ d ih =>
      intro hd
      have i1 := ih (by omega)
      have hp := x1 (s - (d + 1)) (by omega)
      rw [show s - (d + 1) + 1 = s - d by omega] at hp
      rw [FDn_some A hn (pn _ _ hp) (upk_lt Ac hj _) hp, i1, if_neg (by omega)]
      omega
  have e := dn s (Nat.le_refl _)
  rw [Nat.sub_self] at e
  exact e
theorem topo_on (V : VT t) {x a : Nat} (ha : a < tN t) (h : tO t x = some a) : topo t x = topo t a := by
  have hn := V.1
  show upk (tO t) 7 x = upk (tO t) 7 a
  rw [upk_some h 6]
  exact (upk_stay (upk_top V.2.2 ha (k := 6) (by omega)) 1).symm
theorem FD_topo (V : VT t) {i : Nat} {par : Nat → Option Nat} (Rr : RR (tN t) (tO t) i par) : ∀ x, x < tN t → FDn par i x ≠ 0 → topo t x = topo t i := by
  have hn := V.1
  have A := Rr.2.2.2
  refine par_ind A (fun x => FDn par i x ≠ 0 → topo t x = topo t i) (fun x hx ih hF => ?_)
  by_cases q : x = i
  · rw [q]
  · cases hp : par x with
    | none => exact absurd (feel_none q hp) hF
    | some a =>
      have e := FDn_some A hn q hx hp
      by_cases z : FDn par i a = 0
      · rw [if_pos z] at e; exact absurd e hF
      · have ia := ih a hp z
        have ha := (Rr.2.1 x hx a hp).1
        rcases (Rr.2.1 x hx a hp).2 with y | y
        · exact (topo_on V ha y).trans ia
        · exact (topo_on V hx y).symm.trans ia
theorem FD_le (V : VT t) {i : Nat} {par : Nat → Option Nat} (Rr : RR (tN t) (tO t) i par) (hi : i < tN t) {x : Nat} (hx : x < tN t) : FDn par i x ≤ 13 := by
  by_cases z : FDn par i x = 0
  · omega
  · obtain ⟨p, s, hp, hs, L⟩ := LC_ex V hi hx (FD_topo V Rr x hx z).symm
    rw [FD_LC V Rr hi hx L]
    omega
theorem FD_symm (V : VT t) {i j : Nat} {par par' : Nat → Option Nat} (Rr : RR (tN t) (tO t) i par) (Rs : RR (tN t) (tO t) j par') (hi : i < tN t) (hj : j < tN t) (h : topo t i = topo t j) : FDn par i j = FDn par' j i := by
  obtain ⟨p, s, hp, hs, L⟩ := LC_ex V hi hj h
  rw [FD_LC V Rr hi hj L, FD_LC V Rs hj hi (L.symm V hi hj)]
  omega
end LC
section HB
variable {f : Nat → Int32} {t : Tb}
theorem hb_no (X : XT f t) (V : VT t) (k5 : Int32 → Int32 → Int32 → Option Int32) (v2 v4 : Int32) {c : Nat} (hc : c < tN t) : ∀ (d u y g : Nat), u + d = 7 → d + 1 < g → y < tN t → (∀ s, upk (tO t) s y ≠ c) → f_X0_hooksBetween_23 5 (nI (tN t)) 35 f k5 g v2 (nI c) v4 (nI y) (nI u) = f_X0_hooksBetween_63 5 (nI (tN t)) 35 f k5 v2 (nI c) v4 := by
  have hn := V.1
  intro d
  induction d with
  | zero =>
    intro u y g hu hg hy hs
    obtain ⟨g, rfl⟩ : ∃ g', g = g' + 1 := ⟨g - 1, by omega⟩
    obtain rfl : u = 7 := by omega
    rw [f_X0_hooksBetween_23, if_pos (show (7 : Int32) ≤ nI 7 by decide)]
  | succ d ih =>
    intro u y g hu hg hy hs
    obtain ⟨g, rfl⟩ : ∃ g', g = g' + 2 := ⟨g - 2, by omega⟩
    have hcy : c ≠ y := fun e => hs 0 e.symm
    rw [f_X0_hooksBetween_23, if_neg (show ¬ (7 : Int32) ≤ nI u from nI_ge (b := 7) (by omega) (by omega)), if_neg (show ¬ nI y = -1 from fun q => by rw [nI_m1 (by omega)] at q; exact q), if_neg (fun q => hcy ((nI_eq (by omega) (by omega)).mp q)), X.o hy hn, ob1_s, nI_1, bnd_s]
    cases ho : tO t y with
    | none =>
      show f_X0_hooksBetween_23 5 (nI (tN t)) 35 f k5 (g + 1) v2 (nI c) v4 (-1) (nI (u + 1)) = _
      rw [f_X0_hooksBetween_23]
      by_cases q : (7 : Int32) ≤ nI (u + 1)
      · rw [if_pos q]
      · rw [if_neg q, if_pos rfl]
    | some y' => exact ih (u + 1) y' (g + 1) (by omega) (by omega) (V.on hy ho) (fun s e => hs (s + 1) (by rw [upk_some ho]; exact e))
theorem hb_hit (X : XT f t) (V : VT t) (k5 : Int32 → Int32 → Int32 → Option Int32) (v2 : Int32) {c p : Nat} (hc : c < tN t) : ∀ (s u y g : Nat), u + s < 7 → s < g → y < tN t → upk (tO t) s y = c → (∀ s', s' < s → upk (tO t) s' y ≠ c) → f_X0_hooksBetween_23 5 (nI (tN t)) 35 f k5 g v2 (nI c) (nI p) (nI y) (nI u) = some (nI (p + (u + s))) := by
  have hn := V.1
  intro s
  induction s with
  | zero =>
    intro u y g hu hg hy h1 _
    obtain ⟨g, rfl⟩ : ∃ g', g = g' + 1 := ⟨g - 1, by omega⟩
    have h1 : y = c := h1
    rw [f_X0_hooksBetween_23, if_neg (show ¬ (7 : Int32) ≤ nI u from nI_ge (b := 7) (by omega) (by omega)), if_neg (show ¬ nI y = -1 from fun q => by rw [nI_m1 (by omega)] at q; exact q), if_pos (by rw [h1])]
    unfold f_X0_hooksBetween_42
    rw [nI_add]
    rfl
  | succ s ih =>
    intro u y g hu hg hy h1 h2
    obtain ⟨g, rfl⟩ : ∃ g', g = g' + 1 := ⟨g - 1, by omega⟩
    have hcy : c ≠ y := fun e => h2 0 (by omega) e.symm
    rw [f_X0_hooksBetween_23, if_neg (show ¬ (7 : Int32) ≤ nI u from nI_ge (b := 7) (by omega) (by omega)), if_neg (show ¬ nI y = -1 from fun q => by rw [nI_m1 (by omega)] at q; exact q), if_neg (fun q => hcy ((nI_eq (by omega) (by omega)).mp q)), X.o hy hn, ob1_s, nI_1, bnd_s]
    cases ho : tO t y with
    | none => exact absurd h1 (by rw [upk_none ho]; exact fun e => hcy e.symm)
    | some y' =>
      have e := ih (u + 1) y' g (by omega) (by omega) (V.on hy ho) (by rw [← upk_some ho]; exact h1) (fun s' hs' e => h2 (s' + 1) (by omega) (by rw [upk_some ho]; exact e))
      rw [show p + (u + (s + 1)) = p + (u + 1 + s) by omega]
      exact e
theorem hb_go (X : XT f t) (V : VT t) {a b p s : Nat} (ha : a < tN t) (hb : b < tN t) (hp : p < 7) (hs : s < 7) (L : LC t a b p s) : ∀ (d q g : Nat), q + d = p → d < g → f_X0_hooksBetween_5 5 (nI (tN t)) 35 f g (nI b) (nI (upk (tO t) q a)) (nI q) = some (nI (p + s)) := by
  have hn := V.1
  intro d
  induction d with
  | zero =>
    intro q g hq hg
    obtain ⟨g, rfl⟩ : ∃ g', g = g' + 1 := ⟨g - 1, by omega⟩
    obtain rfl : q = p := by omega
    have hlt := upk_lt V.2.2 ha q
    rw [f_X0_hooksBetween_5, if_neg (show ¬ (7 : Int32) ≤ nI q from nI_ge (b := 7) (by omega) (by omega)), if_neg (show ¬ nI (upk (tO t) q a) = -1 from fun q => by rw [nI_m1 (by omega)] at q; exact q)]
    have e := hb_hit X V (f_X0_hooksBetween_5 5 (nI (tN t)) 35 f g) (nI b) (p := q) hlt s 0 b FU (by omega) (Nat.lt_of_lt_of_le hs (by decide)) hb L.1.symm (fun s' hs' => (L.symm V ha hb).2.1 s' hs' q)
    rw [Nat.zero_add] at e
    exact e
  | succ d ih =>
    intro q g hq hg
    obtain ⟨g, rfl⟩ : ∃ g', g = g' + 1 := ⟨g - 1, by omega⟩
    have hlt := upk_lt V.2.2 ha q
    rw [f_X0_hooksBetween_5, if_neg (show ¬ (7 : Int32) ≤ nI q from nI_ge (b := 7) (by omega) (by omega)), if_neg (show ¬ nI (upk (tO t) q a) = -1 from fun q => by rw [nI_m1 (by omega)] at q; exact q)]
    have e := hb_no X V (f_X0_hooksBetween_5 5 (nI (tN t)) 35 f g) (nI b) (nI q) hlt 7 0 b FU (by omega) (by decide) hb (fun s' e => L.2.1 q (by omega) s' e.symm)
    have e : f_X0_hooksBetween_23 5 (nI (tN t)) 35 f (f_X0_hooksBetween_5 5 (nI (tN t)) 35 f g) FU (nI b) (nI (upk (tO t) q a)) (nI q) (nI b) 0 = f_X0_hooksBetween_63 5 (nI (tN t)) 35 f (f_X0_hooksBetween_5 5 (nI (tN t)) 35 f g) (nI b) (nI (upk (tO t) q a)) (nI q) := e
    rw [e]
    unfold f_X0_hooksBetween_63
    rw [X.o hlt hn, ob1_s, nI_1, bnd_s]
    cases ho : tO t (upk (tO t) q a) with
    | none => exact absurd ho (L.2.2.1 q (by omega))
    | some c =>
      have ec : upk (tO t) (q + 1) a = c := by rw [upk_last, ho]
      show f_X0_hooksBetween_5 5 (nI (tN t)) 35 f g (nI b) (nI c) (nI (q + 1)) = _
      rw [← ec]
      exact ih (q + 1) g (by omega) (by omega)
theorem x_hb (X : XT f t) (V : VT t) {a b : Nat} (ha : a < tN t) (hb : b < tN t) (h : topo t a = topo t b) : ∃ k, f_X0_hooksBetween 5 (nI (tN t)) 35 f (nI a) (nI b) = some (nI k) ∧ k < 13 ∧ ∀ par, RR (tN t) (tO t) a par → FDn par a b = k + 1 := by
  obtain ⟨p, s, hp, hs, L⟩ := LC_ex V ha hb h
  refine ⟨p + s, hb_go X V ha hb hp hs L p 0 FU (by omega) (Nat.lt_of_lt_of_le hp (by decide)), by omega, fun par Rr => FD_LC V Rr ha hb L⟩
end HB
