/-! ===== the reference: how a tug spreads ===== -/
section TG
variable {w fe nx cm : Nat → Int32} {r : Nat} {t : Tb} {v1 : Int32} {par : Nat → Option Nat} {i tt : Nat}
theorem m_hooked (hv : v1 = nI r) (M : MT w r t) (V : VT t) (hr : r + 47 ≤ 1251) {a b : Nat} (ha : a < tN t) (hb : b < tN t) : f_X12_areHooked w v1 (nI a) (nI b) = some (if tO t a = some b ∨ tO t b = some a then 1 else 0) := by
  have hn := V.1
  unfold f_X12_areHooked f_X12_areHooked_30
  rw [hv, mx31, mx31, chk_n (by omega) (by omega), chk_n (by omega) (by omega), nI_clamp (by omega), nI_clamp (by omega), M.go ha, M.go hb]
  by_cases h1 : tO t a = some b
  · rw [if_pos ((onv_nI (V.on31 ha) (by omega)).mpr h1), if_pos (Or.inl h1)]
  · rw [if_neg (fun q => h1 ((onv_nI (V.on31 ha) (by omega)).mp q))]
    by_cases h2 : tO t b = some a
    · rw [if_pos ((onv_nI (V.on31 hb) (by omega)).mpr h2), if_pos (Or.inr h2)]
    · rw [if_neg (fun q => h2 ((onv_nI (V.on31 hb) (by omega)).mp q)), if_neg (fun q => q.elim h1 h2)]
/-- the queue: T places, those ahead of h are done; within place h - 1, those below b too -/
def BQ (t : Tb) (par : Nat → Option Nat) (i : Nat) (F : Nat → Nat) (qf : Nat → Nat) (T h b : Nat) : Prop :=
  (∀ k, k < T → qf k < tN t ∧ F (qf k) ≠ 0) ∧ (∀ k l, k < T → l < T → qf k = qf l → k = l) ∧ 0 < T ∧ qf 0 = i ∧ h ≤ T ∧
  (∀ k, k + 1 < h → ∀ x, x < tN t → par x = some (qf k) → F x ≠ 0 → ∃ l, l < T ∧ qf l = x) ∧
  (0 < h → ∀ x, x < b → par x = some (qf (h - 1)) → F x ≠ 0 → ∃ l, l < T ∧ qf l = x) ∧
  (∀ l, l < T → qf l ≠ i → (∃ k, k + 1 < h ∧ par (qf l) = some (qf k)) ∨ (0 < h ∧ par (qf l) = some (qf (h - 1)) ∧ qf l < b))
/-- the three rows hold the queue -/
def BA (t : Tb) (par : Nat → Option Nat) (F : Nat → Nat) (qf : Nat → Nat) (T : Nat) (fe nx cm : Nat → Int32) : Prop :=
  (∀ k, k < T → nx k = nI (qf k)) ∧ (∀ k, k < T → fe (qf k) = nI (F (qf k)) ∧ cm (qf k) = onv (par (qf k))) ∧ ∀ x, x < 7 → (∀ k, k < T → qf k ≠ x) → fe x = 0
theorem inj_le {n T : Nat} {qf : Nat → Nat} (h1 : ∀ k, k < T → qf k < n) (h2 : ∀ k l, k < T → l < T → qf k = qf l → k = l) : T ≤ n := by
  rcases Nat.lt_or_ge n T with h | h
  · obtain ⟨a, b, q1, q2, q3⟩ := pigeon n qf (fun k hk => h1 k (by omega))
    have := h2 a b (by omega) (by omega) q3
    omega
  · exact h
theorem BQ.le {F qf : Nat → Nat} {T h b : Nat} (B : BQ t par i F qf T h b) : T ≤ tN t := inj_le (fun k hk => (B.1 k hk).1) B.2.1
theorem par_back {n : Nat} (A : Acy n par) {a b : Nat} (ha : a < n) (hb : b < n) (h1 : par a = some b) (h2 : par b = some a) : False := by
  obtain ⟨rk, h⟩ := A
  have := (h a ha b h1).2
  have := (h b hb a h2).2
  omega
/-- one of the queue hands on to those below n -/
theorem m_inner (hv : v1 = nI r) (M : MT w r t) (V : VT t) (hr : r + 47 ≤ 1251) (Rr : RR (tN t) (tO t) i par) (F : Nat → Nat) (hF : ∀ x, x < tN t → F x ≤ 20) (h a : Nat) (ha : a < tN t) (hFa : F a ≠ 0)
    (hgo : ∀ x, x < tN t → par x = some a → F x = gT t a (F a)) (k : (Nat → Int32) → (Nat → Int32) → (Nat → Int32) → Int32 → Int32 → Int32 → Option ((Nat → Int32) × (Nat → Int32) × (Nat → Int32))) (Res : Option ((Nat → Int32) × (Nat → Int32) × (Nat → Int32)) → Prop)
    (hk : ∀ (qf : Nat → Nat) (T : Nat) (fe nx cm : Nat → Int32), BQ t par i F qf T h (tN t) → BA t par F qf T fe nx cm → Res (k fe nx cm v1 (nI h) (nI T))) :
    ∀ (d b g : Nat) (qf : Nat → Nat) (T : Nat) (fe nx cm : Nat → Int32), b + d = tN t → d < g → 0 < h → qf (h - 1) = a → BQ t par i F qf T h b → BA t par F qf T fe nx cm →
      Res (f_X12_tugs_108 w k g fe nx cm v1 (nI h) (nI T) (nI a) (nI (gT t a (F a))) (nI b)) := by
  have hn := V.1
  have A := Rr.2.2.2
  have hg20 : gT t a (F a) ≤ 20 := gT_le (hF a ha)
  intro d
  induction d with
  | zero =>
    intro b g qf T fe nx cm hb hg h0 hqa B C
    obtain ⟨g, rfl⟩ : ∃ g', g = g' + 1 := ⟨g - 1, by omega⟩
    obtain rfl : b = tN t := by omega
    rw [f_X12_tugs_108, hv, mx0, chk_n (by omega) (by omega), nI_clamp (by omega), M.1, if_pos (nI_le (Nat.le_refl _) (by omega))]
    unfold f_X12_tugs_193
    rw [← hv]
    exact hk qf T fe nx cm B C
  | succ d ih =>
    intro b g qf T fe nx cm hb hg h0 hqa B C
    obtain ⟨g, rfl⟩ : ∃ g', g = g' + 1 := ⟨g - 1, by omega⟩
    have hbn : b < tN t := by omega
    rw [f_X12_tugs_108, hv, mx0, chk_n (by omega) (by omega), nI_clamp (by omega), M.1, if_neg (nI_ge hbn (by omega)), ← hv]
    by_cases hz : gT t a (F a) = 0
    · -- nothing goes on
      rw [if_pos (by rw [hz]; decide)]
      unfold f_X12_tugs_193
      refine hk qf T fe nx cm ⟨B.1, B.2.1, B.2.2.1, B.2.2.2.1, B.2.2.2.2.1, B.2.2.2.2.2.1, fun _ x hx hp hFx => ?_, fun l hl hli => ?_⟩ C
      · rw [hqa] at hp; exact absurd (by rw [hgo x hx hp]; exact hz) hFx
      · rcases B.2.2.2.2.2.2.2 l hl hli with q | ⟨q1, q2, q3⟩
        · exact Or.inl q
        · exact Or.inr ⟨q1, q2, by omega⟩
    · rw [if_neg (nI_nle (by omega) (by omega))]
      -- b isn't led to from a: on with the next one
      have skip : ¬ par b = some a → Res (f_X12_tugs_187 w k (f_X12_tugs_108 w k g) fe nx cm v1 (nI h) (nI T) (nI a) (nI (gT t a (F a))) (nI b)) := fun hp => by
        unfold f_X12_tugs_187
        rw [bnd_s, nI_1]
        refine ih (b + 1) g qf T fe nx cm (by omega) (by omega) h0 hqa ⟨B.1, B.2.1, B.2.2.1, B.2.2.2.1, B.2.2.2.2.1, B.2.2.2.2.2.1, fun _ x hx hpx hFx => ?_, fun l hl hli => ?_⟩ C
        · rcases Nat.lt_or_ge x b with q | q
          · exact B.2.2.2.2.2.2.1 h0 x q hpx hFx
          · obtain rfl : x = b := by omega
            rw [hqa] at hpx; exact absurd hpx hp
        · rcases B.2.2.2.2.2.2.2 l hl hli with q | ⟨q1, q2, q3⟩
          · exact Or.inl q
          · exact Or.inr ⟨q1, q2, by omega⟩
      by_cases hab : b = a
      · rw [if_pos (by rw [hab])]
        refine skip (fun q => ?_)
        obtain ⟨rk, hrk⟩ := A
        have := (hrk b hbn a q).2
        rw [hab] at this; omega
      · rw [if_neg (fun q => hab ((nI_eq (by omega) (by omega)).mp q)), chk_n (by omega) (by omega), nI_clamp (by omega)]
        have hT := B.le
        have hcm : cm a = onv (par a) := by rw [← hqa]; exact (C.2.1 (h - 1) (by have := B.2.2.2.2.1; omega)).2
        rw [hcm]
        by_cases hpa : par a = some b
        · rw [if_pos (by rw [hpa]; rfl)]
          exact skip (fun q => par_back A ha hbn hpa q)
        · rw [if_neg (fun q => hpa ((onv_nI (fun j hj => by have := (Rr.2.1 a ha j hj).1; omega) (by omega)).mp q.symm)), m_hooked hv M V hr ha hbn, ob1_s]
          by_cases had : tO t a = some b ∨ tO t b = some a
          · -- led to: it comes to the queue
            have hpb : par b = some a := by
              rcases had with q | q
              · rcases Rr.2.2.1 a ha b q with q | q
                · exact absurd q hpa
                · exact q
              · rcases Rr.2.2.1 b hbn a q with q | q
                · exact q
                · exact absurd q hpa
            have hbi : b ≠ i := by intro q; rw [q, Rr.1] at hpb; cases hpb
            have hnew : ∀ l, l < T → qf l ≠ b := fun l hl e => by
              rcases B.2.2.2.2.2.2.2 l hl (by rw [e]; exact hbi) with ⟨k', q1, q2⟩ | ⟨q1, q2, q3⟩
              · rw [e, hpb] at q2
                have e2 := Option.some.inj q2
                rw [← hqa] at e2
                have := B.2.1 (h - 1) k' (by have := B.2.2.2.2.1; omega) (by have := B.2.2.2.2.1; omega) e2
                omega
              · rw [e] at q3; omega
            have hFb : F b = gT t a (F a) := hgo b hbn hpb
            have hT7 : T + 1 ≤ tN t := inj_le (qf := fun k => if k = T then b else qf k) (fun k hk => by
              show (if k = T then b else qf k) < tN t
              by_cases e : k = T
              · rw [if_pos e]; exact hbn
              · rw [if_neg e]; exact (B.1 k (by omega)).1) (fun k l hk hl e => by
              have e : (if k = T then b else qf k) = (if l = T then b else qf l) := e
              by_cases e1 : k = T <;> by_cases e2 : l = T
              · omega
              · rw [if_pos e1, if_neg e2] at e; exact absurd e.symm (hnew l (by omega))
              · rw [if_neg e1, if_pos e2] at e; exact absurd e (hnew k (by omega))
              · rw [if_neg e1, if_neg e2] at e; exact B.2.1 k l (by omega) (by omega) e)
            rw [if_pos had, if_neg (by decide), chk_n (by omega) (by omega), bnd_s, chk_n (by omega) (by omega), bnd_s, chk_n (by omega) (by omega), bnd_s, bnd_s, nI_clamp (by omega), nI_clamp (by omega), nI_1]
            unfold f_X12_tugs_187
            rw [bnd_s, nI_1]
            have qN : ∀ k, k < T → (if k = T then b else qf k) = qf k := fun k hk => if_neg (by omega)
            have hhT := B.2.2.2.2.1
            have qT : (if T = T then b else qf T) = b := if_pos rfl
            have lift : ∀ x, (∃ l, l < T ∧ qf l = x) → ∃ l, l < T + 1 ∧ (if l = T then b else qf l) = x := fun x ⟨l, hl, e⟩ => ⟨l, by omega, by rw [qN l hl]; exact e⟩
            refine ih (b + 1) g (fun k => if k = T then b else qf k) (T + 1) _ _ _ (by omega) (by omega) h0 (by show (if h - 1 = T then b else qf (h - 1)) = a; rw [qN _ (by omega)]; exact hqa) ⟨fun k hk => ?_, fun k l hk hl e => ?_, by omega, ?_, by omega, fun k hk x hx hpx hFx => ?_, fun _ x hx hpx hFx => ?_, fun l hl hli => ?_⟩ ⟨fun k hk => ?_, fun k hk => ?_, fun x hx hq => ?_⟩
            · show (if k = T then b else qf k) < tN t ∧ F (if k = T then b else qf k) ≠ 0
              by_cases e : k = T
              · rw [if_pos e]; exact ⟨hbn, by rw [hFb]; exact hz⟩
              · rw [if_neg e]; exact B.1 k (by omega)
            · have e : (if k = T then b else qf k) = (if l = T then b else qf l) := e
              by_cases e1 : k = T <;> by_cases e2 : l = T
              · omega
              · rw [if_pos e1, if_neg e2] at e; exact absurd e.symm (hnew l (by omega))
              · rw [if_neg e1, if_pos e2] at e; exact absurd e (hnew k (by omega))
              · rw [if_neg e1, if_neg e2] at e; exact B.2.1 k l (by omega) (by omega) e
            · show (if 0 = T then b else qf 0) = i
              rw [qN 0 B.2.2.1]; exact B.2.2.2.1
            · have hpx : par x = some (if k = T then b else qf k) := hpx
              rw [qN k (by omega)] at hpx
              exact lift x (B.2.2.2.2.2.1 k hk x hx hpx hFx)
            · have hpx : par x = some (if h - 1 = T then b else qf (h - 1)) := hpx
              rw [qN _ (by omega)] at hpx
              rcases Nat.lt_or_ge x b with q | q
              · exact lift x (B.2.2.2.2.2.2.1 h0 x q hpx hFx)
              · exact ⟨T, by omega, by show (if T = T then b else qf T) = x; rw [qT]; omega⟩
            · have hli : (if l = T then b else qf l) ≠ i := hli
              show (∃ k, k + 1 < h ∧ par (if l = T then b else qf l) = some (if k = T then b else qf k)) ∨ (0 < h ∧ par (if l = T then b else qf l) = some (if h - 1 = T then b else qf (h - 1)) ∧ (if l = T then b else qf l) < b + 1)
              rw [qN (h - 1) (by omega)]
              by_cases e : l = T
              · rw [if_pos e]
                exact Or.inr ⟨h0, by rw [hqa]; exact hpb, by omega⟩
              · rw [if_neg e] at hli ⊢
                rcases B.2.2.2.2.2.2.2 l (by omega) hli with ⟨k', q1, q2⟩ | ⟨q1, q2, q3⟩
                · exact Or.inl ⟨k', q1, by rw [qN k' (by omega)]; exact q2⟩
                · exact Or.inr ⟨q1, q2, by omega⟩
            · show upd nx T (nI b) k = nI (if k = T then b else qf k)
              by_cases e : k = T
              · rw [e, pk_us, if_pos rfl]
              · rw [pk_un e, if_neg e]; exact C.1 k (by omega)
            · show upd fe b (nI (gT t a (F a))) (if k = T then b else qf k) = nI (F (if k = T then b else qf k)) ∧ upd cm b (nI a) (if k = T then b else qf k) = onv (par (if k = T then b else qf k))
              by_cases e : k = T
              · rw [if_pos e, pk_us, pk_us, hFb, hpb]; exact ⟨rfl, rfl⟩
              · rw [if_neg e, pk_un (hnew k (by omega)), pk_un (hnew k (by omega))]; exact C.2.1 k (by omega)
            · have hxb : x ≠ b := fun e => hq T (by omega) (by show (if T = T then b else qf T) = x; rw [qT]; exact e.symm)
              rw [pk_un hxb]
              exact C.2.2 x hx (fun k hk e => hq k (by omega) (by show (if k = T then b else qf k) = x; rw [qN k hk]; exact e))
          · rw [if_neg had, if_pos rfl]
            refine skip (fun q => had ?_)
            rcases (Rr.2.1 b hbn a q).2 with q | q
            · exact Or.inr q
            · exact Or.inl q
/-- the queue to its end -/
theorem m_outer (hv : v1 = nI r) (M : MT w r t) (V : VT t) (hr : r + 47 ≤ 1251) (Rr : RR (tN t) (tO t) i par) (ht : tt ≤ 20) :
    ∀ (d h g : Nat) (qf : Nat → Nat) (T : Nat) (fe nx cm : Nat → Int32), h + d = 8 → d < g → BQ t par i (Fe t par i tt) qf T h (tN t) → BA t par (Fe t par i tt) qf T fe nx cm →
      ∃ fe' nx' cm' qf' T', f_X12_tugs_51 w g fe nx cm v1 (nI h) (nI T) = some (fe', nx', cm') ∧ BQ t par i (Fe t par i tt) qf' T' T' (tN t) ∧ BA t par (Fe t par i tt) qf' T' fe' nx' cm' := by
  have hn := V.1
  have A := Rr.2.2.2
  intro d
  induction d with
  | zero => intro h g qf T fe nx cm hd hg B C; have := B.le; have := B.2.2.2.2.1; omega
  | succ d ih =>
    intro h g qf T fe nx cm hd hg B C
    obtain ⟨g, rfl⟩ : ∃ g', g = g' + 1 := ⟨g - 1, by omega⟩
    have hT := B.le
    have hh := B.2.2.2.2.1
    rw [f_X12_tugs_51]
    by_cases e : h = T
    · subst e
      rw [if_pos (nI_le (Nat.le_refl _) (by omega))]
      exact ⟨fe, nx, cm, qf, h, rfl, B, C⟩
    · rw [if_neg (nI_ge (by omega) (by omega)), chk_n (by omega) (by omega), nI_clamp (by omega), bnd_s, C.1 h (by omega), bnd_s]
      obtain ⟨ha, hFa⟩ := B.1 h (by omega)
      have hF20 := Fe_le V A ht (i := i) (qf h) ha
      rw [hv, mx3, mx24, chk_n (by omega) (by omega), chk_n (by omega) (by omega), chk_n (by omega) (by omega), nI_clamp (by omega), nI_clamp (by omega), nI_clamp (by omega), M.gk ha, M.gu ha, (C.2.1 h (by omega)).1, m_go V ha (by omega) hF20, ob1_s, nI_1, ← hv]
      refine m_inner hv M V hr Rr (Fe t par i tt) (Fe_le V A ht) (h + 1) (qf h) ha hFa (fun x hx hp => ?_) (f_X12_tugs_51 w g) (fun o => ∃ fe' nx' cm' qf' T', o = some (fe', nx', cm') ∧ BQ t par i (Fe t par i tt) qf' T' T' (tN t) ∧ BA t par (Fe t par i tt) qf' T' fe' nx' cm') (fun qf2 T2 fe2 nx2 cm2 B2 C2 => ih (h + 1) g qf2 T2 fe2 nx2 cm2 (by omega) (by omega) B2 C2) (tN t) 0 FU qf T fe nx cm (by omega) (Nat.lt_of_le_of_lt hn (by decide)) (by omega) rfl ⟨B.1, B.2.1, B.2.2.1, B.2.2.2.1, by omega, fun k hk x hx hp hFx => ?_, fun _ x hx => absurd hx (by omega), fun l hl hli => ?_⟩ C
      · have hxi : x ≠ i := by intro q; rw [q, Rr.1] at hp; cases hp
        show feel par (gT t) i tt x = _
        rw [feel_some A hn hxi hx hp, if_neg hFa]
      · rcases Nat.lt_or_ge (k + 1) h with q | q
        · exact B.2.2.2.2.2.1 k q x hx hp hFx
        · obtain rfl : k = h - 1 := by omega
          exact B.2.2.2.2.2.2.1 (by omega) x hx hp hFx
      · rcases B.2.2.2.2.2.2.2 l hl hli with ⟨k', q1, q2⟩ | ⟨q1, q2, q3⟩
        · exact Or.inl ⟨k', by omega, q2⟩
        · exact Or.inl ⟨h - 1, by omega, q2⟩
theorem m_tugs (hv : v1 = nI r) (M : MT w r t) (V : VT t) (hr : r + 47 ≤ 1251) (Rr : RR (tN t) (tO t) i par) (ht : tt ≤ 20) (h1 : 1 ≤ tt) (hi : i < tN t) (fe0 nx0 cm0 : Nat → Int32) :
    ∃ fe nx cm, f_X12_tugs w fe0 nx0 cm0 v1 (nI i) (nI tt) = some (fe, nx, cm) ∧ (∀ x, x < tN t → fe x = nI (Fe t par i tt x)) ∧ (∀ x, tN t ≤ x → x < 7 → fe x = 0) := by
  have hn := V.1
  have A := Rr.2.2.2
  have clr : ∀ (d c g : Nat) (fe : Nat → Int32), c + d = 7 → d < g → (∀ x, x < c → fe x = 0) →
      ∃ fe', (∀ x, x < 7 → fe' x = 0) ∧ f_X12_tugs_3 w g fe nx0 cm0 v1 (nI i) (nI tt) (nI c) = f_X12_tugs_24 w fe' nx0 cm0 v1 (nI i) (nI tt) := by
    intro d
    induction d with
    | zero =>
      intro c g fe hc hg h
      obtain ⟨g, rfl⟩ : ∃ g', g = g' + 1 := ⟨g - 1, by omega⟩
      obtain rfl : c = 7 := by omega
      rw [f_X12_tugs_3, if_pos (show (7 : Int32) ≤ nI 7 by decide)]
      exact ⟨fe, h, rfl⟩
    | succ d ih =>
      intro c g fe hc hg h
      obtain ⟨g, rfl⟩ : ∃ g', g = g' + 1 := ⟨g - 1, by omega⟩
      rw [f_X12_tugs_3, if_neg (show ¬ (7 : Int32) ≤ nI c from nI_ge (b := 7) (by omega) (by omega)), chk_n (by omega) (by omega), bnd_s, bnd_s, nI_1, nI_clamp (by omega)]
      refine ih (c + 1) g _ (by omega) (by omega) (fun x hx => ?_)
      by_cases q : x = c
      · rw [q, pk_us]
      · rw [pk_un q]; exact h x (by omega)
  obtain ⟨fe1, hf, e⟩ := clr 7 0 FU fe0 rfl (by decide) (fun x hx => absurd hx (by omega))
  unfold f_X12_tugs
  rw [show (0 : Int32) = nI 0 from rfl, e]
  unfold f_X12_tugs_24
  rw [show chk (0 : Int32) 7 = chk (α := (Nat → Int32) × (Nat → Int32) × (Nat → Int32)) (nI 0) 7 from rfl, chk_n (by omega) (by omega), bnd_s, chk_n (by omega) (by omega), bnd_s, chk_n (by omega) (by omega), bnd_s, nI_clamp (by omega)]
  have Fi : Fe t par i tt i = tt := feel_i
  obtain ⟨fe', nx', cm', qf, T, h2, B, C⟩ := m_outer hv M V hr Rr ht 8 0 FU (fun _ => i) 1 (upd fe1 i (nI tt)) (upd nx0 0 (nI i)) (upd cm0 i (-1)) rfl (by decide)
    ⟨fun k _ => ⟨hi, by rw [Fi]; omega⟩, fun k l hk hl _ => by omega, by omega, rfl, by omega, fun k hk => absurd hk (by omega), fun h => absurd h (by omega), fun l _ h => absurd rfl h⟩
    ⟨fun k hk => by obtain rfl : k = 0 := by omega
                    exact pk_us, fun k _ => ⟨by rw [Fi]; exact pk_us, by rw [Rr.1]; exact pk_us⟩, fun x hx hq => by rw [pk_un (fun q => hq 0 (by omega) q.symm)]; exact hf x hx⟩
  refine ⟨fe', nx', cm', h2, fun x hx => ?_, fun x hx h7 => ?_⟩
  · have vis : ∀ x, x < tN t → Fe t par i tt x ≠ 0 → ∃ l, l < T ∧ qf l = x := par_ind A _ (fun x hx ih hF => by
      by_cases q : x = i
      · exact ⟨0, B.2.2.1, by rw [B.2.2.2.1, q]⟩
      · cases hp : par x with
        | none => exact absurd (feel_none q hp) hF
        | some a =>
          have e : Fe t par i tt x = if Fe t par i tt a = 0 then 0 else gT t a (Fe t par i tt a) := feel_some A hn q hx hp
          by_cases z : Fe t par i tt a = 0
          · rw [if_pos z] at e; exact absurd e hF
          · obtain ⟨l, hl, hla⟩ := ih a hp z
            rcases Nat.lt_or_ge (l + 1) T with q2 | q2
            · exact B.2.2.2.2.2.1 l q2 x hx (by rw [hla]; exact hp) hF
            · obtain rfl : l = T - 1 := by omega
              exact B.2.2.2.2.2.2.1 B.2.2.1 x hx (by rw [hla]; exact hp) hF)
    by_cases z : Fe t par i tt x = 0
    · rw [z]
      refine C.2.2 x (by omega) (fun k hk e => ?_)
      have := (B.1 k hk).2
      rw [e] at this
      exact this z
    · obtain ⟨l, hl, e⟩ := vis x hx z
      rw [← e]; exact (C.2.1 l hl).1
  · refine C.2.2 x h7 (fun k hk e => ?_)
    have := (B.1 k hk).1
    omega
end TG
