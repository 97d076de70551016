/-! ===== the longest way in a string, the reference ===== -/
def BL (t : Tb) (par : Nat → Option Nat) (F : Nat → Nat) (qf : Nat → Nat) (T : Nat) (dp nx cm : Nat → Int32) : Prop :=
  (∀ k, k < T → nx k = nI (qf k)) ∧ (∀ k, k < T → dp (qf k) = nI (F (qf k)) ∧ cm (qf k) = onv (par (qf k)))
section LF
variable {w : Nat → Int32} {t : Tb} {par : Nat → Option Nat} {i : Nat}
theorem lf_inner (M : MT w 0 t) (V : VT t) (Rr : RR (tN t) (tO t) i par) (F : Nat → Nat) (hF : ∀ x, x < tN t → F x ≤ 20) (h a best : Nat) (ha : a < tN t) (hFa : F a ≠ 0)
    (hgo : ∀ x, x < tN t → par x = some a → F x = F a + 1) (k : (Nat → Int32) → (Nat → Int32) → (Nat → Int32) → Int32 → Int32 → Int32 → Option (Int32 × (Nat → Int32) × (Nat → Int32) × (Nat → Int32))) (Res : Option (Int32 × (Nat → Int32) × (Nat → Int32) × (Nat → Int32)) → Prop)
    (hk : ∀ (qf : Nat → Nat) (T : Nat) (dp nx cm : Nat → Int32), BQ t par i F qf T h (tN t) → BL t par F qf T dp nx cm → (∀ l, l < h → F (qf l) ≤ best) → Res (k nx cm dp (nI best) (nI h) (nI T))) :
    ∀ (d b g : Nat) (qf : Nat → Nat) (T : Nat) (dp nx cm : Nat → Int32), b + d = tN t → d < g → 0 < h → qf (h - 1) = a → BQ t par i F qf T h b → BL t par F qf T dp nx cm → (∀ l, l < h → F (qf l) ≤ best) →
      Res (f_X12_longFrom_71 w k g nx cm dp (nI best) (nI h) (nI T) (nI a) (nI b)) := by
  have hn := V.1
  have A := Rr.2.2.2
  intro d
  induction d with
  | zero =>
    intro b g qf T dp nx cm hb hg h0 hqa B C S
    obtain ⟨g, rfl⟩ : ∃ g', g = g' + 1 := ⟨g - 1, by omega⟩
    obtain rfl : b = tN t := by omega
    rw [f_X12_longFrom_71, chk_0 (by decide) (by decide), cl_0, M.1, if_pos (nI_le (Nat.le_refl _) (by omega))]
    unfold f_X12_longFrom_156
    exact hk qf T dp nx cm B C S
  | succ d ih =>
    intro b g qf T dp nx cm hb hg h0 hqa B C S
    obtain ⟨g, rfl⟩ : ∃ g', g = g' + 1 := ⟨g - 1, by omega⟩
    have hbn : b < tN t := by omega
    have skip : ¬ par b = some a → Res (f_X12_longFrom_150 w k (f_X12_longFrom_71 w k g) nx cm dp (nI best) (nI h) (nI T) (nI a) (nI b)) := fun hp => by
      unfold f_X12_longFrom_150
      rw [bnd_s, nI_1]
      refine ih (b + 1) g qf T dp nx cm (by omega) (by omega) h0 hqa ⟨B.1, B.2.1, B.2.2.1, B.2.2.2.1, B.2.2.2.2.1, B.2.2.2.2.2.1, fun _ x hx hpx hFx => ?_, fun l hl hli => ?_⟩ C S
      · rcases Nat.lt_or_ge x b with q | q
        · exact B.2.2.2.2.2.2.1 h0 x q hpx hFx
        · obtain rfl : x = b := by omega
          rw [hqa] at hpx; exact absurd hpx hp
      · rcases B.2.2.2.2.2.2.2 l hl hli with q | ⟨q1, q2, q3⟩
        · exact Or.inl q
        · exact Or.inr ⟨q1, q2, by omega⟩
    rw [f_X12_longFrom_71, chk_0 (by decide) (by decide), cl_0, M.1, if_neg (nI_ge hbn (by omega))]
    by_cases hab : b = a
    · rw [if_pos (by rw [hab])]
      refine skip (fun q => ?_)
      obtain ⟨rk, hrk⟩ := A
      have := (hrk b hbn a q).2
      rw [hab] at this; omega
    · rw [if_neg (fun q => hab ((nI_eq (by omega) (by omega)).mp q)), chk_n (by omega) (by omega), nI_clamp (by omega)]
      have hT := B.le
      have hqh := C.2 (h - 1) (by have := B.2.2.2.2.1; omega)
      rw [hqa] at hqh
      rw [hqh.2]
      by_cases hpa : par a = some b
      · rw [if_pos (by rw [hpa]; rfl)]
        exact skip (fun q => par_back A ha hbn hpa q)
      · rw [if_neg (fun q => hpa ((onv_nI (fun j hj => by have := (Rr.2.1 a ha j hj).1; omega) (by omega)).mp q.symm)), m_hooked (v1 := 0) (r := 0) rfl M V (by omega) ha hbn, ob1_s]
        by_cases had : tO t a = some b ∨ tO t b = some a
        · have hpb : par b = some a := by
            rcases had with q | q
            · rcases Rr.2.2.1 a ha b q with q | q
              · exact absurd q hpa
              · exact q
            · rcases Rr.2.2.1 b hbn a q with q | q
              · exact q
              · exact absurd q hpa
          have hbi : b ≠ i := by intro q; rw [q, Rr.1] at hpb; cases hpb
          have hnew : ∀ l, l < T → qf l ≠ b := fun l hl e => by
            rcases B.2.2.2.2.2.2.2 l hl (by rw [e]; exact hbi) with ⟨k', q1, q2⟩ | ⟨q1, q2, q3⟩
            · rw [e, hpb] at q2
              have e2 := Option.some.inj q2
              rw [← hqa] at e2
              have := B.2.1 (h - 1) k' (by have := B.2.2.2.2.1; omega) (by have := B.2.2.2.2.1; omega) e2
              omega
            · rw [e] at q3; omega
          have hFb : F b = F a + 1 := hgo b hbn hpb
          have hT7 : T + 1 ≤ tN t := inj_le (qf := fun k => if k = T then b else qf k) (fun k hk => by
            show (if k = T then b else qf k) < tN t
            by_cases e : k = T
            · rw [if_pos e]; exact hbn
            · rw [if_neg e]; exact (B.1 k (by omega)).1) (fun k l hk hl e => by
            have e : (if k = T then b else qf k) = (if l = T then b else qf l) := e
            by_cases e1 : k = T <;> by_cases e2 : l = T
            · omega
            · rw [if_pos e1, if_neg e2] at e; exact absurd e.symm (hnew l (by omega))
            · rw [if_neg e1, if_pos e2] at e; exact absurd e (hnew k (by omega))
            · rw [if_neg e1, if_neg e2] at e; exact B.2.1 k l (by omega) (by omega) e)
          rw [if_pos had, if_neg one_ne, chk_n (by omega) (by omega), chk_n (by omega) (by omega), bnd_s, chk_n (by omega) (by omega), bnd_s, chk_n (by omega) (by omega), bnd_s, bnd_s, nI_clamp (by omega), nI_clamp (by omega), hqh.1, nI_1, nI_1]
          unfold f_X12_longFrom_150
          rw [bnd_s, nI_1]
          have qN : ∀ k, k < T → (if k = T then b else qf k) = qf k := fun k hk => if_neg (by omega)
          have hhT := B.2.2.2.2.1
          have qT : (if T = T then b else qf T) = b := if_pos rfl
          have lift : ∀ x, (∃ l, l < T ∧ qf l = x) → ∃ l, l < T + 1 ∧ (if l = T then b else qf l) = x := fun x ⟨l, hl, e⟩ => ⟨l, by omega, by rw [qN l hl]; exact e⟩
          refine ih (b + 1) g (fun k => if k = T then b else qf k) (T + 1) _ _ _ (by omega) (by omega) h0 (by show (if h - 1 = T then b else qf (h - 1)) = a; rw [qN _ (by omega)]; exact hqa) ⟨fun k hk => ?_, fun k l hk hl e => ?_, by omega, ?_, by omega, fun k hk x hx hpx hFx => ?_, fun _ x hx hpx hFx => ?_, fun l hl hli => ?_⟩ ⟨fun k hk => ?_, fun k hk => ?_⟩ (fun l hl => ?_)
          · show (if k = T then b else qf k) < tN t ∧ F (if k = T then b else qf k) ≠ 0
            by_cases e : k = T
            · rw [if_pos e]; exact ⟨hbn, by rw [hFb]; omega⟩
            · rw [if_neg e]; exact B.1 k (by omega)
          · have e : (if k = T then b else qf k) = (if l = T then b else qf l) := e
            by_cases e1 : k = T <;> by_cases e2 : l = T
            · omega
            · rw [if_pos e1, if_neg e2] at e; exact absurd e.symm (hnew l (by omega))
            · rw [if_neg e1, if_pos e2] at e; exact absurd e (hnew k (by omega))
            · rw [if_neg e1, if_neg e2] at e; exact B.2.1 k l (by omega) (by omega) e
          · show (if 0 = T then b else qf 0) = i
            rw [qN 0 B.2.2.1]; exact B.2.2.2.1
          · have hpx : par x = some (if k = T then b else qf k) := hpx
            rw [qN k (by omega)] at hpx
            exact lift x (B.2.2.2.2.2.1 k hk x hx hpx hFx)
          · have hpx : par x = some (if h - 1 = T then b else qf (h - 1)) := hpx
            rw [qN _ (by omega)] at hpx
            rcases Nat.lt_or_ge x b with q | q
            · exact lift x (B.2.2.2.2.2.2.1 h0 x q hpx hFx)
            · exact ⟨T, by omega, by show (if T = T then b else qf T) = x; rw [qT]; omega⟩
          · have hli : (if l = T then b else qf l) ≠ i := hli
            show (∃ k, k + 1 < h ∧ par (if l = T then b else qf l) = some (if k = T then b else qf k)) ∨ (0 < h ∧ par (if l = T then b else qf l) = some (if h - 1 = T then b else qf (h - 1)) ∧ (if l = T then b else qf l) < b + 1)
            rw [qN (h - 1) (by omega)]
            by_cases e : l = T
            · rw [if_pos e]
              exact Or.inr ⟨h0, by rw [hqa]; exact hpb, by omega⟩
            · rw [if_neg e] at hli ⊢
              rcases B.2.2.2.2.2.2.2 l (by omega) hli with ⟨k', q1, q2⟩ | ⟨q1, q2, q3⟩
              · exact Or.inl ⟨k', q1, by rw [qN k' (by omega)]; exact q2⟩
              · exact Or.inr ⟨q1, q2, by omega⟩
          · show upd nx T (nI b) k = nI (if k = T then b else qf k)
            by_cases e : k = T
            · rw [e, pk_us, if_pos rfl]
            · rw [pk_un e, if_neg e]; exact C.1 k (by omega)
          · show upd dp b (nI (F a + 1)) (if k = T then b else qf k) = nI (F (if k = T then b else qf k)) ∧ upd cm b (nI a) (if k = T then b else qf k) = onv (par (if k = T then b else qf k))
            by_cases e : k = T
            · rw [if_pos e, pk_us, pk_us, hFb, hpb]; exact ⟨rfl, rfl⟩
            · rw [if_neg e, pk_un (hnew k (by omega)), pk_un (hnew k (by omega))]; exact C.2 k (by omega)
          · show F (if l = T then b else qf l) ≤ best
            rw [qN l (by omega)]; exact S l hl
        · rw [if_neg had, if_pos rfl]
          refine skip (fun q => had ?_)
          rcases (Rr.2.1 b hbn a q).2 with q | q
          · exact Or.inr q
          · exact Or.inl q
theorem lf_outer (M : MT w 0 t) (V : VT t) (Rr : RR (tN t) (tO t) i par) (hi : i < tN t) :
    ∀ (d h g best : Nat) (qf : Nat → Nat) (T : Nat) (dp nx cm : Nat → Int32), h + d = 8 → d < g → BQ t par i (FDn par i) qf T h (tN t) → BL t par (FDn par i) qf T dp nx cm → (∀ l, l < h → FDn par i (qf l) ≤ best) → (∃ x, x < tN t ∧ FDn par i x = best) →
      ∃ r nx' cm' dp' qf' T', f_X12_longFrom_28 w g nx cm dp (nI best) (nI h) (nI T) = some (nI r, nx', cm', dp') ∧ BQ t par i (FDn par i) qf' T' T' (tN t) ∧ (∀ l, l < T' → FDn par i (qf' l) ≤ r) ∧ (∃ x, x < tN t ∧ FDn par i x = r) := by
  have hn := V.1
  have A := Rr.2.2.2
  have hF : ∀ x, x < tN t → FDn par i x ≤ 20 := fun x hx => Nat.le_trans (FD_le V Rr hi hx) (by omega)
  intro d
  induction d with
  | zero => intro h g best qf T dp nx cm hd hg B C S E; have := B.le; have := B.2.2.2.2.1; omega
  | succ d ih =>
    intro h g best qf T dp nx cm hd hg B C S E
    obtain ⟨g, rfl⟩ : ∃ g', g = g' + 1 := ⟨g - 1, by omega⟩
    have hT := B.le
    have hh := B.2.2.2.2.1
    rw [f_X12_longFrom_28]
    by_cases e : h = T
    · subst e
      rw [if_pos (nI_le (Nat.le_refl _) (by omega))]
      exact ⟨best, nx, cm, dp, qf, h, rfl, B, S, E⟩
    · rw [if_neg (nI_ge (by omega) (by omega)), chk_n (by omega) (by omega), nI_clamp (by omega), bnd_s, C.1 h (by omega), nI_1, bnd_s]
      obtain ⟨ha, hFa⟩ := B.1 h (by omega)
      have hb20 : best ≤ 20 := by obtain ⟨x, hx, e⟩ := E; have := hF x hx; omega
      have hFq := hF (qf h) ha
      -- on with a best that holds qf h too
      have go : ∀ b2, (b2 = best ∨ b2 = FDn par i (qf h)) → best ≤ b2 → FDn par i (qf h) ≤ b2 → ∃ r nx' cm' dp' qf' T', f_X12_longFrom_67 w (f_X12_longFrom_28 w g) nx cm dp (nI (h + 1)) (nI T) (nI (qf h)) (nI b2) = some (nI r, nx', cm', dp') ∧ BQ t par i (FDn par i) qf' T' T' (tN t) ∧ (∀ l, l < T' → FDn par i (qf' l) ≤ r) ∧ (∃ x, x < tN t ∧ FDn par i x = r) := by
        intro b2 h1 h2 h3
        have E2 : ∃ x, x < tN t ∧ FDn par i x = b2 := by
          rcases h1 with q | q
          · rw [q]; exact E
          · exact ⟨qf h, ha, q.symm⟩
        unfold f_X12_longFrom_67
        refine lf_inner M V Rr (FDn par i) hF (h + 1) (qf h) b2 ha hFa (fun x hx hp => ?_) (f_X12_longFrom_28 w g) (fun o => ∃ r nx' cm' dp' qf' T', o = some (nI r, nx', cm', dp') ∧ BQ t par i (FDn par i) qf' T' T' (tN t) ∧ (∀ l, l < T' → FDn par i (qf' l) ≤ r) ∧ (∃ x, x < tN t ∧ FDn par i x = r)) (fun qf2 T2 dp2 nx2 cm2 B2 C2 S2 => ih (h + 1) g b2 qf2 T2 dp2 nx2 cm2 (by omega) (by omega) B2 C2 S2 E2) (tN t) 0 FU qf T dp nx cm (by omega) (Nat.lt_of_le_of_lt hn (by decide)) (by omega) rfl ⟨B.1, B.2.1, B.2.2.1, B.2.2.2.1, by omega, fun k hk x hx hp hFx => ?_, fun _ x hx => absurd hx (by omega), fun l hl hli => ?_⟩ C (fun l hl => ?_)
        · have hxi : x ≠ i := by intro q; rw [q, Rr.1] at hp; cases hp
          rw [FDn_some A hn hxi hx hp, if_neg hFa]
        · rcases Nat.lt_or_ge (k + 1) h with q | q
          · exact B.2.2.2.2.2.1 k q x hx hp hFx
          · obtain rfl : k = h - 1 := by omega
            exact B.2.2.2.2.2.2.1 (by omega) x hx hp hFx
        · rcases B.2.2.2.2.2.2.2 l hl hli with ⟨k', q1, q2⟩ | ⟨q1, q2, q3⟩
          · exact Or.inl ⟨k', by omega, q2⟩
          · exact Or.inl ⟨h - 1, by omega, q2⟩
        · rcases Nat.lt_or_ge l h with q | q
          · exact Nat.le_trans (S l q) h2
          · obtain rfl : l = h := by omega
            exact h3
      rw [chk_n (by omega) (by omega), nI_clamp (by omega), (C.2 h (by omega)).1]
      by_cases z : FDn par i (qf h) ≤ best
      · rw [if_pos (nI_le z (by omega))]
        exact go best (Or.inl rfl) (Nat.le_refl _) z
      · rw [if_neg (nI_ge (by omega) (by omega)), chk_n (by omega) (by omega)]
        exact go _ (Or.inr rfl) (by omega) (Nat.le_refl _)
theorem m_longFrom (M : MT w 0 t) (V : VT t) (Rr : RR (tN t) (tO t) i par) (hi : i < tN t) (nx0 cm0 dp0 : Nat → Int32) :
    ∃ nx cm dp, f_X12_longFrom w nx0 cm0 dp0 (nI i) = some (nI (mxN (FDn par i) (tN t)), nx, cm, dp) := by
  have hn := V.1
  have A := Rr.2.2.2
  unfold f_X12_longFrom
  have c0 : ∀ k : Option (Int32 × (Nat → Int32) × (Nat → Int32) × (Nat → Int32)), chk 0 7 k = k := fun k => chk_n (i := 0) (by omega) (by omega)
  have z0 : (0 : Int32).toNatClampNeg = 0 := by decide
  rw [c0, z0, bnd_s, chk_n (by omega) (by omega), bnd_s, chk_n (by omega) (by omega), bnd_s, nI_clamp (by omega)]
  have Fi : FDn par i i = 1 := feel_i
  obtain ⟨r, nx', cm', dp', qf, T, e, B, S, x0, hx0, e0⟩ := lf_outer M V Rr hi 8 0 FU 1 (fun _ => i) 1 (upd dp0 i 1) (upd nx0 0 (nI i)) (upd cm0 i (-1)) rfl (by decide)
    ⟨fun k _ => ⟨hi, by rw [Fi]; omega⟩, fun k l hk hl _ => by omega, by omega, rfl, by omega, fun k hk => absurd hk (by omega), fun h => absurd h (by omega), fun l _ h => absurd rfl h⟩
    ⟨fun k hk => by obtain rfl : k = 0 := by omega
                    exact pk_us, fun k _ => ⟨by rw [Fi]; exact pk_us, by rw [Rr.1]; exact pk_us⟩⟩ (fun l hl => absurd hl (Nat.not_lt_zero l)) ⟨i, hi, Fi⟩
  have e : f_X12_longFrom_28 w FU (upd nx0 0 (nI i)) (upd cm0 i (-1)) (upd dp0 i 1) 1 0 1 = some (nI r, nx', cm', dp') := e
  have vis : ∀ x, x < tN t → FDn par i x ≠ 0 → ∃ l, l < T ∧ qf l = x := par_ind A _ (fun x hx ih hF => by
    by_cases q : x = i
    · exact ⟨0, B.2.2.1, by rw [B.2.2.2.1, q]⟩
    · cases hp : par x with
      | none => exact absurd (feel_none q hp) hF
      | some a =>
        have e := FDn_some A hn q hx hp
        by_cases z : FDn par i a = 0
        · rw [if_pos z] at e; exact absurd e hF
        · obtain ⟨l, hl, hla⟩ := ih a hp z
          rcases Nat.lt_or_ge (l + 1) T with q2 | q2
          · exact B.2.2.2.2.2.1 l q2 x hx (by rw [hla]; exact hp) hF
          · obtain rfl : l = T - 1 := by omega
            exact B.2.2.2.2.2.2.1 B.2.2.1 x hx (by rw [hla]; exact hp) hF)
  have er : mxN (FDn par i) (tN t) = r := by
    apply Nat.le_antisymm
    · refine mxN_le (fun x hx => ?_)
      by_cases z : FDn par i x = 0
      · omega
      · obtain ⟨l, hl, e⟩ := vis x hx z
        rw [← e]; exact S l hl
    · rw [← e0]; exact mxN_ge hx0
  rw [er]
  exact ⟨nx', cm', dp', e⟩
theorem m_longest (M : MT w 0 t) (V : VT t) {m : Nat} (hm : m < 128) (nx0 cm0 dp0 : Nat → Int32) : ∃ nx cm dp, f_X12_longestOf w nx0 cm0 dp0 (nI m) = some (nI (lngM t m), nx, cm, dp) := by
  have hn := V.1
  unfold f_X12_longestOf
  have go : ∀ (e k q v : Nat) (nx cm dp : Nat → Int32), k + e = tN t → e < q → v ≤ 13 → ∃ nx' cm' dp', f_X12_longestOf_4 w q nx cm dp (nI m) (nI v) (nI k) = some (nI (itr (mout t m) e k v), nx', cm', dp') := by
    intro e
    induction e with
    | zero =>
      intro k q v nx cm dp hk hq hv
      obtain ⟨q, rfl⟩ : ∃ q', q = q' + 1 := ⟨q - 1, by omega⟩
      obtain rfl : k = tN t := by omega
      rw [f_X12_longestOf_4, chk_0 (by decide) (by decide), cl_0, M.1, if_pos (nI_le (Nat.le_refl _) (by omega))]
      exact ⟨nx, cm, dp, rfl⟩
    | succ e ih =>
      intro k q v nx cm dp hk hq hv
      obtain ⟨q, rfl⟩ : ∃ q', q = q' + 1 := ⟨q - 1, by omega⟩
      have hkn : k < tN t := by omega
      rw [f_X12_longestOf_4, chk_0 (by decide) (by decide), cl_0, M.1, if_neg (nI_ge hkn (by omega)), m_has (by omega) (by omega), ob1_s]
      show ∃ nx' cm' dp', _ = some (nI (itr (mout t m) e (k + 1) (mout t m k v)), nx', cm', dp')
      have hme : mout t m k v ≤ 13 := by
        unfold mout
        split
        · exact Nat.max_le.mpr ⟨hv, ecc_le V hkn⟩
        · exact hv
      unfold f_X12_longestOf_31 f_X12_longestOf_45
      by_cases z : m.testBit k = true
      · obtain ⟨nx1, cm1, dp1, e1⟩ := m_longFrom M V (rrp_s V hkn) hkn nx cm dp
        have e1 : f_X12_longFrom w nx cm dp (nI k) = some (nI (ecc t k), nx1, cm1, dp1) := e1
        have he := ecc_le V hkn
        have em : mout t m k v = max v (ecc t k) := by unfold mout; rw [if_pos z]
        rw [if_pos z, if_neg one_ne, e1, ob4_s]
        by_cases y : ecc t k ≤ v
        · rw [if_pos (nI_le y (by omega)), nI_1, bnd_s, em, show max v (ecc t k) = v by omega]
          exact ih (k + 1) q v nx1 cm1 dp1 (by omega) (by omega) hv
        · rw [if_neg (nI_ge (by omega) (by omega)), nI_1, bnd_s, em, show max v (ecc t k) = ecc t k by omega]
          exact ih (k + 1) q _ nx1 cm1 dp1 (by omega) (by omega) he
      · have em : mout t m k v = v := by unfold mout; rw [if_neg z]
        rw [if_neg z, if_pos rfl, if_pos (show (0 : Int32) ≤ nI v from ge0_t (show v < 2 ^ 31 by omega) ▸ trivial), nI_1, bnd_s, em]
        exact ih (k + 1) q v nx cm dp (by omega) (by omega) hv
  exact go (tN t) 0 FU 0 nx0 cm0 dp0 (by omega) (Nat.lt_of_le_of_lt hn (by decide)) (by omega)
end LF
