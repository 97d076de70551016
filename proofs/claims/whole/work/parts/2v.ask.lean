/-! ===== the call ask, both sides ===== -/
noncomputable def vas (pw c : Nat) (k : Nat) : Int32 := PG (nI k) (nI pw) (nI (c % 12)) (nI (c / 12))
noncomputable def Gas (m pw c : Nat) : Nat := grt m (vas pw c)
def cas (c : Nat) : Nat := 100 * (c / 12) + c % 12
section AK
variable {m pw : Nat}
theorem x_as_fill (k17 : (Nat → Int32) → Int32 → Int32 → Int32 → Int32 → Int32 → Option (Int32 × (Nat → Int32))) (k26 : (Nat → Int32) → Int32 → Int32 → Int32 → Int32 → Int32 → Int32 → Option (Int32 × (Nat → Int32))) (v1 v3 v4 : Int32) {D F : Nat} (hp : pw < 10) (hD : D ≤ 1) (hF : F ≤ 11) : ∀ (e j q : Nat) (tv : Nat → Int32), j + e = 6 → e < q → (∀ i, i < j → tv i = vas pw (12 * D + F) i) →
    ∃ tv', f_X3_nextAsk_36 k17 k26 q tv v1 (nI pw) v3 v4 (nI D) (nI F) (nI j) = f_X3_nextAsk_68 k17 k26 tv' v1 (nI pw) v3 v4 (nI D) (nI F) ∧ ∀ i, i < 6 → tv' i = vas pw (12 * D + F) i := by
  intro e
  induction e with
  | zero =>
    intro j q tv hj hq h
    obtain ⟨q, rfl⟩ : ∃ q', q = q' + 1 := ⟨q - 1, by omega⟩
    obtain rfl : j = 6 := by omega
    rw [f_X3_nextAsk_36, if_pos (show (6 : Int32) ≤ nI 6 by decide)]
    exact ⟨tv, rfl, h⟩
  | succ e ih =>
    intro j q tv hj hq h
    obtain ⟨q, rfl⟩ : ∃ q', q = q' + 1 := ⟨q - 1, by omega⟩
    rw [f_X3_nextAsk_36, if_neg (show ¬ (6 : Int32) ≤ nI j from nI_ge (b := 6) (by omega) (by omega)), x_PG (by omega) hp (by omega) (by omega), ob1_s, setc_in tv _ (by omega) (by omega), ob1_s, nI_1, bnd_s]
    refine ih (j + 1) q _ (by omega) (by omega) (fun i hi => ?_)
    by_cases z : i = j
    · rw [z, pk_us]
      unfold vas
      rw [show (12 * D + F) / 12 = D by omega, show (12 * D + F) % 12 = F by omega]
    · rw [pk_un z]; exact h i (by omega)
theorem x_as_in (hm : m < 64) (hp : pw < 10) (k17 : (Nat → Int32) → Int32 → Int32 → Int32 → Int32 → Int32 → Option (Int32 × (Nat → Int32))) {D : Nat} (hD : D ≤ 1) : ∀ (e F q : Nat) (tv : Nat → Int32) (p : Option Nat × Nat), F + e = 12 → e < q → p.2 ≤ 7 →
    ∃ tv', f_X3_nextAsk_26 k17 q tv (nI m) (nI pw) (onv p.1) (nI p.2) (nI D) (nI F) = f_X3_nextAsk_101 k17 tv' (nI m) (nI pw) (onv (itr (scn (Gas m pw) cas) e (12 * D + F) p).1) (nI (itr (scn (Gas m pw) cas) e (12 * D + F) p).2) (nI D) := by
  intro e
  induction e with
  | zero =>
    intro F q tv p hu hq h7
    obtain ⟨q, rfl⟩ : ∃ q', q = q' + 1 := ⟨q - 1, by omega⟩
    obtain rfl : F = 12 := by omega
    rw [f_X3_nextAsk_26, if_pos (show (11 : Int32) < nI 12 by decide)]
    exact ⟨tv, rfl⟩
  | succ e ih =>
    intro F q tv p hu hq h7
    obtain ⟨q, rfl⟩ : ∃ q', q = q' + 1 := ⟨q - 1, by omega⟩
    obtain ⟨tv1, e1, hv⟩ := x_as_fill k17 (f_X3_nextAsk_26 k17 q) (nI m) (onv p.1) (nI p.2) hp hD (F := F) (by omega) 6 0 FU tv (by omega) (by decide) (fun i hi => absurd hi (Nat.not_lt_zero i))
    have e1 : f_X3_nextAsk_36 k17 (f_X3_nextAsk_26 k17 q) FU tv (nI m) (nI pw) (onv p.1) (nI p.2) (nI D) (nI F) 0 = f_X3_nextAsk_68 k17 (f_X3_nextAsk_26 k17 q) tv1 (nI m) (nI pw) (onv p.1) (nI p.2) (nI D) (nI F) := e1
    rw [f_X3_nextAsk_26, if_neg (show ¬ (11 : Int32) < nI F from nI_nlt (a := 11) (by omega) (by omega)), e1]
    unfold f_X3_nextAsk_68 f_X3_nextAsk_95
    have hg : Gas m pw (12 * D + F) ≤ 6 := grt_le _ _
    have em : f_X3_mostAlike tv1 (nI m) = some (nI (Gas m pw (12 * D + F))) := x_most hv hm
    have ec : (100 : Int32) * nI D + nI F = nI (cas (12 * D + F)) := by
      have e : (100 : Int32) * nI D = nI (100 * D) := pk_mul 100 D
      unfold cas
      rw [e, nI_add, show (12 * D + F) / 12 = D by omega, show (12 * D + F) % 12 = F by omega]
    rw [em, ob1_s]
    show ∃ tv', _ = f_X3_nextAsk_101 k17 tv' (nI m) (nI pw) (onv (itr (scn (Gas m pw) cas) e (12 * D + (F + 1)) (scn (Gas m pw) cas (12 * D + F) p)).1) (nI (itr (scn (Gas m pw) cas) e (12 * D + (F + 1)) (scn (Gas m pw) cas (12 * D + F) p)).2) (nI D)
    by_cases z : p.2 ≤ Gas m pw (12 * D + F)
    · have es : scn (Gas m pw) cas (12 * D + F) p = p := if_pos z
      rw [if_pos (nI_le z (by omega)), nI_1, bnd_s, es]
      exact ih (F + 1) q tv1 p (by omega) (by omega) h7
    · have es : scn (Gas m pw) cas (12 * D + F) p = (some (cas (12 * D + F)), Gas m pw (12 * D + F)) := if_neg z
      rw [if_neg (nI_ge (by omega) (by omega)), ec, bnd_s, nI_1, bnd_s, es]
      exact ih (F + 1) q tv1 (some (cas (12 * D + F)), Gas m pw (12 * D + F)) (by omega) (by omega) (by show Gas m pw (12 * D + F) ≤ 7; omega)
theorem x_as_out (hm : m < 64) (hp : pw < 10) : ∀ (e D q : Nat) (tv : Nat → Int32) (p : Option Nat × Nat), D + e = 2 → e < q → p.2 ≤ 7 →
    ∃ tv', f_X3_nextAsk_17 q tv (nI m) (nI pw) (onv p.1) (nI p.2) (nI D) = some (onv (itr (scn (Gas m pw) cas) (12 * e) (12 * D) p).1, tv') := by
  intro e
  induction e with
  | zero =>
    intro D q tv p hT hq h7
    obtain ⟨q, rfl⟩ : ∃ q', q = q' + 1 := ⟨q - 1, by omega⟩
    obtain rfl : D = 2 := by omega
    rw [f_X3_nextAsk_17, if_pos (show (1 : Int32) < nI 2 by decide)]
    exact ⟨tv, rfl⟩
  | succ e ih =>
    intro D q tv p hT hq h7
    obtain ⟨q, rfl⟩ : ∃ q', q = q' + 1 := ⟨q - 1, by omega⟩
    obtain ⟨tv1, e1⟩ := x_as_in hm hp (f_X3_nextAsk_17 q) (show D ≤ 1 by omega) 12 0 FU tv p (by omega) (by decide) h7
    have e1 : f_X3_nextAsk_26 (f_X3_nextAsk_17 q) FU tv (nI m) (nI pw) (onv p.1) (nI p.2) (nI D) 0 = f_X3_nextAsk_101 (f_X3_nextAsk_17 q) tv1 (nI m) (nI pw) (onv (itr (scn (Gas m pw) cas) 12 (12 * D) p).1) (nI (itr (scn (Gas m pw) cas) 12 (12 * D) p).2) (nI D) := e1
    rw [f_X3_nextAsk_17, if_neg (show ¬ (1 : Int32) < nI D from nI_nlt (a := 1) (by omega) (by omega)), e1]
    unfold f_X3_nextAsk_101
    rw [nI_1, bnd_s, show 12 * (e + 1) = 12 + 12 * e by omega, itr_add, show 12 * D + 12 = 12 * (D + 1) by omega]
    exact ih (D + 1) q tv1 _ (by omega) (by omega) (scn_le 12 (12 * D) p h7)
theorem x_nextAsk (hm : m < 64) (hp : pw < 10) (tv : Nat → Int32) : ∃ tv', f_X3_nextAsk tv (nI m) (nI pw) = some (onv (itr (scn (Gas m pw) cas) 24 0 (none, if m = 0 then 0 else 7)).1, tv') := by
  unfold f_X3_nextAsk f_X3_nextAsk_12
  by_cases z : m = 0
  · rw [if_pos (show nI m = 0 by rw [z]; rfl), if_pos z]
    exact x_as_out hm hp 2 0 FU tv (none, 0) (by omega) (by decide) (by show 0 ≤ 7; omega)
  · rw [if_neg (show ¬ nI m = 0 from fun q => z ((nI_eq (b := 0) (by omega) (by omega)).mp q)), if_neg z]
    exact x_as_out hm hp 2 0 FU tv (none, 7) (by omega) (by decide) (by show 7 ≤ 7; omega)
variable {w st : Nat → Int32} {k : Nat}
theorem m_as_fill (k31 : (Nat → Int32) → (Nat → Int32) → Int32 → Int32 → Int32 → Int32 → Int32 → Option (Int32 × (Nat → Int32) × (Nat → Int32))) (k44 : (Nat → Int32) → (Nat → Int32) → Int32 → Int32 → Int32 → Int32 → Int32 → Int32 → Option (Int32 × (Nat → Int32) × (Nat → Int32))) (v2 v3 v4 : Int32) {D F : Nat} (hk : k < 3) (hw : w (44 + k) = nI pw) (hp : pw < 10) (hD : D ≤ 1) (hF : F ≤ 11) : ∀ (e j q : Nat) (tv : Nat → Int32), j + e = 6 → e < q → (∀ i, i < j → tv i = vas pw (12 * D + F) i) →
    ∃ tv', f_X12_ask_54 w k31 k44 q st tv (nI k) v2 v3 v4 (nI D) (nI F) (nI j) = f_X12_ask_92 w k31 k44 st tv' (nI k) v2 v3 v4 (nI D) (nI F) ∧ ∀ i, i < 6 → tv' i = vas pw (12 * D + F) i := by
  intro e
  induction e with
  | zero =>
    intro j q tv hj hq h
    obtain ⟨q, rfl⟩ : ∃ q', q = q' + 1 := ⟨q - 1, by omega⟩
    obtain rfl : j = 6 := by omega
    rw [f_X12_ask_54, if_pos (show (6 : Int32) ≤ nI 6 by decide)]
    exact ⟨tv, rfl, h⟩
  | succ e ih =>
    intro j q tv hj hq h
    obtain ⟨q, rfl⟩ : ∃ q', q = q' + 1 := ⟨q - 1, by omega⟩
    have ek : (44 : Int32) + nI k = nI (44 + k) := nI_add 44 k
    rw [f_X12_ask_54, if_neg (show ¬ (6 : Int32) ≤ nI j from nI_ge (b := 6) (by omega) (by omega)), ek, chk_n (by omega) (by omega), nI_clamp (by omega), hw, m_PG (by omega) hp (by omega) (by omega), ob1_s, chk_n (by omega) (by omega), nI_clamp (by omega), bnd_s, nI_1, bnd_s]
    refine ih (j + 1) q _ (by omega) (by omega) (fun i hi => ?_)
    by_cases z : i = j
    · rw [z, pk_us]
      unfold vas
      rw [show (12 * D + F) / 12 = D by omega, show (12 * D + F) % 12 = F by omega]
    · rw [pk_un z]; exact h i (by omega)
theorem m_as_in (hm : m < 64) (hk : k < 3) (hw : w (44 + k) = nI pw) (hp : pw < 10) (k31 : (Nat → Int32) → (Nat → Int32) → Int32 → Int32 → Int32 → Int32 → Int32 → Option (Int32 × (Nat → Int32) × (Nat → Int32))) {D : Nat} (hD : D ≤ 1) : ∀ (e F q : Nat) (tv : Nat → Int32) (p : Option Nat × Nat), F + e = 12 → e < q → p.2 < 2 ^ 31 →
    ∃ tv', f_X12_ask_44 w k31 q st tv (nI k) (nI m) (onv p.1) (nI p.2) (nI D) (nI F) = f_X12_ask_141 w k31 st tv' (nI k) (nI m) (onv (itr (scn (Gas m pw) cas) e (12 * D + F) p).1) (nI (itr (scn (Gas m pw) cas) e (12 * D + F) p).2) (nI D) := by
  intro e
  induction e with
  | zero =>
    intro F q tv p hu hq h7
    obtain ⟨q, rfl⟩ : ∃ q', q = q' + 1 := ⟨q - 1, by omega⟩
    obtain rfl : F = 12 := by omega
    rw [f_X12_ask_44, if_pos (show (12 : Int32) ≤ nI 12 by decide)]
    exact ⟨tv, rfl⟩
  | succ e ih =>
    intro F q tv p hu hq h7
    obtain ⟨q, rfl⟩ : ∃ q', q = q' + 1 := ⟨q - 1, by omega⟩
    obtain ⟨tv1, e1, hv⟩ := m_as_fill (st := st) k31 (f_X12_ask_44 w k31 q) (nI m) (onv p.1) (nI p.2) hk hw hp hD (F := F) (by omega) 6 0 FU tv (by omega) (by decide) (fun i hi => absurd hi (Nat.not_lt_zero i))
    have e1 : f_X12_ask_54 w k31 (f_X12_ask_44 w k31 q) FU st tv (nI k) (nI m) (onv p.1) (nI p.2) (nI D) (nI F) 0 = f_X12_ask_92 w k31 (f_X12_ask_44 w k31 q) st tv1 (nI k) (nI m) (onv p.1) (nI p.2) (nI D) (nI F) := e1
    rw [f_X12_ask_44, if_neg (show ¬ (12 : Int32) ≤ nI F from nI_ge (b := 12) (by omega) (by omega)), e1]
    unfold f_X12_ask_92 f_X12_ask_118 f_X12_ask_133
    have hg : Gas m pw (12 * D + F) ≤ 6 := grt_le _ _
    have em : f_X12_greatest tv1 (nI m) = some (nI (Gas m pw (12 * D + F))) := m_great hv hm
    have ec : (100 : Int32) * nI D + nI F = nI (cas (12 * D + F)) := by
      have e : (100 : Int32) * nI D = nI (100 * D) := pk_mul 100 D
      unfold cas
      rw [e, nI_add, show (12 * D + F) / 12 = D by omega, show (12 * D + F) % 12 = F by omega]
    rw [em, ob1_s, ec]
    show ∃ tv', _ = f_X12_ask_141 w k31 st tv' (nI k) (nI m) (onv (itr (scn (Gas m pw) cas) e (12 * D + (F + 1)) (scn (Gas m pw) cas (12 * D + F) p)).1) (nI (itr (scn (Gas m pw) cas) e (12 * D + (F + 1)) (scn (Gas m pw) cas (12 * D + F) p)).2) (nI D)
    by_cases z : p.2 ≤ Gas m pw (12 * D + F)
    · have es : scn (Gas m pw) cas (12 * D + F) p = p := if_pos z
      rw [if_pos (nI_le z (by omega)), if_pos (nI_le z (by omega)), nI_1, bnd_s, es]
      exact ih (F + 1) q tv1 p (by omega) (by omega) h7
    · have es : scn (Gas m pw) cas (12 * D + F) p = (some (cas (12 * D + F)), Gas m pw (12 * D + F)) := if_neg z
      rw [if_neg (nI_ge (by omega) (by omega)), if_neg (nI_ge (by omega) (by omega)), nI_1, bnd_s, es]
      exact ih (F + 1) q tv1 (some (cas (12 * D + F)), Gas m pw (12 * D + F)) (by omega) (by omega) (by show Gas m pw (12 * D + F) < 2 ^ 31; omega)
theorem m_as_go (hm : m < 64) (h0 : m ≠ 0) (hk : k < 3) (hw : w (44 + k) = nI pw) (hp : pw < 10) : ∀ (e D q : Nat) (tv : Nat → Int32) (p : Option Nat × Nat), D + e = 2 → e < q → p.2 ≤ 1000000 →
    ∃ tv', f_X12_ask_31 w q st tv (nI k) (nI m) (onv p.1) (nI p.2) (nI D) = some (onv (itr (scn (Gas m pw) cas) (12 * e) (12 * D) p).1, st, tv') := by
  intro e
  induction e with
  | zero =>
    intro D q tv p hT hq h7
    obtain ⟨q, rfl⟩ : ∃ q', q = q' + 1 := ⟨q - 1, by omega⟩
    obtain rfl : D = 2 := by omega
    rw [f_X12_ask_31, if_pos (show (2 : Int32) ≤ nI 2 by decide)]
    exact ⟨tv, rfl⟩
  | succ e ih =>
    intro D q tv p hT hq h7
    obtain ⟨q, rfl⟩ : ∃ q', q = q' + 1 := ⟨q - 1, by omega⟩
    obtain ⟨tv1, e1⟩ := m_as_in (st := st) hm hk hw hp (f_X12_ask_31 w q) (show D ≤ 1 by omega) 12 0 FU tv p (by omega) (by decide) (by omega)
    have e1 : f_X12_ask_44 w (f_X12_ask_31 w q) FU st tv (nI k) (nI m) (onv p.1) (nI p.2) (nI D) 0 = f_X12_ask_141 w (f_X12_ask_31 w q) st tv1 (nI k) (nI m) (onv (itr (scn (Gas m pw) cas) 12 (12 * D) p).1) (nI (itr (scn (Gas m pw) cas) 12 (12 * D) p).2) (nI D) := e1
    rw [f_X12_ask_31, if_neg (show ¬ (2 : Int32) ≤ nI D from nI_ge (b := 2) (by omega) (by omega)), if_neg (fun q => h0 ((nI_le0 (by omega)).mp q)), e1]
    unfold f_X12_ask_141
    rw [nI_1, bnd_s, show 12 * (e + 1) = 12 + 12 * e by omega, itr_add, show 12 * D + 12 = 12 * (D + 1) by omega]
    exact ih (D + 1) q tv1 _ (by omega) (by omega) (scn_le 12 (12 * D) p h7)
theorem m_nextAsk (hm : m < 64) (hk : k < 3) (hw : w (44 + k) = nI pw) (hp : pw < 10) (tv : Nat → Int32) : ∃ tv', f_X12_ask_31 w FU st tv (nI k) (nI m) (-1) 1000000 0 = some (onv (itr (scn (Gas m pw) cas) 24 0 (none, if m = 0 then 0 else 7)).1, st, tv') := by
  by_cases z : m = 0
  · rw [if_pos z, scn_0, show FU = 999999 + 1 from rfl, f_X12_ask_31, if_neg (show ¬ (2 : Int32) ≤ 0 by decide), if_pos (show nI m ≤ 0 by rw [z]; decide)]
    exact ⟨tv, rfl⟩
  · obtain ⟨tv', e⟩ := m_as_go (st := st) hm z hk hw hp 2 0 FU tv (none, 1000000) (by omega) (by decide) (Nat.le_refl _)
    have hg : Gas m pw 0 ≤ 6 := grt_le _ _
    rw [if_neg z, scn_first (a := 7) (b := 1000000) 23 0 (by omega) (by omega)]
    exact ⟨tv', e⟩
end AK
section AC
variable {g : Mg} {mc kc w : Nat → Int32} {a : Ls}
theorem c_ask_eq (W : VM g) (X : XM mc g) (M : MM w 0 g) (Xk : XL 5 kc a) (Vk : VC (gN g) a) (Mk : ML 5 93 94 w a) (st st2 tv sv : Nat → Int32) (x1 : Int32) :
    ∃ (r : Int32) (c : Option Nat), (∃ tv', f_X11_ask (nI (gN g)) mc (nI a.1) kc st tv x1 = some (r, stx c st, tv')) ∧ (∃ sv', f_X12_ask w st2 sv x1 = some (r, stx c st2, sv')) ∧ (∀ i, c = some i → i < 3) := by
  have hn := W.1
  unfold f_X11_ask f_X12_ask
  rw [x_isMagnet (by omega), m_isMagnet M W, ob1_s, ob1_s]
  by_cases h1 : wthn x1 (gN g) = true
  · rw [if_pos h1, if_neg one_ne, if_neg one_ne, x_gkinds Xk Vk, m_gkinds Mk Vk, ob1_s, ob1_s]
    have hm := kmC_lt a x1
    obtain ⟨k, rfl, hk⟩ := wthn_n h1
    have hp := (W.2 k hk).2.2.2
    have m3 := (M.2 k hk).2.2
    rw [Nat.zero_add] at m3
    obtain ⟨tv', e1⟩ := x_nextAsk hm hp tv
    obtain ⟨sv', e2⟩ := m_nextAsk (st := st2) hm (show k < 3 by omega) m3 hp sv
    rw [X.p hk hn, ob1_s, e1, ob2_s, e2]
    exact ⟨_, none, ⟨tv', rfl⟩, ⟨sv', rfl⟩, fun i hi => by cases hi⟩
  · rw [if_neg h1, if_pos rfl, if_pos rfl, x_bad, m_bad, ob2_s, ob2_s]
    refine ⟨-2, some 0, ⟨_, rfl⟩, ⟨_, rfl⟩, fun i hi => ?_⟩
    injection hi with hi; omega
end AC
