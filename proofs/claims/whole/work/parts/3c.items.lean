/-! ===== the text: items, both sides ===== -/
/-- an office as it is being read -/
def dO (d : Nat) (t : Tb) (g : Mg) : Ofc := (d, t, g, lZ, lZ, lZ, p0s)
def XD (dy cs : Int32) (cc : Nat → Int32) (ms : Int32) (mc : Nat → Int32) (ts ns ks ps : Int32) (d : Nat) (t : Tb) (g : Mg) : Prop := dy = nI d ∧ cs = nI (tN t) ∧ XT cc t ∧ ms = nI (gN g) ∧ XM mc g ∧ ts = 0 ∧ ns = 0 ∧ ks = 0 ∧ ps = 0
def VD (d : Nat) (t : Tb) (g : Mg) : Prop := d ≤ 999 ∧ VH t ∧ VM g
theorem VD.o {d : Nat} {t : Tb} {g : Mg} (V : VD d t g) : VO (dO d t g) :=
  ⟨V.1, V.2.1, V.2.2, ⟨Nat.zero_le _, fun i hi => absurd hi (Nat.not_lt_zero i)⟩, ⟨Nat.zero_le _, fun i hi => absurd hi (Nat.not_lt_zero i)⟩, ⟨Nat.zero_le _, fun i hi => absurd hi (Nat.not_lt_zero i)⟩, VP.zero _⟩
theorem XD.o {dy cs : Int32} {cc : Nat → Int32} {ms : Int32} {mc : Nat → Int32} {ts ns ks ps : Int32} {d : Nat} {t : Tb} {g : Mg} (X : XD dy cs cc ms mc ts ns ks ps d t g) (tc nc kc pc : Nat → Int32) : XO dy cs cc ms mc ts tc ns nc ks kc ps pc (dO d t g) := by
  obtain ⟨h1, h2, h3, h4, h5, h6, h7, h8, h9⟩ := X
  exact ⟨h1, h2, h3, h4, h5, h6, fun i hi => absurd hi (Nat.not_lt_zero i), h7, fun i hi => absurd hi (Nat.not_lt_zero i), h8, fun i hi => absurd hi (Nat.not_lt_zero i), h9, fun i hi => absurd hi (Nat.not_lt_zero i)⟩
def MD (w : Nat → Int32) (d : Nat) (t : Tb) (g : Mg) : Prop := w 905 = nI d ∧ MT w 903 t ∧ MM w 903 g ∧ w 950 = 0 ∧ w 971 = 0 ∧ w 996 = 0 ∧ w 1027 = 0
theorem MD.o {w : Nat → Int32} {d : Nat} {t : Tb} {g : Mg} (M : MD w d t g) : MO w 903 (dO d t g) := by
  obtain ⟨h1, h2, h3, h4, h5, h6, h7⟩ := M
  exact ⟨h1, h2, h3, ⟨h4, fun i hi => absurd hi (Nat.not_lt_zero i)⟩, ⟨h5, fun i hi => absurd hi (Nat.not_lt_zero i)⟩, ⟨h6, fun i hi => absurd hi (Nat.not_lt_zero i)⟩, ⟨h7, fun i hi => absurd hi (Nat.not_lt_zero i)⟩⟩
abbrev RdR : Type := Option (Int32 × Int32 × Int32 × Int32 × Int32 × Int32 × Int32 × Int32 × Int32 × (Nat → Int32) × Int32 × (Nat → Int32) × Int32 × Int32 × Int32 × Int32)
abbrev RdK : Type := Int32 → Int32 → Int32 → Int32 → Int32 → Int32 → Int32 → Int32 → (Nat → Int32) → Int32 → (Nat → Int32) → Int32 → Int32 → Int32 → Int32 → Int32 → Int32 → RdR
/-- what an item comes to: none: a fault at fs; else the place behind it, and the office -/
def CF (n : Nat) (f : Nat → Int32) (k : RdK) (E : RdR) (v3 : Int32) (oc : Option (Nat × Nat × Tb × Mg)) (fs : Nat) : Prop := match oc with
  | none => ∃ a2 a3 a4 a5 a6 dy cs cc ms mc ts ns ks ps, E = f_X9_readInto_282 (nI n) f k (nI fs) a2 a3 a4 a5 a6 dy cs cc ms mc ts ns ks ps 0 v3
  | some q => ∃ a1 a2 a3 a4 a5 dy cs cc ms mc ts ns ks ps, E = f_X9_readInto_282 (nI n) f k a1 a2 a3 a4 a5 (nI q.1) dy cs cc ms mc ts ns ks ps 1 v3 ∧ XD dy cs cc ms mc ts ns ks ps q.2.1 q.2.2.1 q.2.2.2
def MF (w0 : Nat → Int32) (R : Option (Int32 × Int32 × Int32 × Int32 × Int32 × (Nat → Int32) × (Nat → Int32))) (oc : Option (Nat × Nat × Tb × Mg)) (fs : Nat) : Prop := match oc with
  | none => ∃ at' nu went w ways, R = some (0, at', nI fs, nu, went, w, ways) ∧ ∀ x, x < 903 → w x = w0 x
  | some q => ∃ st nu went w ways, R = some (1, nI q.1, st, nu, went, w, ways) ∧ MD w q.2.1 q.2.2.1 q.2.2.2 ∧ ∀ x, x < 903 → w x = w0 x
section IT
variable {n : Nat} {b : Nat → Nat} {f : Nat → Int32} {dy cs : Int32} {cc : Nat → Int32} {ms : Int32} {mc : Nat → Int32} {ts ns ks ps : Int32} {d : Nat} {t : Tb} {g : Mg} {w : Nat → Int32}
theorem m_end (T : TX n b f) {p : Nat} (hp : p ≤ n) (st nu went : Int32) (w ways : Nat → Int32) : f_X12_readsItem_87 (nI n) f (nI p) st nu went w ways = if tok b n p = 3 then some (1, nI (plc b n p), nI (sk b n p), nu, went, w, ways) else some (0, nI (sk b n p + 1), nI (sk b n p), nu, went, w, ways) := by
  obtain ⟨e1, e2⟩ := m_takesEnd T hp st
  unfold f_X12_readsItem_87 f_X12_readsItem_92
  rw [if_neg one_ne, e1, ob3_s]
  by_cases z : tok b n p = 3
  · rw [decide_eq_true z, if_neg (show ¬ b2i true = 0 by decide), if_pos z, e2 z]
  · rw [decide_eq_false z, if_pos (show b2i false = 0 by decide), if_neg z]
theorem m_91 (n' : Int32) (f : Nat → Int32) (a st nu went : Int32) (w ways : Nat → Int32) : f_X12_readsItem_91 n' f a st nu went w ways = some (0, a, st, nu, went, w, ways) := by
  unfold f_X12_readsItem_91 f_X12_readsItem_92
  rw [if_pos rfl]
theorem nok_num {p : Nat} {lo hi : Int32} (h : nok b n p lo hi = true) : tok b n p = 2 ∧ lo.toInt ≤ (nmv b (sk b n p) (dE b n p) : Int) ∧ (nmv b (sk b n p) (dE b n p) : Int) ≤ hi.toInt := of_decide_eq_true h
/-- three numbers, the class -/
theorem x_three (T : TX n b f) {p : Nat} (hp : p ≤ n) (a1 a2 a3 a4 a5 : Int32) :
    ∃ v1 v2 v3 k1 k2 v4 v5, f_X9_readThree (nI n) a1 a2 a3 a4 a5 (nI p) f =
      (if nok b n p 0 5 = true then (if nok b n (plc b n p) 0 11 = true then some (b2i (nok b n (plc b n (plc b n p)) 1 9), nI (sk b n (plc b n (plc b n p))), v1, v2, nI (nmv b (sk b n p) (dE b n p)), nI (nmv b (sk b n (plc b n p)) (dE b n (plc b n p))), nI (plc b n (plc b n (plc b n p)))) else some (0, nI (sk b n (plc b n p)), v3, v4, k1, k2, nI (plc b n (plc b n p)))) else some (0, nI (sk b n p), v5, v1, a4, a5, nI (plc b n p))) ∧ (nok b n p 0 5 = true → nok b n (plc b n p) 0 11 = true → nok b n (plc b n (plc b n p)) 1 9 = true → v2 = nI (nmv b (sk b n (plc b n (plc b n p))) (dE b n (plc b n (plc b n p))))) := by
  obtain ⟨u1, e1, g1⟩ := x_readNumber T hp a1 a2 a3 0 5
  have l1 := (plc_le (b := b) hp).2.1
  obtain ⟨u2, e2, g2⟩ := x_readNumber T l1 (nI (sk b n p)) (nI (tok b n p)) u1 0 11
  have l2 := (plc_le (b := b) l1).2.1
  obtain ⟨u3, e3, g3⟩ := x_readNumber T l2 (nI (sk b n (plc b n p))) (nI (tok b n (plc b n p))) u2 1 9
  unfold f_X9_readThree
  rw [e1, ob5_s]
  by_cases z1 : nok b n p 0 5 = true
  · rw [if_neg (b2i_1 z1), e2, ob5_s]
    by_cases z2 : nok b n (plc b n p) 0 11 = true
    · rw [if_neg (b2i_1 z2), e3, ob5_s, chb_b]
      refine ⟨nI (tok b n (plc b n (plc b n p))), u3, 0, 0, 0, 0, 0, ?_, fun _ _ h => g3 h⟩
      rw [if_pos z1, if_pos z2, g1 z1, g2 z2]
    · rw [if_pos (b2i_0.mpr (not_t z2))]
      refine ⟨0, 0, nI (tok b n (plc b n p)), u1, a5, u2, 0, ?_, fun _ h => absurd h z2⟩
      rw [if_pos z1, if_neg z2]
  · rw [if_pos (b2i_0.mpr (not_t z1))]
    refine ⟨u1, 0, 0, 0, 0, 0, nI (tok b n p), ?_, fun h => absurd h z1⟩
    rw [if_neg z1]
theorem m_num (T : TX n b f) {p : Nat} (hp : p ≤ n) (a1 a2 lo hi : Int32) : ∃ a v, f_X12_takesNumber (nI n) (nI p) a1 a2 f lo hi = some (b2i (nok b n p lo hi), a, nI (sk b n p), v) ∧ (nok b n p lo hi = true → v = nI (nmv b (sk b n p) (dE b n p)) ∧ a = nI (plc b n p)) := by
  obtain ⟨v, e, h⟩ := m_takesNumber T hp a1 a2 lo hi
  exact ⟨_, v, e, fun q => ⟨(h q).1, by rw [(h q).2]⟩⟩
/-- the clerk's item behind its word -/
theorem it_clerk (T : TX n b f) {p s : Nat} (hp : p ≤ n) (hsn : s ≤ n) (X : XD dy cs cc ms mc ts ns ks ps d t g) (V : VD d t g) (M : MD w d t g) (k : RdK) (a2 a3 a4 a5 v3 nu went : Int32) (ways : Nat → Int32) :
    ∃ oc fs, CF n f k (ob1 (f_X7_isFull 7 cs) fun r_14 => if r_14 = 0 then (ob7 (f_X9_readThree (nI n) (nI s) a2 a3 a4 a5 (nI p) f) fun r_17 t_start_18 t_token_19 t_value_20 t_kind_21 t_desk_22 t_place_23 => if r_17 = 0 then (f_X9_readInto_134 (nI n) f k t_start_18 t_token_19 t_value_20 t_kind_21 t_desk_22 t_place_23 dy cs cc ms mc ts ns ks ps v3) else (ob5 (f_X9_stops (nI n) t_start_18 t_token_19 t_value_20 t_place_23 f) fun r_26 t_start_27 t_token_28 t_value_29 t_place_30 => if r_26 = 0 then (f_X9_readInto_134 (nI n) f k t_start_27 t_token_28 t_value_29 t_kind_21 t_desk_22 t_place_30 dy cs cc ms mc ts ns ks ps v3) else (f_X9_readInto_135 (nI n) f k t_start_27 t_token_28 t_value_29 t_kind_21 t_desk_22 t_place_30 dy cs cc ms mc ts ns ks ps v3 1))) else (f_X9_readInto_134 (nI n) f k (nI s) a2 a3 a4 a5 (nI p) dy cs cc ms mc ts ns ks ps v3)) v3 oc fs ∧
      MF w (ob5 (f_X12_readsClerk (nI n) (nI p) (nI s) nu w f) fun r_30 t_at_31 t_start_32 t_number_33 t_w_34 => if r_30 = 0 then (f_X12_readsItem_91 (nI n) f t_at_31 t_start_32 t_number_33 went t_w_34 ways) else (f_X12_readsItem_87 (nI n) f t_at_31 t_start_32 t_number_33 went t_w_34 ways)) oc fs ∧ (∀ q, oc = some q → VD q.2.1 q.2.2.1 q.2.2.2 ∧ p ≤ q.1 ∧ q.1 ≤ n) ∧ fs ≤ n := by
  obtain ⟨rfl, rfl, Xc, rfl, Xm, rfl, rfl, rfl, rfl⟩ := X
  obtain ⟨m1, m2, m3, m4, m5, m6, m7⟩ := M
  have hn7 := V.2.1.1.1
  have hg3 := V.2.2.1
  have ef : f_X7_isFull 7 (nI (tN t)) = some (if tN t < 7 then 0 else 1) := x_isFull (most := 7) (by omega) hn7
  have w903 : w 903 = nI (tN t) := m2.1
  have l1 := plc_le (b := b) hp
  have l2 := plc_le (b := b) l1.2.1
  have l3 := plc_le (b := b) l2.2.1
  have l4 := plc_le (b := b) l3.2.1
  rw [ef, ob1_s]
  unfold f_X12_readsClerk f_X9_readInto_134 f_X9_readInto_135
  rw [chk_c 903 903 rfl (by omega), cl_c 903 903 rfl (by omega), w903]
  by_cases z : tN t < 7
  · rw [if_pos z, if_pos rfl, if_neg (show ¬ nI (tN t) = 7 from fun q => by have := (nI_eq (b := 7) (by omega) (by omega)).mp q; omega)]
    obtain ⟨v1, v2, v3', k1, k2, v4, v5, e1, g1⟩ := x_three T hp (nI s) a2 a3 a4 a5
    obtain ⟨d1, c1, f1, h1⟩ := m_num T hp (nI s) nu 0 5
    rw [e1, f1, ob4_s]
    by_cases z1 : nok b n p 0 5 = true
    · obtain ⟨hv1, hp1⟩ := h1 z1
      obtain ⟨d2, c2, f2, h2⟩ := m_num T l1.2.1 (nI (sk b n p)) c1 0 11
      rw [if_pos z1, if_neg (b2i_1 z1), hp1, f2, ob4_s]
      by_cases z2 : nok b n (plc b n p) 0 11 = true
      · obtain ⟨hv2, hp2⟩ := h2 z2
        obtain ⟨d3, c3, f3, h3⟩ := m_num T l2.2.1 (nI (sk b n (plc b n p))) c2 1 9
        rw [if_pos z2, if_neg (b2i_1 z2), hp2, f3, ob4_s, ob7_s]
        by_cases z3 : nok b n (plc b n (plc b n p)) 1 9 = true
        · obtain ⟨hv3, hp3⟩ := h3 z3
          have q1 := nok_num z1
          have q2 := nok_num z2
          have q3 := nok_num z3
          have q1 : _ ∧ (0 : Int) ≤ _ ∧ _ ≤ (5 : Int) := q1
          have q2 : _ ∧ (0 : Int) ≤ _ ∧ _ ≤ (11 : Int) := q2
          have q3 : _ ∧ (1 : Int) ≤ _ ∧ _ ≤ (9 : Int) := q3
          obtain ⟨w', e5, M5, fr⟩ := m_adds (w := w) (b := 903) (by omega) m2 z (nmv b (sk b n p) (dE b n p)) (nmv b (sk b n (plc b n p)) (dE b n (plc b n p))) (nmv b (sk b n (plc b n (plc b n p))) (dE b n (plc b n (plc b n p))))
          have e5 : f_X12_adds w 903 (nI (nmv b (sk b n p) (dE b n p))) (nI (nmv b (sk b n (plc b n p)) (dE b n (plc b n p)))) (nI (nmv b (sk b n (plc b n (plc b n p))) (dE b n (plc b n (plc b n p))))) = some w' := e5
          obtain ⟨vs, e6, g6⟩ := x_stops T l3.2.1 (nI (sk b n (plc b n (plc b n p)))) v1 v2
          rw [if_neg (b2i_1 z3), if_neg (b2i_1 z3), hv1, hv2, hv3, e5, ob1_s, ob5_s, if_neg one_ne, hp3, m_end T l3.2.1, e6, ob5_s]
          by_cases z4 : tok b n (plc b n (plc b n (plc b n p))) = 3
          · have ev := g6 z4
            have ea := x_add (most := 7) (W := 5) (s := tN t) (N := 35) (f := cc) z (by omega) (by omega) (by omega) (by omega) (by omega) (nI (nmv b (sk b n p) (dE b n p))) (nI (nmv b (sk b n (plc b n p)) (dE b n (plc b n p)))) (nI (nmv b (sk b n (plc b n (plc b n p))) (dE b n (plc b n (plc b n p))))) 0 (-1)
            have ea : f_X7_add 7 5 (nI (tN t)) 35 cc (nI (nmv b (sk b n p) (dE b n p))) (nI (nmv b (sk b n (plc b n p)) (dE b n (plc b n p)))) (nI (nmv b (sk b n (plc b n (plc b n p))) (dE b n (plc b n (plc b n p))))) 0 (-1) = some (nI (tN t), nI (tN t + 1), add5 cc (tN t * 5) (nI (nmv b (sk b n p) (dE b n p))) (nI (nmv b (sk b n (plc b n p)) (dE b n (plc b n p)))) (nI (nmv b (sk b n (plc b n (plc b n p))) (dE b n (plc b n (plc b n p))))) 0 (-1)) := ea
            rw [decide_eq_true z4, if_neg (show ¬ b2i true = 0 by decide), if_neg one_ne, ev, g1 z1 z2 z3, if_pos z4]
            unfold f_X6_addClerk f_X7_empty
            rw [ob1_s, ea, ob3_s, ob4_s]
            refine ⟨some (plc b n (plc b n (plc b n (plc b n p))), d, addT t (nmv b (sk b n p) (dE b n p)) (nmv b (sk b n (plc b n p)) (dE b n (plc b n p))) (nmv b (sk b n (plc b n (plc b n p))) (dE b n (plc b n (plc b n p)))), g), 0, ⟨_, _, _, _, _, _, _, _, _, _, _, _, _, _, rfl, rfl, rfl, addT_XT Xc _ _ _, rfl, Xm, rfl, rfl, rfl, rfl⟩, ⟨_, _, _, w', _, rfl, ⟨by rw [fr 905 (by omega)]; exact m1, M5, MM.fr m3 hg3 (fun y hy => fr y (by omega)), by rw [fr 950 (by omega)]; exact m4, by rw [fr 971 (by omega)]; exact m5, by rw [fr 996 (by omega)]; exact m6, by rw [fr 1027 (by omega)]; exact m7⟩, fun x hx => fr x (by omega)⟩, fun q hq => ?_, Nat.zero_le _⟩
            injection hq with hq
            rw [← hq]
            exact ⟨⟨V.1, addT_VH V.2.1 z (by omega) (by omega) (by omega) (by omega), V.2.2⟩, by show p ≤ plc b n (plc b n (plc b n (plc b n p))); omega, l4.2.1⟩
          · rw [decide_eq_false z4, if_pos (show b2i false = 0 by decide), if_pos rfl, if_neg z4]
            exact ⟨none, _, ⟨_, _, _, _, _, _, _, _, _, _, _, _, _, _, rfl⟩, ⟨_, _, _, w', _, rfl, fun x hx => fr x (by omega)⟩, fun q hq => (by cases hq), (by first | exact hsn | exact (sk_le hp).2 | exact (sk_le l1.2.1).2 | exact (sk_le l2.2.1).2 | exact (sk_le l3.2.1).2)⟩
        · rw [if_pos (b2i_0.mpr (not_t z3)), if_pos (b2i_0.mpr (not_t z3)), if_pos rfl, ob5_s, if_pos rfl, m_91]
          exact ⟨none, _, ⟨_, _, _, _, _, _, _, _, _, _, _, _, _, _, rfl⟩, ⟨_, _, _, w, _, rfl, fun _ _ => rfl⟩, fun q hq => (by cases hq), (by first | exact hsn | exact (sk_le hp).2 | exact (sk_le l1.2.1).2 | exact (sk_le l2.2.1).2 | exact (sk_le l3.2.1).2)⟩
      · rw [if_neg z2, ob7_s, if_pos rfl, if_pos rfl, if_pos (b2i_0.mpr (not_t z2)), ob5_s, if_pos rfl, m_91]
        exact ⟨none, _, ⟨_, _, _, _, _, _, _, _, _, _, _, _, _, _, rfl⟩, ⟨_, _, _, w, _, rfl, fun _ _ => rfl⟩, fun q hq => (by cases hq), (by first | exact hsn | exact (sk_le hp).2 | exact (sk_le l1.2.1).2 | exact (sk_le l2.2.1).2 | exact (sk_le l3.2.1).2)⟩
    · rw [if_neg z1, ob7_s, if_pos rfl, if_pos rfl, if_pos (b2i_0.mpr (not_t z1)), ob5_s, if_pos rfl, m_91]
      exact ⟨none, _, ⟨_, _, _, _, _, _, _, _, _, _, _, _, _, _, rfl⟩, ⟨_, _, _, w, _, rfl, fun _ _ => rfl⟩, fun q hq => (by cases hq), (by first | exact hsn | exact (sk_le hp).2 | exact (sk_le l1.2.1).2 | exact (sk_le l2.2.1).2 | exact (sk_le l3.2.1).2)⟩
  · rw [if_neg z, if_neg one_ne, if_pos rfl, if_pos (show nI (tN t) = 7 by rw [show tN t = 7 by omega]; rfl), ob5_s, if_pos rfl, m_91]
    exact ⟨none, _, ⟨_, _, _, _, _, _, _, _, _, _, _, _, _, _, rfl⟩, ⟨_, _, _, w, _, rfl, fun _ _ => rfl⟩, fun q hq => (by cases hq), (by first | exact hsn | exact (sk_le hp).2 | exact (sk_le l1.2.1).2 | exact (sk_le l2.2.1).2 | exact (sk_le l3.2.1).2)⟩
end IT
