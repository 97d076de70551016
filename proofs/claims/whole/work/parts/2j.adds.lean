/-! ===== the calls office, clerk, magnet, both sides ===== -/
def tZ : Tb := (0, fun _ => 0, fun _ => 0, fun _ => 0, fun _ => 0, fun _ => none)
def gZ : Mg := (0, fun _ => 0, fun _ => 0, fun _ => 0)
def lZ : Ls := (0, fun _ _ => 0)
def oZ : Ofc := (0, tZ, gZ, lZ, lZ, lZ, p0s)
theorem VO.zero : VO oZ := by
  refine ⟨Nat.zero_le _, ⟨⟨Nat.zero_le _, fun i hi => absurd hi (Nat.not_lt_zero i), ⟨fun _ => 0, fun i hi => absurd hi (Nat.not_lt_zero i)⟩⟩, fun j hj => absurd hj (Nat.not_lt_zero j)⟩, ⟨Nat.zero_le _, fun i hi => absurd hi (Nat.not_lt_zero i)⟩, ⟨Nat.zero_le _, fun i hi => absurd hi (Nat.not_lt_zero i)⟩, ⟨Nat.zero_le _, fun i hi => absurd hi (Nat.not_lt_zero i)⟩, ⟨Nat.zero_le _, fun i hi => absurd hi (Nat.not_lt_zero i)⟩, VP.zero _⟩
theorem XO.zero (cc mc tc nc kc pc : Nat → Int32) : XO 0 0 cc 0 mc 0 tc 0 nc 0 kc 0 pc oZ :=
  ⟨rfl, rfl, fun i hi => absurd hi (Nat.not_lt_zero i), rfl, fun i hi => absurd hi (Nat.not_lt_zero i), rfl, fun i hi => absurd hi (Nat.not_lt_zero i), rfl, fun i hi => absurd hi (Nat.not_lt_zero i), rfl, fun i hi => absurd hi (Nat.not_lt_zero i), rfl, fun i hi => absurd hi (Nat.not_lt_zero i)⟩
theorem MO.zero {w : Nat → Int32} {r : Nat} (h : ∀ x, x < 301 → w (r + x) = 0) : MO w r oZ :=
  ⟨h 2 (by omega), ⟨h 0 (by omega), fun i hi => absurd hi (Nat.not_lt_zero i)⟩, ⟨h 1 (by omega), fun i hi => absurd hi (Nat.not_lt_zero i)⟩, ⟨h 47 (by omega), fun i hi => absurd hi (Nat.not_lt_zero i)⟩, ⟨h 68 (by omega), fun i hi => absurd hi (Nat.not_lt_zero i)⟩, ⟨h 93 (by omega), fun i hi => absurd hi (Nat.not_lt_zero i)⟩, ⟨h 124 (by omega), fun i hi => absurd hi (Nat.not_lt_zero i)⟩⟩
theorem m_empty_go {b : Nat} (hb : b + 301 ≤ 1251) (w0 : Nat → Int32) : ∀ (e j q : Nat) (w : Nat → Int32), j + e = 301 → e < q → (∀ x, w x = if b ≤ x ∧ x < b + j then 0 else w0 x) →
    ∃ w', f_X12_empties_2 q w (nI b) (nI j) = some w' ∧ ∀ x, w' x = if b ≤ x ∧ x < b + 301 then 0 else w0 x := by
  intro e
  induction e with
  | zero =>
    intro j q w hj hq h
    obtain ⟨q, rfl⟩ : ∃ q', q = q' + 1 := ⟨q - 1, by omega⟩
    obtain rfl : j = 301 := by omega
    rw [f_X12_empties_2, if_pos (show (301 : Int32) ≤ nI 301 by decide)]
    exact ⟨w, rfl, h⟩
  | succ e ih =>
    intro j q w hj hq h
    obtain ⟨q, rfl⟩ : ∃ q', q = q' + 1 := ⟨q - 1, by omega⟩
    rw [f_X12_empties_2, if_neg (show ¬ (301 : Int32) ≤ nI j from nI_ge (b := 301) (by omega) (by omega)), nI_add, chk_n (by omega) (by omega), bnd_s, nI_1, bnd_s, nI_clamp (by omega)]
    refine ih (j + 1) q _ (by omega) (by omega) (fun x => ?_)
    by_cases z : x = b + j
    · subst z
      rw [pk_us, if_pos (by omega)]
    · rw [pk_un z, h x]
      by_cases y : b ≤ x ∧ x < b + j
      · rw [if_pos y, if_pos (by omega)]
      · rw [if_neg y, if_neg (by omega)]
theorem m_empties {b : Nat} (hb : b + 301 ≤ 1251) (w : Nat → Int32) : ∃ w', f_X12_empties w (nI b) = some w' ∧ ∀ x, w' x = if b ≤ x ∧ x < b + 301 then 0 else w x :=
  m_empty_go hb w 301 0 FU w (by omega) (by decide) (fun x => by rw [if_neg (by omega)])
theorem x_offEmpty (a b c d e f g : Int32) : f_X6_empty a b c d e f g = some (0, 0, 0, 0, 0, 0, 0) := rfl
section OF
variable {dy cs : Int32} {cc : Nat → Int32} {ms : Int32} {mc : Nat → Int32} {ts : Int32} {tc : Nat → Int32} {ns : Int32} {nc : Nat → Int32} {ks : Int32} {kc : Nat → Int32} {ps : Int32} {pc w : Nat → Int32} {o : Ofc}
theorem c_office_eq (X : XO dy cs cc ms mc ts tc ns nc ks kc ps pc o) (M : MO w 0 o) :
    ∃ (r : Int32) (w' : Nat → Int32), f_X11_office dy cs ms ts ns ks ps = some (r, 0, 0, 0, 0, 0, 0, 0) ∧ f_X12_office w = some (r, w') ∧
      XO 0 0 cc 0 mc 0 tc 0 nc 0 kc 0 pc oZ ∧ MO w' 0 oZ ∧ ∀ x, 301 ≤ x → w' x = w x := by
  obtain ⟨-, hcs, -⟩ := X
  have m0 := M.2.1.1
  obtain ⟨w', e, h⟩ := m_empties (b := 0) (by omega) w
  have e : f_X12_empties w 0 = some w' := e
  refine ⟨nI (tN (oT o)), w', ?_, ?_, XO.zero _ _ _ _ _ _, MO.zero (fun x hx => by rw [h, if_pos (by omega)]), fun x hx => by rw [h, if_neg (by omega)]⟩
  · unfold f_X11_office
    rw [x_size, ob1_s, x_offEmpty, hcs]
    rfl
  · unfold f_X12_office
    rw [chk_0 (by decide) (by decide), cl_0, bnd_s, e, ob1_s, m0]
end OF
/-! one more clerk -/
def addT (t : Tb) (k d x : Nat) : Tb := (tN t + 1, fun i => if i = tN t then k else tK t i, fun i => if i = tN t then d else tD t i, fun i => if i = tN t then x else tW t i, fun i => if i = tN t then 0 else tU t i, fun i => if i = tN t then none else tO t i)
theorem addT_VH {t : Tb} (H : VH t) (h7 : tN t < 7) {k d x : Nat} (hk : k < 6) (hd : d < 12) (h1 : 1 ≤ x) (h9 : x ≤ 9) : VH (addT t k d x) := by
  obtain ⟨⟨v1, v2, rk, v3⟩, v4⟩ := H
  refine ⟨⟨by show tN t + 1 ≤ 7; omega, fun i hi => ?_, ⟨rk, fun i hi j hj => ?_⟩⟩, fun j hj => ?_⟩
  · have hi : i < tN t + 1 := hi
    show (if i = tN t then k else tK t i) < 6 ∧ (if i = tN t then d else tD t i) < 12 ∧ 1 ≤ (if i = tN t then x else tW t i) ∧ (if i = tN t then x else tW t i) ≤ 9 ∧ (if i = tN t then 0 else tU t i) ≤ 99
    by_cases z : i = tN t
    · simp only [if_pos z]; exact ⟨hk, hd, h1, h9, by omega⟩
    · simp only [if_neg z]; exact v2 i (by omega)
  · have hi : i < tN t + 1 := hi
    have hj : (if i = tN t then none else tO t i) = some j := hj
    by_cases z : i = tN t
    · rw [if_pos z] at hj; cases hj
    · rw [if_neg z] at hj
      have := v3 i (by omega) j hj
      exact ⟨show j < tN t + 1 by omega, this.2⟩
  · have hj : j < tN t + 1 := hj
    show cnt (fun k => decide ((if k = tN t then none else tO t k) = some j)) (tN t + 1) ≤ 2
    show cnt (fun k => decide ((if k = tN t then none else tO t k) = some j)) (tN t) + (if decide ((if tN t = tN t then none else tO t (tN t)) = some j) then 1 else 0) ≤ 2
    rw [if_pos rfl, if_neg (show ¬ decide ((none : Option Nat) = some j) = true by simp)]
    have := cnt_mono (p := fun k => decide ((if k = tN t then none else tO t k) = some j)) (q := fun k => decide (tO t k = some j)) (tN t) (fun k hk hp => by
      have hp := of_decide_eq_true hp
      rw [if_neg (by omega)] at hp
      exact decide_eq_true hp)
    by_cases z : j = tN t
    · have h0 : cnt (fun k => decide (tO t k = some j)) (tN t) ≤ cnt (fun _ => false) (tN t) := cnt_mono (tN t) (fun k hk hp => by
        have hp := of_decide_eq_true hp
        have := (v3 k hk j hp).1
        omega)
      have h1 : ∀ n, cnt (fun _ => false) n = 0 := fun n => by
        induction n with
        | zero => rfl
        | succ n ih => show cnt (fun _ => false) n + 0 = 0; rw [ih]
      rw [h1] at h0
      omega
    · have := v4 j (by omega)
      have : cnt (fun k => decide (tO t k = some j)) (tN t) ≤ 2 := this
      omega
theorem addT_XT {f : Nat → Int32} {t : Tb} (X : XT f t) (k d x : Nat) : XT (add5 f (tN t * 5) (nI k) (nI d) (nI x) 0 (-1)) (addT t k d x) := by
  intro i hi
  have hi : i < tN t + 1 := hi
  show _ = nI (if i = tN t then k else tK t i) ∧ _ = nI (if i = tN t then d else tD t i) ∧ _ = nI (if i = tN t then x else tW t i) ∧ _ = nI (if i = tN t then 0 else tU t i) ∧ _ = onv (if i = tN t then none else tO t i)
  by_cases z : i = tN t
  · simp only [if_pos z]
    rw [z]
    unfold add5
    refine ⟨?_, ?_, ?_, ?_, ?_⟩
    · rw [pk_un (by omega), pk_un (by omega), pk_un (by omega), pk_un (by omega), pk_us]
    · rw [pk_un (by omega), pk_un (by omega), pk_un (by omega), pk_us]
    · rw [pk_un (by omega), pk_un (by omega), pk_us]
    · rw [pk_un (by omega), pk_us]; rfl
    · rw [pk_us]; rfl
  · simp only [if_neg z]
    rw [add5_low (by omega), add5_low (by omega), add5_low (by omega), add5_low (by omega), add5_low (by omega)]
    exact X i (by omega)
theorem m_adds {w : Nat → Int32} {b : Nat} {t : Tb} (hb : b + 301 ≤ 1251) (M : MT w b t) (hn : tN t < 7) (k d x : Nat) :
    ∃ w', f_X12_adds w (nI b) (nI k) (nI d) (nI x) = some w' ∧ MT w' b (addT t k d x) ∧ ∀ y, (y < b ∨ b + 38 ≤ y ∨ y = b + 1 ∨ y = b + 2) → w' y = w y := by
  have h0 := M.1
  unfold f_X12_adds
  rw [mx0, chk_n (by omega) (by omega), nI_clamp (by omega), h0, bnd_s, mx3, chk_n (by omega) (by omega), bnd_s, nI_clamp (by omega), mx17, chk_n (by omega) (by omega), bnd_s, nI_clamp (by omega), mx10, chk_n (by omega) (by omega), bnd_s, nI_clamp (by omega), mx24, chk_n (by omega) (by omega), bnd_s, nI_clamp (by omega), mx31, chk_n (by omega) (by omega), bnd_s, nI_clamp (by omega), bnd_s, chk_n (by omega) (by omega), chk_n (by omega) (by omega)]
  refine ⟨_, rfl, ⟨?_, fun i hi => ?_⟩, fun y hy => ?_⟩
  · rw [pk_us, pk_un (by omega), pk_un (by omega), pk_un (by omega), pk_un (by omega), pk_un (by omega), h0, nI_1]; rfl
  · have hi : i < tN t + 1 := hi
    show _ = nI (if i = tN t then k else tK t i) ∧ _ = nI (if i = tN t then d else tD t i) ∧ _ = nI (if i = tN t then x else tW t i) ∧ _ = nI (if i = tN t then 0 else tU t i) ∧ _ = onv (if i = tN t then none else tO t i)
    by_cases z : i = tN t
    · simp only [if_pos z]
      rw [z]
      refine ⟨?_, ?_, ?_, ?_, ?_⟩
      · rw [pk_un (by omega), pk_un (by omega), pk_un (by omega), pk_un (by omega), pk_un (by omega), pk_us]
      · rw [pk_un (by omega), pk_un (by omega), pk_un (by omega), pk_un (by omega), pk_us]
      · rw [pk_un (by omega), pk_un (by omega), pk_un (by omega), pk_us]
      · rw [pk_un (by omega), pk_un (by omega), pk_us]; rfl
      · rw [pk_un (by omega), pk_us]; rfl
    · simp only [if_neg z]
      have := M.2 i (by omega)
      refine ⟨?_, ?_, ?_, ?_, ?_⟩
      · rw [pk_un (by omega), pk_un (by omega), pk_un (by omega), pk_un (by omega), pk_un (by omega), pk_un (by omega)]; exact this.1
      · rw [pk_un (by omega), pk_un (by omega), pk_un (by omega), pk_un (by omega), pk_un (by omega), pk_un (by omega)]; exact this.2.1
      · rw [pk_un (by omega), pk_un (by omega), pk_un (by omega), pk_un (by omega), pk_un (by omega), pk_un (by omega)]; exact this.2.2.1
      · rw [pk_un (by omega), pk_un (by omega), pk_un (by omega), pk_un (by omega), pk_un (by omega), pk_un (by omega)]; exact this.2.2.2.1
      · rw [pk_un (by omega), pk_un (by omega), pk_un (by omega), pk_un (by omega), pk_un (by omega), pk_un (by omega)]; exact this.2.2.2.2
  · rw [pk_un (by omega), pk_un (by omega), pk_un (by omega), pk_un (by omega), pk_un (by omega), pk_un (by omega)]
theorem VA.mono {n m : Nat} {a : Ls} (h : n ≤ m) (V : VA n a) : VA m a := ⟨V.1, fun i hi => by
  obtain ⟨x, y, z, u, a1, a2, a3, a4, b1, b2, b3, b4, b5⟩ := V.2 i hi
  exact ⟨x, y, z, u, a1, a2, a3, a4, by omega, b2, b3, by omega, b5⟩⟩
theorem VB.mono {n m : Nat} {a : Ls} (h : n ≤ m) (V : VB n a) : VB m a := ⟨V.1, fun i hi => by
  obtain ⟨x, y, z, u, a1, a2, a3, a4, b1, b2, b3, b4, b5⟩ := V.2 i hi
  exact ⟨x, y, z, u, a1, a2, a3, a4, by omega, b2, b3, b4, b5⟩⟩
theorem VC.mono {n m : Nat} {a : Ls} (h : n ≤ m) (V : VC n a) : VC m a := ⟨V.1, fun i hi => by
  obtain ⟨x, y, z, u, a1, a2, a3, a4, b1, b2, b3, b4, b5⟩ := V.2 i hi
  exact ⟨x, y, z, u, a1, a2, a3, a4, by omega, b2, b3, b4, b5⟩⟩
theorem x_isKind (v : Int32) : f_X11_isKind v = some (if (0 : Int64).toInt ≤ v.toInt ∧ v.toInt ≤ (5 : Int64).toInt then 1 else 0) := by
  unfold f_X11_isKind; rw [x_within, ob1_s, chb_01]; rfl
theorem x_isDesk (v : Int32) : f_X11_isDesk v = some (if (0 : Int64).toInt ≤ v.toInt ∧ v.toInt ≤ (11 : Int64).toInt then 1 else 0) := by
  unfold f_X11_isDesk; rw [x_within, ob1_s, chb_01]; rfl
theorem one_ne : ¬ (1 : Int32) = 0 := by decide
section CK
variable {dy cs : Int32} {cc : Nat → Int32} {ms : Int32} {mc : Nat → Int32} {ts : Int32} {tc : Nat → Int32} {ns : Int32} {nc : Nat → Int32} {ks : Int32} {kc : Nat → Int32} {ps : Int32} {pc w : Nat → Int32} {o : Ofc}
theorem c_clerk_eq (X : XO dy cs cc ms mc ts tc ns nc ks kc ps pc o) (V : VO o) (M : MO w 0 o) (st st2 : Nat → Int32) (x1 x2 x3 : Int32) :
    ∃ (r : Int32) (c : Option Nat) (o' : Ofc) (cs' : Int32) (cc' : Nat → Int32) (ps' : Int32) (w' : Nat → Int32), f_X11_clerk cs cc ps st x1 x2 x3 = some (r, cs', cc', ps', stx c st) ∧ f_X12_clerk w st2 x1 x2 x3 = some (r, w', stx c st2) ∧ (∀ i, c = some i → i < 3) ∧
      XO dy cs' cc' ms mc ts tc ns nc ks kc ps' pc o' ∧ VO o' ∧ MO w' 0 o' ∧ ∀ x, 301 ≤ x → w' x = w x := by
  have hbad : ∃ (r : Int32) (c : Option Nat) (o' : Ofc) (cs' : Int32) (cc' : Nat → Int32) (ps' : Int32) (w' : Nat → Int32), f_X11_clerk_24 cs cc ps st = some (r, cs', cc', ps', stx c st) ∧ f_X12_clerk_36 w st2 = some (r, w', stx c st2) ∧ (∀ i, c = some i → i < 3) ∧
      XO dy cs' cc' ms mc ts tc ns nc ks kc ps' pc o' ∧ VO o' ∧ MO w' 0 o' ∧ ∀ x, 301 ≤ x → w' x = w x := by
    refine ⟨-2, some 0, o, cs, cc, ps, w, ?_, ?_, fun i hi => ?_, X, V, M, fun _ _ => rfl⟩
    · unfold f_X11_clerk_24; rw [x_bad, ob2_s]
    · unfold f_X12_clerk_36; rw [m_bad, ob2_s]; rfl
    · injection hi with hi; omega
  have X0 := X
  have V0 := V
  have M0 := M
  obtain ⟨rfl, rfl, Xc, rfl, Xm, rfl, Xa, rfl, Xb, rfl, Xk, rfl, Xp⟩ := X
  obtain ⟨v1, v2, v3, v4, v5, v6, v7⟩ := V
  obtain ⟨m1, m2, m3, m4, m5, m6, m7⟩ := M
  have hn := v2.1.1
  unfold f_X11_clerk f_X12_clerk
  rw [x_isKind, m_in, ob1_s, ob1_s]
  by_cases h1 : (0 : Int64).toInt ≤ x1.toInt ∧ x1.toInt ≤ (5 : Int64).toInt
  · rw [if_pos h1, if_neg one_ne, if_neg one_ne, x_isDesk, m_in, ob1_s, ob1_s]
    by_cases h2 : (0 : Int64).toInt ≤ x2.toInt ∧ x2.toInt ≤ (11 : Int64).toInt
    · rw [if_pos h2, if_neg one_ne, if_neg one_ne, x_within, m_in, ob1_s, ob1_s]
      have e1 : (1 : Int32).toInt = (1 : Int64).toInt := rfl
      have e9 : (9 : Int32).toInt = (9 : Int64).toInt := rfl
      rw [e1, e9]
      by_cases h3 : (1 : Int64).toInt ≤ x3.toInt ∧ x3.toInt ≤ (9 : Int64).toInt
      · rw [if_pos h3, if_neg one_ne, if_neg one_ne]
        have h1 : 0 ≤ x1.toInt ∧ x1.toInt ≤ 5 := h1
        have h2 : 0 ≤ x2.toInt ∧ x2.toInt ≤ 11 := h2
        have h3 : 1 ≤ x3.toInt ∧ x3.toInt ≤ 9 := h3
        obtain ⟨k, rfl, hk, -⟩ := nat_of h1.1
        obtain ⟨d, rfl, hd, -⟩ := nat_of h2.1
        obtain ⟨x, rfl, hx, -⟩ := nat_of (show 0 ≤ x3.toInt by omega)
        have ef : f_X7_isFull 7 (nI (tN (oT o))) = some (if tN (oT o) < 7 then 0 else 1) := x_isFull (most := 7) (by omega) hn
        rw [ef, ob1_s, chk_0 (by decide) (by decide), cl_0, m2.1]
        by_cases z : tN (oT o) < 7
        · rw [if_pos z, if_pos rfl, if_neg (show ¬ nI (tN (oT o)) = 7 from fun q => by have := (nI_eq (b := 7) (by omega) (by omega)).mp q; omega)]
          have ea := x_add (most := 7) (W := 5) (s := tN (oT o)) (N := 35) (f := cc) z (by omega) (by omega) (by omega) (by omega) (by omega) (nI k) (nI d) (nI x) 0 (-1)
          have ea : f_X7_add 7 5 (nI (tN (oT o))) 35 cc (nI k) (nI d) (nI x) 0 (-1) = some (nI (tN (oT o)), nI (tN (oT o) + 1), add5 cc (tN (oT o) * 5) (nI k) (nI d) (nI x) 0 (-1)) := ea
          obtain ⟨w1, em, M1, fr1⟩ := m_adds (b := 0) (by omega) m2 z k d x
          have em : f_X12_adds w 0 (nI k) (nI d) (nI x) = some w1 := em
          have fr : ∀ y, (38 ≤ y ∨ y = 1 ∨ y = 2) → y ≠ 124 → upd w1 124 0 y = w y := fun y h1 h2 => by rw [pk_un h2, fr1 y (by omega)]
          have M1' : MT (upd w1 124 0) 0 (addT (oT o) k d x) := MT.fr M1 (by show tN (oT o) + 1 ≤ 7; omega) (fun y _ _ _ _ => pk_un (by omega))
          refine ⟨nI (tN (oT o)), none, (oD o, addT (oT o) k d x, oG o, oA o, oB o, oC o, p0s), _, _, 0, upd w1 124 0, ?_, ?_, fun i hi => (by cases hi), ⟨rfl, rfl, addT_XT Xc k d x, rfl, Xm, rfl, Xa, rfl, Xb, rfl, Xk, rfl, fun q hq => absurd hq (Nat.not_lt_zero q)⟩, ⟨v1, addT_VH v2 z (by omega) (by omega) (by omega) (by omega), v3, VA.mono (show tN (oT o) ≤ tN (oT o) + 1 by omega) v4, VB.mono (show tN (oT o) ≤ tN (oT o) + 1 by omega) v5, v6, VP.zero _⟩, ⟨?_, M1', ?_, ?_, ?_, ?_, ?_⟩, fun y hy => fr y (by omega) (by omega)⟩
          · unfold f_X6_addClerk f_X7_empty
            rw [ob1_s, ea, ob3_s, ob4_s]
            rfl
          · rw [em, ob1_s, show (124 : Int32) = nI 124 from rfl, chk_n (by omega) (by omega), nI_clamp (by omega), bnd_s, chk_0 (by decide) (by decide), M1'.1]
            show some (nI (tN (oT o) + 1) - 1, _) = _
            rw [← nI_1, Int32.add_sub_cancel]
            rfl
          · rw [fr 2 (by omega) (by omega)]; exact m1
          · exact MM.fr m3 v3.1 (fun y hy => fr y (by omega) (by omega))
          · exact ML.fr (a := oA o) (m := 20) m4 (by have := v4.1; omega) (fun y hy => fr y (by omega) (by omega))
          · exact ML.fr (a := oB o) (m := 24) m5 (by have := v5.1; omega) (fun y hy => fr y (by omega) (by omega))
          · exact ML.fr (a := oC o) (m := 30) m6 (by have := v6.1; omega) (fun y hy => fr y (by omega) (by omega))
          · exact ⟨pk_us, fun q hq => absurd hq (Nat.not_lt_zero q)⟩
        · rw [if_neg z, if_neg one_ne, if_pos (show nI (tN (oT o)) = 7 by rw [show tN (oT o) = 7 by omega]; rfl), x_full, m_full, ob2_s, ob2_s]
          refine ⟨-4, some 2, o, _, cc, _, w, rfl, rfl, fun i hi => ?_, X0, V0, M0, fun _ _ => rfl⟩
          injection hi with hi; omega
      · rw [if_neg h3, if_pos rfl, if_pos rfl]; exact hbad
    · rw [if_neg h2, if_pos rfl, if_pos rfl]; exact hbad
  · rw [if_neg h1, if_pos rfl, if_pos rfl]; exact hbad
end CK
/-! one more magnet -/
theorem put_out {W s N : Nat} {f : Nat → Int32} {i c : Nat} {v : Int32} (hi : i < s) (hs : s < 1000) (hc : W ≤ c) (hcb : c < 1000) : f_X7_put (nI W) (nI s) N f (nI i) (nI c) v = some f := by
  unfold f_X7_put f_X7_put_28 f_X7_put_29 f_X7_put_48
  rw [if_neg (nI_pos (by omega)), if_neg (nI_ge (by omega) (by omega)), if_neg (nI_pos (by omega)), if_pos (nI_le hc (by omega)), if_pos rfl, if_pos (show (-1 : Int32) < 0 by decide)]
def add3 (f : Nat → Int32) (i : Nat) (a b c : Int32) : Nat → Int32 := upd (upd (upd f (i + 0) a) (i + 1) b) (i + 2) c
def add4 (f : Nat → Int32) (i : Nat) (a b c d : Int32) : Nat → Int32 := upd (upd (upd (upd f (i + 0) a) (i + 1) b) (i + 2) c) (i + 3) d
theorem x_add3 {s : Nat} {f : Nat → Int32} (hs : s < 3) (a b c d e : Int32) : f_X7_add 3 3 (nI s) 9 f a b c d e = some (nI s, nI (s + 1), add3 f (s * 3) a b c) := by
  have p : ∀ (f : Nat → Int32) (c : Nat) (v : Int32), c < 3 → f_X7_put 3 (nI (s + 1)) 9 f (nI s) (nI c) v = some (upd f (s * 3 + c) v) := fun f c v hc => put_in (W := 3) (by omega) (by omega) (by omega) (by omega) (by omega) (by omega)
  have q : ∀ (f : Nat → Int32) (c : Nat) (v : Int32), 3 ≤ c → c < 9 → f_X7_put 3 (nI (s + 1)) 9 f (nI s) (nI c) v = some f := fun f c v hc h => put_out (W := 3) (by omega) (by omega) (by omega) (by omega)
  have e0 : f_X7_isFull 3 (nI s) = some (if s < 3 then 0 else 1) := x_isFull (most := 3) (by omega) (by omega)
  unfold f_X7_add
  rw [e0, if_pos hs, ob1_s, if_pos rfl, nI_1, bnd_s]
  have p0 : ∀ f, f_X7_put 3 (nI (s + 1)) 9 f (nI s) 0 a = some (upd f (s * 3 + 0) a) := fun f => p f 0 a (by omega)
  have p1 : ∀ f, f_X7_put 3 (nI (s + 1)) 9 f (nI s) 1 b = some (upd f (s * 3 + 1) b) := fun f => p f 1 b (by omega)
  have p2 : ∀ f, f_X7_put 3 (nI (s + 1)) 9 f (nI s) 2 c = some (upd f (s * 3 + 2) c) := fun f => p f 2 c (by omega)
  have p3 : ∀ f, f_X7_put 3 (nI (s + 1)) 9 f (nI s) 3 d = some f := fun f => q f 3 d (by omega) (by omega)
  have p4 : ∀ f, f_X7_put 3 (nI (s + 1)) 9 f (nI s) 4 e = some f := fun f => q f 4 e (by omega) (by omega)
  rw [p0, ob1_s, p1, ob1_s, p2, ob1_s, p3, ob1_s, p4, ob1_s]
  rfl
theorem x_add4 {m s : Nat} {f : Nat → Int32} (hm : m < 100) (hs : s < m) (a b c d e : Int32) : f_X7_add (nI m) 4 (nI s) (m * 4) f a b c d e = some (nI s, nI (s + 1), add4 f (s * 4) a b c d) := by
  have p : ∀ (f : Nat → Int32) (c : Nat) (v : Int32), c < 4 → f_X7_put 4 (nI (s + 1)) (m * 4) f (nI s) (nI c) v = some (upd f (s * 4 + c) v) := fun f c v hc => put_in (W := 4) (by omega) (by omega) (by omega) (by omega) (by omega) (by omega)
  have q : ∀ (f : Nat → Int32) (c : Nat) (v : Int32), 4 ≤ c → c < 9 → f_X7_put 4 (nI (s + 1)) (m * 4) f (nI s) (nI c) v = some f := fun f c v hc h => put_out (W := 4) (by omega) (by omega) (by omega) (by omega)
  unfold f_X7_add
  rw [x_isFull (by omega) (by omega), if_pos hs, ob1_s, if_pos rfl, nI_1, bnd_s]
  have p0 : ∀ f, f_X7_put 4 (nI (s + 1)) (m * 4) f (nI s) 0 a = some (upd f (s * 4 + 0) a) := fun f => p f 0 a (by omega)
  have p1 : ∀ f, f_X7_put 4 (nI (s + 1)) (m * 4) f (nI s) 1 b = some (upd f (s * 4 + 1) b) := fun f => p f 1 b (by omega)
  have p2 : ∀ f, f_X7_put 4 (nI (s + 1)) (m * 4) f (nI s) 2 c = some (upd f (s * 4 + 2) c) := fun f => p f 2 c (by omega)
  have p3 : ∀ f, f_X7_put 4 (nI (s + 1)) (m * 4) f (nI s) 3 d = some (upd f (s * 4 + 3) d) := fun f => p f 3 d (by omega)
  have p4 : ∀ f, f_X7_put 4 (nI (s + 1)) (m * 4) f (nI s) 4 e = some f := fun f => q f 4 e (by omega) (by omega)
  rw [p0, ob1_s, p1, ob1_s, p2, ob1_s, p3, ob1_s, p4, ob1_s]
  rfl
def addG (g : Mg) (k d x : Nat) : Mg := (gN g + 1, fun i => if i = gN g then k else gK g i, fun i => if i = gN g then d else gD g i, fun i => if i = gN g then x else gP g i)
theorem addG_V {g : Mg} (V : VM g) (h : gN g < 3) {k d x : Nat} (hk : k < 6) (hd : d < 12) (h1 : 1 ≤ x) (h9 : x < 10) : VM (addG g k d x) := by
  refine ⟨by show gN g + 1 ≤ 3; omega, fun i hi => ?_⟩
  have hi : i < gN g + 1 := hi
  show (if i = gN g then k else gK g i) < 6 ∧ (if i = gN g then d else gD g i) < 12 ∧ 1 ≤ (if i = gN g then x else gP g i) ∧ (if i = gN g then x else gP g i) < 10
  by_cases z : i = gN g
  · simp only [if_pos z]; exact ⟨hk, hd, h1, h9⟩
  · simp only [if_neg z]; exact V.2 i (by omega)
theorem addG_X {f : Nat → Int32} {g : Mg} (X : XM f g) (k d x : Nat) : XM (add3 f (gN g * 3) (nI k) (nI d) (nI x)) (addG g k d x) := by
  intro i hi
  have hi : i < gN g + 1 := hi
  show _ = nI (if i = gN g then k else gK g i) ∧ _ = nI (if i = gN g then d else gD g i) ∧ _ = nI (if i = gN g then x else gP g i)
  unfold add3
  by_cases z : i = gN g
  · simp only [if_pos z]
    rw [z]
    refine ⟨?_, ?_, ?_⟩
    · rw [pk_un (by omega), pk_un (by omega), pk_us]
    · rw [pk_un (by omega), pk_us]
    · rw [pk_us]
  · simp only [if_neg z]
    have := X i (by omega)
    refine ⟨?_, ?_, ?_⟩
    · rw [pk_un (by omega), pk_un (by omega), pk_un (by omega)]; exact this.1
    · rw [pk_un (by omega), pk_un (by omega), pk_un (by omega)]; exact this.2.1
    · rw [pk_un (by omega), pk_un (by omega), pk_un (by omega)]; exact this.2.2
theorem m_addsG {w : Nat → Int32} {b : Nat} {g : Mg} (hb : b + 301 ≤ 1251) (M : MM w b g) (hn : gN g < 3) (k d x : Nat) :
    ∃ w', f_X12_addsMagnet w (nI b) (nI k) (nI d) (nI x) = some w' ∧ MM w' b (addG g k d x) ∧ ∀ y, (y < b + 1 ∨ b + 47 ≤ y ∨ (b + 2 ≤ y ∧ y < b + 38)) → w' y = w y := by
  have h0 := M.1
  unfold f_X12_addsMagnet
  rw [mx1, chk_n (by omega) (by omega), nI_clamp (by omega), h0, bnd_s, mx38, chk_n (by omega) (by omega), bnd_s, nI_clamp (by omega), mx41, chk_n (by omega) (by omega), bnd_s, nI_clamp (by omega), mx44, chk_n (by omega) (by omega), bnd_s, nI_clamp (by omega), bnd_s, chk_n (by omega) (by omega), chk_n (by omega) (by omega)]
  refine ⟨_, rfl, ⟨?_, fun i hi => ?_⟩, fun y hy => ?_⟩
  · rw [pk_us, pk_un (by omega), pk_un (by omega), pk_un (by omega), h0, nI_1]; rfl
  · have hi : i < gN g + 1 := hi
    show _ = nI (if i = gN g then k else gK g i) ∧ _ = nI (if i = gN g then d else gD g i) ∧ _ = nI (if i = gN g then x else gP g i)
    by_cases z : i = gN g
    · simp only [if_pos z]
      rw [z]
      refine ⟨?_, ?_, ?_⟩
      · rw [pk_un (by omega), pk_un (by omega), pk_un (by omega), pk_us]
      · rw [pk_un (by omega), pk_un (by omega), pk_us]
      · rw [pk_un (by omega), pk_us]
    · simp only [if_neg z]
      have := M.2 i (by omega)
      refine ⟨?_, ?_, ?_⟩
      · rw [pk_un (by omega), pk_un (by omega), pk_un (by omega), pk_un (by omega)]; exact this.1
      · rw [pk_un (by omega), pk_un (by omega), pk_un (by omega), pk_un (by omega)]; exact this.2.1
      · rw [pk_un (by omega), pk_un (by omega), pk_un (by omega), pk_un (by omega)]; exact this.2.2
  · rw [pk_un (by omega), pk_un (by omega), pk_un (by omega), pk_un (by omega)]
section MG
variable {dy cs : Int32} {cc : Nat → Int32} {ms : Int32} {mc : Nat → Int32} {ts : Int32} {tc : Nat → Int32} {ns : Int32} {nc : Nat → Int32} {ks : Int32} {kc : Nat → Int32} {ps : Int32} {pc w : Nat → Int32} {o : Ofc}
theorem c_magnet_eq (X : XO dy cs cc ms mc ts tc ns nc ks kc ps pc o) (V : VO o) (M : MO w 0 o) (st st2 : Nat → Int32) (x1 x2 x3 : Int32) :
    ∃ (r : Int32) (c : Option Nat) (o' : Ofc) (ms' : Int32) (mc' : Nat → Int32) (ps' : Int32) (w' : Nat → Int32), f_X11_magnet ms mc ps st x1 x2 x3 = some (r, ms', mc', ps', stx c st) ∧ f_X12_magnet w st2 x1 x2 x3 = some (r, w', stx c st2) ∧ (∀ i, c = some i → i < 3) ∧
      XO dy cs cc ms' mc' ts tc ns nc ks kc ps' pc o' ∧ VO o' ∧ MO w' 0 o' ∧ ∀ x, 301 ≤ x → w' x = w x := by
  have hbad : ∃ (r : Int32) (c : Option Nat) (o' : Ofc) (ms' : Int32) (mc' : Nat → Int32) (ps' : Int32) (w' : Nat → Int32), f_X11_magnet_24 ms mc ps st = some (r, ms', mc', ps', stx c st) ∧ f_X12_magnet_36 w st2 = some (r, w', stx c st2) ∧ (∀ i, c = some i → i < 3) ∧
      XO dy cs cc ms' mc' ts tc ns nc ks kc ps' pc o' ∧ VO o' ∧ MO w' 0 o' ∧ ∀ x, 301 ≤ x → w' x = w x := by
    refine ⟨-2, some 0, o, ms, mc, ps, w, ?_, ?_, fun i hi => ?_, X, V, M, fun _ _ => rfl⟩
    · unfold f_X11_magnet_24; rw [x_bad, ob2_s]
    · unfold f_X12_magnet_36; rw [m_bad, ob2_s]; rfl
    · injection hi with hi; omega
  have X0 := X
  have V0 := V
  have M0 := M
  obtain ⟨rfl, rfl, Xc, rfl, Xm, rfl, Xa, rfl, Xb, rfl, Xk, rfl, Xp⟩ := X
  obtain ⟨v1, v2, v3, v4, v5, v6, v7⟩ := V
  obtain ⟨m1, m2, m3, m4, m5, m6, m7⟩ := M
  have hn := v3.1
  have hn2 := v2.1.1
  unfold f_X11_magnet f_X12_magnet
  rw [x_isKind, m_in, ob1_s, ob1_s]
  by_cases h1 : (0 : Int64).toInt ≤ x1.toInt ∧ x1.toInt ≤ (5 : Int64).toInt
  · rw [if_pos h1, if_neg one_ne, if_neg one_ne, x_isDesk, m_in, ob1_s, ob1_s]
    by_cases h2 : (0 : Int64).toInt ≤ x2.toInt ∧ x2.toInt ≤ (11 : Int64).toInt
    · rw [if_pos h2, if_neg one_ne, if_neg one_ne, x_within, m_in, ob1_s, ob1_s]
      have e1 : (1 : Int32).toInt = (1 : Int64).toInt := rfl
      have e9 : (9 : Int32).toInt = (9 : Int64).toInt := rfl
      rw [e1, e9]
      by_cases h3 : (1 : Int64).toInt ≤ x3.toInt ∧ x3.toInt ≤ (9 : Int64).toInt
      · rw [if_pos h3, if_neg one_ne, if_neg one_ne]
        have h1 : 0 ≤ x1.toInt ∧ x1.toInt ≤ 5 := h1
        have h2 : 0 ≤ x2.toInt ∧ x2.toInt ≤ 11 := h2
        have h3 : 1 ≤ x3.toInt ∧ x3.toInt ≤ 9 := h3
        obtain ⟨k, rfl, hk, -⟩ := nat_of h1.1
        obtain ⟨d, rfl, hd, -⟩ := nat_of h2.1
        obtain ⟨x, rfl, hx, -⟩ := nat_of (show 0 ≤ x3.toInt by omega)
        have ef : f_X7_isFull 3 (nI (gN (oG o))) = some (if gN (oG o) < 3 then 0 else 1) := x_isFull (most := 3) (by omega) hn
        have c1 : ∀ (k : Option (Int32 × (Nat → Int32) × (Nat → Int32))), chk 1 1251 k = k := fun k => chk_n (i := 1) (by omega) (by omega)
        have c2 : (1 : Int32).toNatClampNeg = 1 := by decide
        have hg : w 1 = nI (gN (oG o)) := m3.1
        rw [ef, ob1_s, c1, c2, hg]
        by_cases z : gN (oG o) < 3
        · rw [if_pos z, if_pos rfl, if_neg (show ¬ nI (gN (oG o)) = 3 from fun q => by have := (nI_eq (b := 3) (by omega) (by omega)).mp q; omega)]
          have ea := x_add3 (s := gN (oG o)) (f := mc) z (nI k) (nI d) (nI x) 0 0
          obtain ⟨w1, em, M1, fr1⟩ := m_addsG (b := 0) (by omega) m3 z k d x
          have em : f_X12_addsMagnet w 0 (nI k) (nI d) (nI x) = some w1 := em
          have fr : ∀ y, (y < 1 ∨ 47 ≤ y ∨ (2 ≤ y ∧ y < 38)) → y ≠ 124 → upd w1 124 0 y = w y := fun y h1 h2 => by rw [pk_un h2, fr1 y (by omega)]
          have M1' : MM (upd w1 124 0) 0 (addG (oG o) k d x) := MM.fr M1 (by show gN (oG o) + 1 ≤ 3; omega) (fun y _ => pk_un (by omega))
          refine ⟨nI (gN (oG o)), none, (oD o, oT o, addG (oG o) k d x, oA o, oB o, oC o, p0s), _, _, 0, upd w1 124 0, ?_, ?_, fun i hi => (by cases hi), ⟨rfl, rfl, Xc, rfl, addG_X Xm k d x, rfl, Xa, rfl, Xb, rfl, Xk, rfl, fun q hq => absurd hq (Nat.not_lt_zero q)⟩, ⟨v1, v2, addG_V v3 z (by omega) (by omega) (by omega) (by omega), v4, v5, VC.mono (show gN (oG o) ≤ gN (oG o) + 1 by omega) v6, VP.zero _⟩, ⟨?_, ?_, M1', ?_, ?_, ?_, ?_⟩, fun y hy => fr y (by omega) (by omega)⟩
          · unfold f_X6_addMagnet f_X7_empty
            rw [ob1_s, ea, ob3_s, ob4_s]
            rfl
          · have hg1 : upd w1 124 0 1 = nI (gN (oG o) + 1) := M1'.1
            rw [em, ob1_s, show (124 : Int32) = nI 124 from rfl, chk_n (by omega) (by omega), nI_clamp (by omega), bnd_s, c1, hg1, ← nI_1, Int32.add_sub_cancel]
            rfl
          · rw [fr 2 (by omega) (by omega)]; exact m1
          · exact MT.fr m2 hn2 (fun y _ _ _ _ => fr y (by omega) (by omega))
          · exact ML.fr (a := oA o) (m := 20) m4 (by have := v4.1; omega) (fun y hy => fr y (by omega) (by omega))
          · exact ML.fr (a := oB o) (m := 24) m5 (by have := v5.1; omega) (fun y hy => fr y (by omega) (by omega))
          · exact ML.fr (a := oC o) (m := 30) m6 (by have := v6.1; omega) (fun y hy => fr y (by omega) (by omega))
          · exact ⟨pk_us, fun q hq => absurd hq (Nat.not_lt_zero q)⟩
        · rw [if_neg z, if_neg one_ne, if_pos (show nI (gN (oG o)) = 3 by rw [show gN (oG o) = 3 by omega]; rfl), x_full, m_full, ob2_s, ob2_s]
          refine ⟨-4, some 2, o, _, mc, _, w, rfl, rfl, fun i hi => ?_, X0, V0, M0, fun _ _ => rfl⟩
          injection hi with hi; omega
      · rw [if_neg h3, if_pos rfl, if_pos rfl]; exact hbad
    · rw [if_neg h2, if_pos rfl, if_pos rfl]; exact hbad
  · rw [if_neg h1, if_pos rfl, if_pos rfl]; exact hbad
end MG
