/-! ===== an office, both sides ===== -/
/-- rows of words: how many, and the words -/
abbrev Ls : Type := Nat × (Nat → Nat → Int32)
def XL (W : Nat) (f : Nat → Int32) (a : Ls) : Prop := ∀ i, i < a.1 → ∀ c, c < W → f (i * W + c) = a.2 i c
def ML (W cn b : Nat) (w : Nat → Int32) (a : Ls) : Prop := w cn = nI a.1 ∧ ∀ i, i < a.1 → ∀ c, c < W → w (b + W * i + c) = a.2 i c
abbrev Ofc : Type := Nat × Tb × Mg × Ls × Ls × Ls × Ps
abbrev oD (o : Ofc) : Nat := o.1
abbrev oT (o : Ofc) : Tb := o.2.1
abbrev oG (o : Ofc) : Mg := o.2.2.1
abbrev oA (o : Ofc) : Ls := o.2.2.2.1
abbrev oB (o : Ofc) : Ls := o.2.2.2.2.1
abbrev oC (o : Ofc) : Ls := o.2.2.2.2.2.1
abbrev oP (o : Ofc) : Ps := o.2.2.2.2.2.2
def VA (n : Nat) (a : Ls) : Prop := a.1 ≤ 5 ∧ ∀ i, i < a.1 → ∃ x y z u : Nat, a.2 i 0 = nI x ∧ a.2 i 1 = nI y ∧ a.2 i 2 = nI z ∧ a.2 i 3 = nI u ∧ x < n ∧ 1 ≤ y ∧ y ≤ 20 ∧ z < n ∧ u ≤ 20
def VB (n : Nat) (a : Ls) : Prop := a.1 ≤ 6 ∧ ∀ i, i < a.1 → ∃ x y z u : Nat, a.2 i 0 = nI x ∧ a.2 i 1 = nI y ∧ a.2 i 2 = nI z ∧ a.2 i 3 = nI u ∧ x < n ∧ 1 ≤ y ∧ y ≤ 20 ∧ z ≤ 99 ∧ u ≤ 20
def VC (n : Nat) (a : Ls) : Prop := a.1 ≤ 6 ∧ ∀ i, i < a.1 → ∃ x y z u : Nat, a.2 i 0 = nI x ∧ a.2 i 1 = nI y ∧ a.2 i 2 = nI z ∧ a.2 i 3 = nI u ∧ x < n ∧ 1 ≤ y ∧ y ≤ 9 ∧ z ≤ 11 ∧ u ≤ 99
def VO (o : Ofc) : Prop := oD o ≤ 999 ∧ VH (oT o) ∧ VM (oG o) ∧ VA (tN (oT o)) (oA o) ∧ VB (tN (oT o)) (oB o) ∧ VC (gN (oG o)) (oC o) ∧ VP (oP o) (oT o)
def XO (dy cs : Int32) (cc : Nat → Int32) (ms : Int32) (mc : Nat → Int32) (ts : Int32) (tc : Nat → Int32) (ns : Int32) (nc : Nat → Int32) (ks : Int32) (kc : Nat → Int32) (ps : Int32) (pc : Nat → Int32) (o : Ofc) : Prop :=
  dy = nI (oD o) ∧ cs = nI (tN (oT o)) ∧ XT cc (oT o) ∧ ms = nI (gN (oG o)) ∧ XM mc (oG o) ∧ ts = nI (oA o).1 ∧ XL 4 tc (oA o) ∧ ns = nI (oB o).1 ∧ XL 4 nc (oB o) ∧ ks = nI (oC o).1 ∧ XL 5 kc (oC o) ∧ ps = nI (pN (oP o)) ∧ XP pc (tN (oT o)) (oP o)
def MO (w : Nat → Int32) (r : Nat) (o : Ofc) : Prop :=
  w (r + 2) = nI (oD o) ∧ MT w r (oT o) ∧ MM w r (oG o) ∧ ML 4 (r + 47) (r + 48) w (oA o) ∧ ML 4 (r + 68) (r + 69) w (oB o) ∧ ML 5 (r + 93) (r + 94) w (oC o) ∧ MP w r (tN (oT o)) (oP o)
theorem MT.fr {w w' : Nat → Int32} {r : Nat} {t : Tb} (M : MT w r t) (hn : tN t ≤ 7) (h : ∀ x, r ≤ x → x < r + 38 → x ≠ r + 1 → x ≠ r + 2 → w' x = w x) : MT w' r t := by
  refine ⟨by rw [h r (by omega) (by omega) (by omega) (by omega)]; exact M.1, fun i hi => ?_⟩
  have := M.2 i hi
  rw [h _ (by omega) (by omega) (by omega) (by omega), h _ (by omega) (by omega) (by omega) (by omega), h _ (by omega) (by omega) (by omega) (by omega), h _ (by omega) (by omega) (by omega) (by omega), h _ (by omega) (by omega) (by omega) (by omega)]
  exact this
theorem MM.fr {w w' : Nat → Int32} {r : Nat} {g : Mg} (M : MM w r g) (hn : gN g ≤ 3) (h : ∀ x, (x = r + 1 ∨ (r + 38 ≤ x ∧ x < r + 47)) → w' x = w x) : MM w' r g := by
  refine ⟨by rw [h (r + 1) (by omega)]; exact M.1, fun i hi => ?_⟩
  have := M.2 i hi
  rw [h _ (by omega), h _ (by omega), h _ (by omega)]
  exact this
theorem ML.fr {w w' : Nat → Int32} {W cn b m : Nat} {a : Ls} (M : ML W cn b w a) (hn : a.1 * W ≤ m) (h : ∀ x, (x = cn ∨ (b ≤ x ∧ x < b + m)) → w' x = w x) : ML W cn b w' a := by
  refine ⟨by rw [h cn (Or.inl rfl)]; exact M.1, fun i hi c hc => ?_⟩
  have h1 : W * i + W ≤ a.1 * W := by
    have := Nat.mul_le_mul_right W (show i + 1 ≤ a.1 from hi)
    rw [Nat.add_mul, Nat.one_mul, Nat.mul_comm i W] at this
    exact this
  rw [h _ (Or.inr ⟨by omega, by omega⟩)]
  exact M.2 i hi c hc
theorem MP.fr {w w' : Nat → Int32} {r n : Nat} {p : Ps} (M : MP w r n p) (hn : n ≤ 7) (h8 : pN p ≤ 8) (h : ∀ x, r + 124 ≤ x → x < r + 301 → w' x = w x) : MP w' r n p := by
  refine ⟨by rw [h _ (by omega) (by omega)]; exact M.1, fun q hq => ⟨by rw [h _ (by omega) (by omega)]; exact (M.2 q hq).1, fun k hk => ?_⟩⟩
  have := (M.2 q hq).2 k hk
  rw [h _ (by omega) (by omega), h _ (by omega) (by omega), h _ (by omega) (by omega)]
  exact this
/-- an office's words of the reference elsewhere: the same words at another base -/
theorem MO.cp {w w' : Nat → Int32} {r r' : Nat} {o : Ofc} (V : VO o) (M : MO w r o) (h : ∀ x, x < 301 → w' (r' + x) = w (r + x)) : MO w' r' o := by
  obtain ⟨h1, h2, h3, h4, h5, h6, h7⟩ := M
  obtain ⟨v1, v2, v3, v4, v5, v6, v7⟩ := V
  have a1 := v2.1.1
  have a2 := v3.1
  have a3 := v4.1
  have a4 := v5.1
  have a5 := v6.1
  have a6 := v7.1
  refine ⟨by rw [h 2 (by omega)]; exact h1, ⟨?_, fun i hi => ?_⟩, ⟨by rw [h 1 (by omega)]; exact h3.1, fun i hi => ?_⟩, ⟨by rw [h 47 (by omega)]; exact h4.1, fun i hi c hc => ?_⟩, ⟨by rw [h 68 (by omega)]; exact h5.1, fun i hi c hc => ?_⟩, ⟨by rw [h 93 (by omega)]; exact h6.1, fun i hi c hc => ?_⟩, ⟨by rw [h 124 (by omega)]; exact h7.1, fun q hq => ⟨?_, fun k hk => ?_⟩⟩⟩
  · have := h 0 (by omega); rw [Nat.add_zero, Nat.add_zero] at this; rw [this]; exact h2.1
  · have := h2.2 i hi
    simp only [Nat.add_assoc] at this ⊢
    rw [h _ (by omega), h _ (by omega), h _ (by omega), h _ (by omega), h _ (by omega)]
    exact this
  · have := h3.2 i hi
    simp only [Nat.add_assoc] at this ⊢
    rw [h _ (by omega), h _ (by omega), h _ (by omega)]
    exact this
  · have := h4.2 i hi c hc
    simp only [Nat.add_assoc] at this ⊢
    rw [h _ (by omega)]
    exact this
  · have := h5.2 i hi c hc
    simp only [Nat.add_assoc] at this ⊢
    rw [h _ (by omega)]
    exact this
  · have := h6.2 i hi c hc
    simp only [Nat.add_assoc] at this ⊢
    rw [h _ (by omega)]
    exact this
  · have := (h7.2 q hq).1
    simp only [Nat.add_assoc] at this ⊢
    rw [h _ (by omega)]
    exact this
  · have := (h7.2 q hq).2 k hk
    simp only [Nat.add_assoc] at this ⊢
    rw [h _ (by omega), h _ (by omega), h _ (by omega)]
    exact this
theorem MO.fr {w w' : Nat → Int32} {r : Nat} {o : Ofc} (V : VO o) (M : MO w r o) (h : ∀ x, r ≤ x → x < r + 301 → w' x = w x) : MO w' r o :=
  MO.cp V M (fun x hx => h (r + x) (by omega) (by omega))
/-- a record of the past, back in its place -/
def oBack (o : Ofc) : Ofc := (pD (oP o) (pN (oP o) - 1), pT (oP o) (pN (oP o) - 1), oG o, oA o, oB o, oC o, pDrop (oP o))
theorem VO.back {o : Ofc} (V : VO o) (h : pN (oP o) ≠ 0) : VO (oBack o) := by
  obtain ⟨v1, v2, v3, v4, v5, v6, v7⟩ := V
  have r := v7.2 (pN (oP o) - 1) (by omega)
  refine ⟨r.1, r.2.1, v3, ?_, ?_, v6, ?_⟩
  · show VA (tN (pT (oP o) (pN (oP o) - 1))) (oA o)
    rw [r.2.2.1]; exact v4
  · show VB (tN (pT (oP o) (pN (oP o) - 1))) (oB o)
    rw [r.2.2.1]; exact v5
  · exact VP.to (VP.drop v7) r.2.2.1 r.2.2.2
