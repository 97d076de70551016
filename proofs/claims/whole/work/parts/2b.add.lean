/-! ===== rows added and taken away ===== -/
theorem x_isFull {most s : Nat} (hm : most < 2 ^ 31) (hs : s ≤ most) : f_X7_isFull (nI most) (nI s) = some (if s < most then 0 else 1) := by
  unfold f_X7_isFull
  by_cases h : s < most
  · rw [if_pos (nI_lt h hm), if_pos h]
  · rw [if_neg (nI_nlt (by omega) (by omega)), if_neg h]
def add5 (f : Nat → Int32) (i : Nat) (a b c d e : Int32) : Nat → Int32 := upd (upd (upd (upd (upd f (i + 0) a) (i + 1) b) (i + 2) c) (i + 3) d) (i + 4) e
theorem x_add {most W s N : Nat} {f : Nat → Int32} (hs : s < most) (hm : most < 999) (hW : 5 ≤ W) (hW2 : W < 1000) (hN : s * W + W ≤ N) (hN2 : N < 1000) (a b c d e : Int32) : f_X7_add (nI most) (nI W) (nI s) N f a b c d e = some (nI s, nI (s + 1), add5 f (s * W) a b c d e) := by
  have p : ∀ (f : Nat → Int32) (c : Nat) (v : Int32), c < 5 → f_X7_put (nI W) (nI (s + 1)) N f (nI s) (nI c) v = some (upd f (s * W + c) v) := fun f c v hc => put_in (by omega) (by omega) (by omega) hW2 (by omega) (by omega)
  unfold f_X7_add
  rw [x_isFull (by omega) (by omega), if_pos hs, ob1_s, if_pos rfl, nI_1, bnd_s]
  have p0 := p f 0 a (by omega)
  have p0 : f_X7_put (nI W) (nI (s + 1)) N f (nI s) 0 a = some (upd f (s * W + 0) a) := p0
  rw [p0, ob1_s]
  have p1 : ∀ f, f_X7_put (nI W) (nI (s + 1)) N f (nI s) 1 b = some (upd f (s * W + 1) b) := fun f => p f 1 b (by omega)
  rw [p1, ob1_s]
  have p2 : ∀ f, f_X7_put (nI W) (nI (s + 1)) N f (nI s) 2 c = some (upd f (s * W + 2) c) := fun f => p f 2 c (by omega)
  rw [p2, ob1_s]
  have p3 : ∀ f, f_X7_put (nI W) (nI (s + 1)) N f (nI s) 3 d = some (upd f (s * W + 3) d) := fun f => p f 3 d (by omega)
  rw [p3, ob1_s]
  have p4 : ∀ f, f_X7_put (nI W) (nI (s + 1)) N f (nI s) 4 e = some (upd f (s * W + 4) e) := fun f => p f 4 e (by omega)
  rw [p4, ob1_s]
  rfl
theorem add5_low {f : Nat → Int32} {i x : Nat} {a b c d e : Int32} (h : x < i ∨ i + 5 ≤ x) : add5 f i a b c d e x = f x := by
  unfold add5
  rw [pk_un (by omega), pk_un (by omega), pk_un (by omega), pk_un (by omega), pk_un (by omega)]
theorem x_dropLast {s : Nat} (h : 1 ≤ s) (hs : s < 2 ^ 31) : f_X7_dropLast (nI s) = some (nI (s - 1)) := by
  unfold f_X7_dropLast
  rw [if_neg (show ¬ nI s ≤ 0 from fun q => by have := (nI_le0 hs).mp q; omega), show (1 : Int32) = nI 1 from rfl, nI_sub h, bnd_s]
theorem x_drop_go {W N s : Nat} (hs : 1 ≤ s) (hs2 : s < 1000) (hN : N < 1000) (hW1 : 1 ≤ W) (f0 : Nat → Int32) : ∀ (e j q : Nat) (f : Nat → Int32), j + e = N → W ≤ j → e < q → (∀ x, f x = if x + W < j then f0 (x + W) else f0 x) →
    ∃ f', f_X7_dropFirst_5 (nI W) N q (nI s) f (nI j) = some (nI (s - 1), f') ∧ ∀ x, f' x = if x + W < N then f0 (x + W) else f0 x := by
  intro e
  induction e with
  | zero =>
    intro j q f hj hW hq h
    obtain ⟨q, rfl⟩ : ∃ q', q = q' + 1 := ⟨q - 1, by omega⟩
    obtain rfl : j = N := by omega
    rw [f_X7_dropFirst_5, if_pos (nI_le (Nat.le_refl _) (by omega))]
    unfold f_X7_dropFirst_41
    rw [x_dropLast hs (by omega), ob1_s]
    exact ⟨f, rfl, h⟩
  | succ e ih =>
    intro j q f hj hW hq h
    obtain ⟨q, rfl⟩ : ∃ q', q = q' + 1 := ⟨q - 1, by omega⟩
    rw [f_X7_dropFirst_5, if_neg (nI_ge (by omega) (by omega)), cell_in f (by omega) (by omega), ob1_s, nI_sub hW, setc_in f _ (by omega) (by omega), ob1_s, nI_1, bnd_s]
    refine ih (j + 1) q _ (by omega) (by omega) (by omega) (fun x => ?_)
    have ea : f j = f0 j := by rw [h, if_neg (by omega)]
    by_cases z : x = j - W
    · subst z
      rw [pk_us, ea, if_pos (by omega), Nat.sub_add_cancel hW]
    · rw [pk_un z, h x]
      by_cases y : x + W < j
      · rw [if_pos y, if_pos (by omega)]
      · rw [if_neg y, if_neg (by omega)]
theorem x_dropFirst {W N s : Nat} (hs : 1 ≤ s) (hs2 : s < 1000) (hN : N < 1000) (hW : W ≤ N) (hW1 : 1 ≤ W) (f : Nat → Int32) : ∃ f', f_X7_dropFirst (nI W) (nI s) N f = some (nI (s - 1), f') ∧ ∀ x, f' x = if x + W < N then f (x + W) else f x :=
  x_drop_go hs hs2 hN hW1 f (N - W) W FU f (by omega) (Nat.le_refl _) (Nat.lt_of_le_of_lt (Nat.sub_le _ _) (Nat.lt_of_lt_of_le hN (by decide))) (fun x => by
    by_cases z : x + W < W
    · omega
    · rw [if_neg z])
