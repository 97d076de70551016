/-! ===== the calls count, digest, part, type, clear, both sides ===== -/
section CT
variable {fc fm w : Nat → Int32} {t : Tb} {g : Mg}
theorem x_rust (X : XT fc t) (V : VT t) : f_X7_sum 5 (nI (tN t)) 35 fc 3 = some (nI (sumN (tU t) (tN t))) := by
  have hn := V.1
  unfold f_X7_sum
  refine sum_loop (fun q a k => f_X7_sum_4 5 (nI (tN t)) 35 fc q 3 (nI a) k) (tN t) hn (tU t) (fun a => some (nI a)) (fun q k a hk => ?_) (fun q a => ?_)
  · show f_X7_sum_4 5 (nI (tN t)) 35 fc (q + 1) 3 (nI a) (nI k) = _
    rw [f_X7_sum_4, if_neg (nI_ge hk (by omega)), X.u hk hn, ob1_s, nI_add, bnd_s, nI_1, bnd_s]
  · show f_X7_sum_4 5 (nI (tN t)) 35 fc (q + 1) 3 (nI a) (nI (tN t)) = _
    rw [f_X7_sum_4, if_pos (nI_le (Nat.le_refl _) (by omega))]
theorem m_rust (M : MT w 0 t) (V : VT t) : f_X12_rustOf w = some (nI (sumN (tU t) (tN t))) := by
  have hn := V.1
  unfold f_X12_rustOf
  refine sum_loop (fun q a k => f_X12_rustOf_4 w q (nI a) k) (tN t) hn (tU t) (fun a => some (nI a)) (fun q k a hk => ?_) (fun q a => ?_)
  · show f_X12_rustOf_4 w (q + 1) (nI a) (nI k) = _
    have g3 := M.gu hk
    rw [show 0 + 24 + k = 24 + k by omega] at g3
    rw [f_X12_rustOf_4, chk_0 (by decide) (by decide), cl_0, M.1, if_neg (nI_ge hk (by omega)), show (24 : Int32) = nI 24 from rfl, nI_add, chk_n (by omega) (by omega), nI_clamp (by omega), g3, nI_add, bnd_s, nI_1, bnd_s]
  · show f_X12_rustOf_4 w (q + 1) (nI a) (nI (tN t)) = _
    rw [f_X12_rustOf_4, chk_0 (by decide) (by decide), cl_0, M.1, if_pos (nI_le (Nat.le_refl _) (by omega))]
theorem m_tops (M : MT w 0 t) (V : VT t) : f_X12_countTops w = some (nI (onN t none)) := by
  have hn := V.1
  unfold f_X12_countTops
  refine sum_loop (fun q a k => f_X12_countTops_4 w q (nI a) k) (tN t) hn (fun k => if decide (tO t k = none) then 1 else 0) (fun a => some (nI a)) (fun q k a hk => ?_) (fun q a => ?_)
  · show f_X12_countTops_4 w (q + 1) (nI a) (nI k) = _
    have g4 := M.go hk
    rw [show 0 + 31 + k = 31 + k by omega] at g4
    rw [f_X12_countTops_4, chk_0 (by decide) (by decide), cl_0, M.1, if_neg (nI_ge hk (by omega)), show (31 : Int32) = nI 31 from rfl, nI_add, chk_n (by omega) (by omega), nI_clamp (by omega), g4]
    unfold f_X12_countTops_33
    by_cases z : tO t k = none
    · rw [if_pos ((onv_nil (V.on31 hk)).mpr z), decide_eq_true z, if_pos rfl, nI_1, bnd_s, nI_1, bnd_s]
    · have e0 : nI a + 0 = nI (a + 0) := nI_add a 0
      rw [if_neg (fun q => z ((onv_nil (V.on31 hk)).mp q)), decide_eq_false z, if_neg Bool.false_ne_true, e0, bnd_s, nI_1, bnd_s]
  · show f_X12_countTops_4 w (q + 1) (nI a) (nI (tN t)) = _
    rw [f_X12_countTops_4, chk_0 (by decide) (by decide), cl_0, M.1, if_pos (nI_le (Nat.le_refl _) (by omega))]
end CT
/-- what count counts -/
def cv (o : Ofc) (tx v : Int32) : Int32 := if v = 0 then nI (tN (oT o)) else if v = 1 then nI (gN (oG o)) else if v = 2 then nI (oD o) else if v = 3 then nI (tN (oT o)) - nI (onN (oT o) none) else if v = 4 then nI (sumN (tU (oT o)) (tN (oT o))) else if v = 5 then nI (oA o).1 else if v = 6 then nI (oB o).1 else if v = 7 then nI (oC o).1 else if v = 8 then nI (pN (oP o)) else tx
section CU
variable {dy cs : Int32} {cc : Nat → Int32} {ms : Int32} {mc : Nat → Int32} {ts : Int32} {tc : Nat → Int32} {ns : Int32} {nc : Nat → Int32} {ks : Int32} {kc : Nat → Int32} {ps : Int32} {pc w : Nat → Int32} {o : Ofc}
theorem x_cv (X : XO dy cs cc ms mc ts tc ns nc ks kc ps pc o) (V : VO o) (tx v : Int32) : f_X11_howMany dy cs cc ms ts ns ks ps tx v = some (cv o tx v) := by
  obtain ⟨rfl, rfl, Xc, rfl, Xm, rfl, Xa, rfl, Xb, rfl, Xk, rfl, Xp⟩ := X
  have v2 := V.2.1
  unfold f_X11_howMany cv f_X9_length
  by_cases h0 : v = 0
  · rw [if_pos h0, if_pos h0, x_size, ob1_s]
  by_cases h1 : v = 1
  · rw [if_neg h0, if_pos h1, if_neg h0, if_pos h1, x_size, ob1_s]
  by_cases h2 : v = 2
  · rw [if_neg h0, if_neg h1, if_pos h2, if_neg h0, if_neg h1, if_pos h2]
  by_cases h3 : v = 3
  · rw [if_neg h0, if_neg h1, if_neg h2, if_pos h3, if_neg h0, if_neg h1, if_neg h2, if_pos h3, x_size, ob1_s, x_howMany Xc v2.1, ob1_s]
  by_cases h4 : v = 4
  · rw [if_neg h0, if_neg h1, if_neg h2, if_neg h3, if_pos h4, if_neg h0, if_neg h1, if_neg h2, if_neg h3, if_pos h4, x_rust Xc v2.1, ob1_s]
  by_cases h5 : v = 5
  · rw [if_neg h0, if_neg h1, if_neg h2, if_neg h3, if_neg h4, if_pos h5, if_neg h0, if_neg h1, if_neg h2, if_neg h3, if_neg h4, if_pos h5, x_size, ob1_s]
  by_cases h6 : v = 6
  · rw [if_neg h0, if_neg h1, if_neg h2, if_neg h3, if_neg h4, if_neg h5, if_pos h6, if_neg h0, if_neg h1, if_neg h2, if_neg h3, if_neg h4, if_neg h5, if_pos h6, x_size, ob1_s]
  by_cases h7 : v = 7
  · rw [if_neg h0, if_neg h1, if_neg h2, if_neg h3, if_neg h4, if_neg h5, if_neg h6, if_pos h7, if_neg h0, if_neg h1, if_neg h2, if_neg h3, if_neg h4, if_neg h5, if_neg h6, if_pos h7, x_size, ob1_s]
  by_cases h8 : v = 8
  · rw [if_neg h0, if_neg h1, if_neg h2, if_neg h3, if_neg h4, if_neg h5, if_neg h6, if_neg h7, if_pos h8, if_neg h0, if_neg h1, if_neg h2, if_neg h3, if_neg h4, if_neg h5, if_neg h6, if_neg h7, if_pos h8, x_size, ob1_s]
  rw [if_neg h0, if_neg h1, if_neg h2, if_neg h3, if_neg h4, if_neg h5, if_neg h6, if_neg h7, if_neg h8, if_neg h0, if_neg h1, if_neg h2, if_neg h3, if_neg h4, if_neg h5, if_neg h6, if_neg h7, if_neg h8, ob1_s]
theorem m_cv (M : MO w 0 o) (V : VO o) (tx v : Int32) : f_X12_countOf tx w v = some (cv o tx v) := by
  have v2 := V.2.1
  obtain ⟨m1, m2, m3, m4, m5, m6, m7⟩ := M
  have c1 : w 1 = nI (gN (oG o)) := m3.1
  have c2 : w 2 = nI (oD o) := m1
  have c4 : w 47 = nI (oA o).1 := m4.1
  have c5 : w 68 = nI (oB o).1 := m5.1
  have c6 : w 93 = nI (oC o).1 := m6.1
  have c7 : w 124 = nI (pN (oP o)) := m7.1
  unfold f_X12_countOf cv
  by_cases h0 : v = 0
  · rw [if_pos h0, if_pos h0, chk_0 (by decide) (by decide), cl_0, m2.1]
  by_cases h1 : v = 1
  · rw [if_neg h0, if_pos h1, if_neg h0, if_pos h1, chk_c 1 1 rfl (by omega), cl_c 1 1 rfl (by omega), c1]
  by_cases h2 : v = 2
  · rw [if_neg h0, if_neg h1, if_pos h2, if_neg h0, if_neg h1, if_pos h2, chk_c 2 2 rfl (by omega), cl_c 2 2 rfl (by omega), c2]
  by_cases h3 : v = 3
  · rw [if_neg h0, if_neg h1, if_neg h2, if_pos h3, if_neg h0, if_neg h1, if_neg h2, if_pos h3, chk_0 (by decide) (by decide), m_tops m2 v2.1, ob1_s, cl_0, m2.1]
  by_cases h4 : v = 4
  · rw [if_neg h0, if_neg h1, if_neg h2, if_neg h3, if_pos h4, if_neg h0, if_neg h1, if_neg h2, if_neg h3, if_pos h4, m_rust m2 v2.1, ob1_s]
  by_cases h5 : v = 5
  · rw [if_neg h0, if_neg h1, if_neg h2, if_neg h3, if_neg h4, if_pos h5, if_neg h0, if_neg h1, if_neg h2, if_neg h3, if_neg h4, if_pos h5, chk_c 47 47 rfl (by omega), cl_c 47 47 rfl (by omega), c4]
  by_cases h6 : v = 6
  · rw [if_neg h0, if_neg h1, if_neg h2, if_neg h3, if_neg h4, if_neg h5, if_pos h6, if_neg h0, if_neg h1, if_neg h2, if_neg h3, if_neg h4, if_neg h5, if_pos h6, chk_c 68 68 rfl (by omega), cl_c 68 68 rfl (by omega), c5]
  by_cases h7 : v = 7
  · rw [if_neg h0, if_neg h1, if_neg h2, if_neg h3, if_neg h4, if_neg h5, if_neg h6, if_pos h7, if_neg h0, if_neg h1, if_neg h2, if_neg h3, if_neg h4, if_neg h5, if_neg h6, if_pos h7, chk_c 93 93 rfl (by omega), cl_c 93 93 rfl (by omega), c6]
  by_cases h8 : v = 8
  · rw [if_neg h0, if_neg h1, if_neg h2, if_neg h3, if_neg h4, if_neg h5, if_neg h6, if_neg h7, if_pos h8, if_neg h0, if_neg h1, if_neg h2, if_neg h3, if_neg h4, if_neg h5, if_neg h6, if_neg h7, if_pos h8, chk_c 124 124 rfl (by omega), cl_c 124 124 rfl (by omega), c7]
  rw [if_neg h0, if_neg h1, if_neg h2, if_neg h3, if_neg h4, if_neg h5, if_neg h6, if_neg h7, if_neg h8, if_neg h0, if_neg h1, if_neg h2, if_neg h3, if_neg h4, if_neg h5, if_neg h6, if_neg h7, if_neg h8]
theorem c_count_eq (X : XO dy cs cc ms mc ts tc ns nc ks kc ps pc o) (V : VO o) (M : MO w 0 o) (st st2 : Nat → Int32) (tx x1 : Int32) :
    ∃ (r : Int32) (c : Option Nat), f_X11_count dy cs cc ms ts ns ks ps tx st x1 = some (r, stx c st) ∧ f_X12_count tx w st2 x1 = some (r, stx c st2) ∧ (∀ i, c = some i → i < 3) := by
  unfold f_X11_count f_X12_count
  rw [x_within, m_in, ob1_s, ob1_s, show (0 : Int32).toInt = (0 : Int64).toInt from rfl, show (9 : Int32).toInt = (9 : Int64).toInt from rfl]
  by_cases h : (0 : Int64).toInt ≤ x1.toInt ∧ x1.toInt ≤ (9 : Int64).toInt
  · rw [if_pos h, if_neg one_ne, if_neg one_ne, x_cv X V, m_cv M V, ob1_s, ob1_s]
    exact ⟨_, none, rfl, rfl, fun i hi => by cases hi⟩
  · rw [if_neg h, if_pos rfl, if_pos rfl, x_bad, m_bad, ob2_s, ob2_s]
    refine ⟨-2, some 0, rfl, rfl, fun i hi => ?_⟩
    injection hi with hi; omega
/-! the digest -/
theorem itr_add {α : Type} (s : Nat → α → α) : ∀ (a b i : Nat) (x : α), itr s (a + b) i x = itr s b (i + a) (itr s a i x) := by
  intro a
  induction a with
  | zero => intro b i x; rw [Nat.zero_add]; rfl
  | succ a ih =>
    intro b i x
    rw [show a + 1 + b = (a + b) + 1 by omega]
    show itr s (a + b) (i + 1) (s i x) = itr s b (i + (a + 1)) (itr s a (i + 1) (s i x))
    rw [ih, show i + 1 + a = i + (a + 1) by omega]
theorem itr_flat {α : Type} (s : Nat → α → α) (W : Nat) : ∀ (n : Nat) (x : α), itr s (n * W) 0 x = itr (fun k x => itr s W (k * W) x) n 0 x := by
  intro n
  induction n with
  | zero => intro x; rw [Nat.zero_mul]; rfl
  | succ n ih =>
    intro x
    rw [Nat.add_mul, Nat.one_mul, itr_add, ih, itr_s, Nat.zero_add, Nat.zero_add]
def mixh (h : Int64) (x : Int32) : Int64 := 31 * h + x.toInt64
def dgs (f : Nat → Int32) (n : Nat) (h : Int64) : Int64 := itr (fun i h => mixh h (f i)) n 0 h
theorem x_digestOn {W s N : Nat} {f : Nat → Int32} (hN : s * W ≤ N) (hNb : N < 1000) (h : Int64) : f_X7_digestOn (nI W) (nI s) N f h = some (dgs f (s * W) h) := by
  unfold f_X7_digestOn
  exact lup0 (fun q h j => f_X7_digestOn_5 (nI W) (nI s) N f q h j) (s * W) (Nat.lt_of_le_of_lt hN (Nat.lt_of_lt_of_le hNb (by decide))) (fun i h => mixh h (f i)) (fun h => some h) h
    (fun q i h hi => by
      show f_X7_digestOn_5 (nI W) (nI s) N f (q + 1) h (nI i) = _
      rw [f_X7_digestOn_5, pk_mul, if_neg (nI_ge hi (by omega)), cell_in f (by omega) (by omega), ob1_s, bnd_s, nI_1, bnd_s]
      rfl)
    (fun q h => by
      show f_X7_digestOn_5 (nI W) (nI s) N f (q + 1) h (nI (s * W)) = _
      rw [f_X7_digestOn_5, pk_mul, if_pos (nI_le (Nat.le_refl _) (by omega))])
theorem m_mix (h : Int64) (x : Int32) : f_X12_mix h x.toInt64 = some (mixh h x) := rfl
def dgT (t : Tb) (h : Int64) : Int64 := itr (fun k h => mixh (mixh (mixh (mixh (mixh h (nI (tK t k))) (nI (tD t k))) (nI (tW t k))) (nI (tU t k))) (onv (tO t k))) (tN t) 0 h
def dgG (g : Mg) (h : Int64) : Int64 := itr (fun k h => mixh (mixh (mixh h (nI (gK g k))) (nI (gD g k))) (nI (gP g k))) (gN g) 0 h
theorem x_dgT {f : Nat → Int32} {t : Tb} (X : XT f t) (hn : tN t ≤ 7) (h : Int64) : f_X7_digestOn 5 (nI (tN t)) 35 f h = some (dgT t h) := by
  have e := x_digestOn (W := 5) (s := tN t) (N := 35) (f := f) (by omega) (by omega) h
  have e : f_X7_digestOn 5 (nI (tN t)) 35 f h = some (dgs f (tN t * 5) h) := e
  rw [e]
  unfold dgs dgT
  rw [itr_flat]
  refine congrArg some (itr_congr (e := tN t) (fun k h hk => ?_) (tN t) 0 h (by omega))
  have x := X k hk
  show mixh (mixh (mixh (mixh (mixh h (f (k * 5))) (f (k * 5 + 1))) (f (k * 5 + 1 + 1))) (f (k * 5 + 1 + 1 + 1))) (f (k * 5 + 1 + 1 + 1 + 1)) = _
  have x0 : f (k * 5) = nI (tK t k) := x.1
  have x2 : f (k * 5 + 1 + 1) = nI (tW t k) := x.2.2.1
  have x3 : f (k * 5 + 1 + 1 + 1) = nI (tU t k) := x.2.2.2.1
  have x4 : f (k * 5 + 1 + 1 + 1 + 1) = onv (tO t k) := x.2.2.2.2
  rw [x0, x.2.1, x2, x3, x4]
theorem x_dgG {f : Nat → Int32} {g : Mg} (X : XM f g) (hn : gN g ≤ 3) (h : Int64) : f_X7_digestOn 3 (nI (gN g)) 9 f h = some (dgG g h) := by
  have e := x_digestOn (W := 3) (s := gN g) (N := 9) (f := f) (by omega) (by omega) h
  have e : f_X7_digestOn 3 (nI (gN g)) 9 f h = some (dgs f (gN g * 3) h) := e
  rw [e]
  unfold dgs dgG
  rw [itr_flat]
  refine congrArg some (itr_congr (e := gN g) (fun k h hk => ?_) (gN g) 0 h (by omega))
  have x := X k hk
  show mixh (mixh (mixh h (f (k * 3))) (f (k * 3 + 1))) (f (k * 3 + 1 + 1)) = _
  have x0 : f (k * 3) = nI (gK g k) := x.1
  have x2 : f (k * 3 + 1 + 1) = nI (gP g k) := x.2.2
  rw [x0, x.2.1, x2]
def dgL (W : Nat) (a : Ls) (h : Int64) : Int64 := itr (fun i h => mixh h (a.2 (i / W) (i % W))) (a.1 * W) 0 h
theorem x_dgL {W N : Nat} {f : Nat → Int32} {a : Ls} (X : XL W f a) (hW : 0 < W) (hN : a.1 * W ≤ N) (hNb : N < 1000) (h : Int64) : f_X7_digestOn (nI W) (nI a.1) N f h = some (dgL W a h) := by
  rw [x_digestOn hN hNb]
  unfold dgs dgL
  refine congrArg some (itr_congr (e := a.1 * W) (fun i h hi => ?_) (a.1 * W) 0 h (by omega))
  have x := X (i / W) (Nat.div_lt_of_lt_mul (by rw [Nat.mul_comm]; exact hi)) (i % W) (Nat.mod_lt _ hW)
  rw [show i / W * W + i % W = i from by rw [Nat.mul_comm]; exact Nat.div_add_mod i W] at x
  rw [x]
theorem lw_at {W cn b : Nat} {w : Nat → Int32} {a : Ls} (M : ML W cn b w a) (hW : 0 < W) {i : Nat} (hi : i < a.1 * W) : w (b + i) = a.2 (i / W) (i % W) := by
  have x := M.2 (i / W) (Nat.div_lt_of_lt_mul (by rw [Nat.mul_comm]; exact hi)) (i % W) (Nat.mod_lt _ hW)
  rw [Nat.add_assoc, Nat.div_add_mod i W] at x
  exact x
theorem x_digest (X : XO dy cs cc ms mc ts tc ns nc ks kc ps pc o) (V : VO o) (tx : Int32) (ab be : Int64) :
    f_X11_digest dy cs cc ms mc ts tc ns nc ks kc ps tx ab be = some (31 * (31 * (dgL 5 (oC o) (dgL 4 (oB o) (dgL 4 (oA o) (dgG (oG o) (dgT (oT o) (itr (fun i h => mixh h (cv o tx (nI i))) 10 0 1553)))))) + ab) + be) := by
  have X0 := X
  obtain ⟨rfl, rfl, Xc, rfl, Xm, rfl, Xa, rfl, Xb, rfl, Xk, rfl, Xp⟩ := X
  have V0 := V
  obtain ⟨v1, v2, v3, v4, v5, v6, v7⟩ := V
  have a4 := v4.1
  have a5 := v5.1
  have a6 := v6.1
  unfold f_X11_digest
  have e := lup0 (fun q h j => f_X11_digest_6 (nI (oD o)) (nI (tN (oT o))) cc (nI (gN (oG o))) mc (nI (oA o).1) tc (nI (oB o).1) nc (nI (oC o).1) kc (nI (pN (oP o))) tx ab be q h j) 10 (by decide) (fun i h => mixh h (cv o tx (nI i))) (fun h => f_X11_digest_31 (nI (oD o)) (nI (tN (oT o))) cc (nI (gN (oG o))) mc (nI (oA o).1) tc (nI (oB o).1) nc (nI (oC o).1) kc (nI (pN (oP o))) tx ab be h) 1553
    (fun q i h hi => by
      show f_X11_digest_6 _ _ _ _ _ _ _ _ _ _ _ _ _ _ _ (q + 1) h (nI i) = _
      rw [f_X11_digest_6, if_neg (show ¬ (9 : Int32) < nI i from nI_nlt (a := 9) (by omega) (by omega)), x_cv X0 V0, ob1_s, bnd_s, nI_1, bnd_s]
      rfl)
    (fun q h => by
      show f_X11_digest_6 _ _ _ _ _ _ _ _ _ _ _ _ _ _ _ (q + 1) h (nI 10) = _
      rw [f_X11_digest_6, if_pos (show (9 : Int32) < nI 10 by decide)])
  refine e.trans ?_
  unfold f_X11_digest_31
  have eA : ∀ h, f_X7_digestOn 4 (nI (oA o).1) 20 tc h = some (dgL 4 (oA o) h) := fun h => x_dgL Xa (by omega) (by omega) (by omega) h
  have eB : ∀ h, f_X7_digestOn 4 (nI (oB o).1) 24 nc h = some (dgL 4 (oB o) h) := fun h => x_dgL Xb (by omega) (by omega) (by omega) h
  have eC : ∀ h, f_X7_digestOn 5 (nI (oC o).1) 30 kc h = some (dgL 5 (oC o) h) := fun h => x_dgL Xk (by omega) (by omega) (by omega) h
  rw [x_dgT Xc v2.1.1, ob1_s, x_dgG Xm v3.1, ob1_s, eA, ob1_s, eB, ob1_s, eC, ob1_s, bnd_s]
theorem m_ofClerk (M : MT w 0 (oT o)) (hn : tN (oT o) ≤ 7) {k : Nat} (hk : k < tN (oT o)) : ∀ c, c < 5 → f_X12_ofClerk w (nI k) (nI c) = some (if c = 0 then nI (tK (oT o) k) else if c = 1 then nI (tD (oT o) k) else if c = 2 then nI (tW (oT o) k) else if c = 3 then nI (tU (oT o) k) else onv (tO (oT o) k)) := by
  have m := M.2 k hk
  rw [Nat.zero_add, Nat.zero_add, Nat.zero_add, Nat.zero_add, Nat.zero_add] at m
  have rd : ∀ (C : Int32) (a : Nat), C = nI a → a + k < 1251 → chk (C + nI k) 1251 (some (w (C + nI k).toNatClampNeg)) = some (w (a + k)) := fun C a hC ha => by
    rw [hC, nI_add, chk_n ha (by omega), nI_clamp (by omega)]
  intro c hc
  unfold f_X12_ofClerk
  rcases (show c = 0 ∨ c = 1 ∨ c = 2 ∨ c = 3 ∨ c = 4 by omega) with rfl | rfl | rfl | rfl | rfl
  · rw [if_pos (show nI 0 = (0 : Int32) from rfl), rd 3 3 rfl (by omega), m.1]; rfl
  · rw [if_neg (show ¬ nI 1 = (0 : Int32) by decide), if_pos (show nI 1 = (1 : Int32) from rfl), rd 17 17 rfl (by omega), m.2.1]; rfl
  · rw [if_neg (show ¬ nI 2 = (0 : Int32) by decide), if_neg (show ¬ nI 2 = (1 : Int32) by decide), if_pos (show nI 2 = (2 : Int32) from rfl), rd 10 10 rfl (by omega), m.2.2.1]; rfl
  · rw [if_neg (show ¬ nI 3 = (0 : Int32) by decide), if_neg (show ¬ nI 3 = (1 : Int32) by decide), if_neg (show ¬ nI 3 = (2 : Int32) by decide), if_pos (show nI 3 = (3 : Int32) from rfl), rd 24 24 rfl (by omega), m.2.2.2.1]; rfl
  · rw [if_neg (show ¬ nI 4 = (0 : Int32) by decide), if_neg (show ¬ nI 4 = (1 : Int32) by decide), if_neg (show ¬ nI 4 = (2 : Int32) by decide), if_neg (show ¬ nI 4 = (3 : Int32) by decide), rd 31 31 rfl (by omega), m.2.2.2.2]; rfl
theorem m_digest (M : MO w 0 o) (V : VO o) (tx : Int32) (ab be h0 : Int64) :
    f_X12_digest tx ab be h0 w = some (31 * (31 * (dgL 5 (oC o) (dgL 4 (oB o) (dgL 4 (oA o) (dgG (oG o) (dgT (oT o) (itr (fun i h => mixh h (cv o tx (nI i))) 10 0 1553)))))) + ab) + be, 31 * (31 * (dgL 5 (oC o) (dgL 4 (oB o) (dgL 4 (oA o) (dgG (oG o) (dgT (oT o) (itr (fun i h => mixh h (cv o tx (nI i))) 10 0 1553)))))) + ab) + be) := by
  have M0 := M
  obtain ⟨m1, m2, m3, m4, m5, m6, m7⟩ := M
  have V0 := V
  obtain ⟨v1, v2, v3, v4, v5, v6, v7⟩ := V
  have hn := v2.1.1
  have hg := v3.1
  have a4 := v4.1
  have a5 := v5.1
  have a6 := v6.1
  have c1 : w 1 = nI (gN (oG o)) := m3.1
  have c4 : w 47 = nI (oA o).1 := m4.1
  have c5 : w 68 = nI (oB o).1 := m5.1
  have c6 : w 93 = nI (oC o).1 := m6.1
  have e205 : ∀ h, f_X12_digest_205 tx ab be w FU h 0 = f_X12_digest_238 tx ab be w (dgL 5 (oC o) h) := fun h => lup0 (fun q h j => f_X12_digest_205 tx ab be w q h j) ((oC o).1 * 5) (Nat.lt_of_le_of_lt (show (oC o).1 * 5 ≤ 30 by omega) (by decide)) (fun i h => mixh h ((oC o).2 (i / 5) (i % 5))) (fun h => f_X12_digest_238 tx ab be w h) h
    (fun q i h hi => by
      show f_X12_digest_205 tx ab be w (q + 1) h (nI i) = _
      have ex : (5 : Int32) * nI (oC o).1 = nI ((oC o).1 * 5) := by rw [Nat.mul_comm]; exact pk_mul 5 _
      have ey : (94 : Int32) + nI i = nI (94 + i) := nI_add 94 i
      have ez : w (94 + i) = (oC o).2 (i / 5) (i % 5) := lw_at m6 (by omega) hi
      rw [f_X12_digest_205, chk_c 93 93 rfl (by omega), cl_c 93 93 rfl (by omega), c6, ex, if_neg (nI_ge hi (by omega)), ey, chk_n (by omega) (by omega), nI_clamp (by omega), ez, m_mix, ob1_s, nI_1, bnd_s])
    (fun q h => by
      show f_X12_digest_205 tx ab be w (q + 1) h (nI ((oC o).1 * 5)) = _
      have ex : (5 : Int32) * nI (oC o).1 = nI ((oC o).1 * 5) := by rw [Nat.mul_comm]; exact pk_mul 5 _
      rw [f_X12_digest_205, chk_c 93 93 rfl (by omega), cl_c 93 93 rfl (by omega), c6, ex, if_pos (nI_le (Nat.le_refl _) (by omega))])
  have e170 : ∀ h, f_X12_digest_170 tx ab be w FU h 0 = f_X12_digest_203 tx ab be w (dgL 4 (oB o) h) := fun h => lup0 (fun q h j => f_X12_digest_170 tx ab be w q h j) ((oB o).1 * 4) (Nat.lt_of_le_of_lt (show (oB o).1 * 4 ≤ 24 by omega) (by decide)) (fun i h => mixh h ((oB o).2 (i / 4) (i % 4))) (fun h => f_X12_digest_203 tx ab be w h) h
    (fun q i h hi => by
      show f_X12_digest_170 tx ab be w (q + 1) h (nI i) = _
      have ex : (4 : Int32) * nI (oB o).1 = nI ((oB o).1 * 4) := by rw [Nat.mul_comm]; exact pk_mul 4 _
      have ey : (69 : Int32) + nI i = nI (69 + i) := nI_add 69 i
      have ez : w (69 + i) = (oB o).2 (i / 4) (i % 4) := lw_at m5 (by omega) hi
      rw [f_X12_digest_170, chk_c 68 68 rfl (by omega), cl_c 68 68 rfl (by omega), c5, ex, if_neg (nI_ge hi (by omega)), ey, chk_n (by omega) (by omega), nI_clamp (by omega), ez, m_mix, ob1_s, nI_1, bnd_s])
    (fun q h => by
      show f_X12_digest_170 tx ab be w (q + 1) h (nI ((oB o).1 * 4)) = _
      have ex : (4 : Int32) * nI (oB o).1 = nI ((oB o).1 * 4) := by rw [Nat.mul_comm]; exact pk_mul 4 _
      rw [f_X12_digest_170, chk_c 68 68 rfl (by omega), cl_c 68 68 rfl (by omega), c5, ex, if_pos (nI_le (Nat.le_refl _) (by omega))])
  have e135 : ∀ h, f_X12_digest_135 tx ab be w FU h 0 = f_X12_digest_168 tx ab be w (dgL 4 (oA o) h) := fun h => lup0 (fun q h j => f_X12_digest_135 tx ab be w q h j) ((oA o).1 * 4) (Nat.lt_of_le_of_lt (show (oA o).1 * 4 ≤ 20 by omega) (by decide)) (fun i h => mixh h ((oA o).2 (i / 4) (i % 4))) (fun h => f_X12_digest_168 tx ab be w h) h
    (fun q i h hi => by
      show f_X12_digest_135 tx ab be w (q + 1) h (nI i) = _
      have ex : (4 : Int32) * nI (oA o).1 = nI ((oA o).1 * 4) := by rw [Nat.mul_comm]; exact pk_mul 4 _
      have ey : (48 : Int32) + nI i = nI (48 + i) := nI_add 48 i
      have ez : w (48 + i) = (oA o).2 (i / 4) (i % 4) := lw_at m4 (by omega) hi
      rw [f_X12_digest_135, chk_c 47 47 rfl (by omega), cl_c 47 47 rfl (by omega), c4, ex, if_neg (nI_ge hi (by omega)), ey, chk_n (by omega) (by omega), nI_clamp (by omega), ez, m_mix, ob1_s, nI_1, bnd_s])
    (fun q h => by
      show f_X12_digest_135 tx ab be w (q + 1) h (nI ((oA o).1 * 4)) = _
      have ex : (4 : Int32) * nI (oA o).1 = nI ((oA o).1 * 4) := by rw [Nat.mul_comm]; exact pk_mul 4 _
      rw [f_X12_digest_135, chk_c 47 47 rfl (by omega), cl_c 47 47 rfl (by omega), c4, ex, if_pos (nI_le (Nat.le_refl _) (by omega))])
  have e75 : ∀ h, f_X12_digest_75 tx ab be w FU h 0 = f_X12_digest_133 tx ab be w (dgG (oG o) h) := fun h => lup0 (fun q h j => f_X12_digest_75 tx ab be w q h j) (gN (oG o)) (Nat.lt_of_le_of_lt hg (by decide)) (fun k h => mixh (mixh (mixh h (nI (gK (oG o) k))) (nI (gD (oG o) k))) (nI (gP (oG o) k))) (fun h => f_X12_digest_133 tx ab be w h) h
    (fun q k h hk => by
      show f_X12_digest_75 tx ab be w (q + 1) h (nI k) = _
      have m := m3.2 k hk
      rw [Nat.zero_add, Nat.zero_add, Nat.zero_add] at m
      have e1 : (38 : Int32) + nI k = nI (38 + k) := nI_add 38 k
      have e2 : (41 : Int32) + nI k = nI (41 + k) := nI_add 41 k
      have e3 : (44 : Int32) + nI k = nI (44 + k) := nI_add 44 k
      rw [f_X12_digest_75, chk_c 1 1 rfl (by omega), cl_c 1 1 rfl (by omega), c1, if_neg (nI_ge hk (by omega)), e1, chk_n (by omega) (by omega), nI_clamp (by omega), m.1, m_mix, ob1_s, e2, chk_n (by omega) (by omega), nI_clamp (by omega), m.2.1, m_mix, ob1_s, e3, chk_n (by omega) (by omega), nI_clamp (by omega), m.2.2, m_mix, ob1_s, nI_1, bnd_s])
    (fun q h => by
      show f_X12_digest_75 tx ab be w (q + 1) h (nI (gN (oG o))) = _
      rw [f_X12_digest_75, chk_c 1 1 rfl (by omega), cl_c 1 1 rfl (by omega), c1, if_pos (nI_le (Nat.le_refl _) (by omega))])
  have e33 : ∀ h, f_X12_digest_33 tx ab be w FU h 0 = f_X12_digest_73 tx ab be w (dgT (oT o) h) := fun h => lup0 (fun q h j => f_X12_digest_33 tx ab be w q h j) (tN (oT o)) (Nat.lt_of_le_of_lt hn (by decide)) (fun k h => mixh (mixh (mixh (mixh (mixh h (nI (tK (oT o) k))) (nI (tD (oT o) k))) (nI (tW (oT o) k))) (nI (tU (oT o) k))) (onv (tO (oT o) k))) (fun h => f_X12_digest_73 tx ab be w h) h
    (fun q k h hk => by
      show f_X12_digest_33 tx ab be w (q + 1) h (nI k) = _
      have oc := m_ofClerk m2 hn hk
      have e := lup0 (fun p h j => f_X12_digest_45 tx ab be w (f_X12_digest_33 tx ab be w q) p h (nI k) j) 5 (by decide) (fun c h => mixh h (if c = 0 then nI (tK (oT o) k) else if c = 1 then nI (tD (oT o) k) else if c = 2 then nI (tW (oT o) k) else if c = 3 then nI (tU (oT o) k) else onv (tO (oT o) k))) (fun h => f_X12_digest_67 tx ab be w (f_X12_digest_33 tx ab be w q) h (nI k)) h
        (fun p c h hc => by
          show f_X12_digest_45 tx ab be w (f_X12_digest_33 tx ab be w q) (p + 1) h (nI k) (nI c) = _
          rw [f_X12_digest_45, if_neg (show ¬ (5 : Int32) ≤ nI c from nI_ge (b := 5) hc (by omega)), oc c hc, ob1_s, m_mix, ob1_s, nI_1, bnd_s])
        (fun p h => by
          show f_X12_digest_45 tx ab be w (f_X12_digest_33 tx ab be w q) (p + 1) h (nI k) (nI 5) = _
          rw [f_X12_digest_45, if_pos (show (5 : Int32) ≤ nI 5 by decide)])
      rw [f_X12_digest_33, chk_0 (by decide) (by decide), cl_0, m2.1, if_neg (nI_ge hk (by omega))]
      refine e.trans ?_
      unfold f_X12_digest_67
      rw [nI_1, bnd_s]
      rfl)
    (fun q h => by
      show f_X12_digest_33 tx ab be w (q + 1) h (nI (tN (oT o))) = _
      rw [f_X12_digest_33, chk_0 (by decide) (by decide), cl_0, m2.1, if_pos (nI_le (Nat.le_refl _) (by omega))])
  have e9 : f_X12_digest_9 tx ab be w FU 1553 0 = f_X12_digest_31 tx ab be w (itr (fun i h => mixh h (cv o tx (nI i))) 10 0 1553) := lup0 (fun q h j => f_X12_digest_9 tx ab be w q h j) 10 (by decide) (fun i h => mixh h (cv o tx (nI i))) (fun h => f_X12_digest_31 tx ab be w h) 1553
    (fun q i h hi => by
      show f_X12_digest_9 tx ab be w (q + 1) h (nI i) = _
      rw [f_X12_digest_9, if_neg (show ¬ (10 : Int32) ≤ nI i from nI_ge (b := 10) hi (by omega)), m_cv M0 V0, ob1_s, m_mix, ob1_s, nI_1, bnd_s])
    (fun q h => by
      show f_X12_digest_9 tx ab be w (q + 1) h (nI 10) = _
      rw [f_X12_digest_9, if_pos (show (10 : Int32) ≤ nI 10 by decide)])
  unfold f_X12_digest
  rw [e9]
  unfold f_X12_digest_31
  rw [e33]
  unfold f_X12_digest_73
  rw [e75]
  unfold f_X12_digest_133
  rw [e135]
  unfold f_X12_digest_168
  rw [e170]
  unfold f_X12_digest_203
  rw [e205]
  rfl
end CU
/-! part, type, clear -/
theorem c_part_eq (ab be : Int64) (st st2 : Nat → Int32) (x1 : Int32) :
    ∃ (r : Int64) (c : Option Nat), f_X11_part ab be st x1 = some (r, stx c st) ∧ f_X12_part ab be st2 x1 = some (r, stx c st2) ∧ (∀ i, c = some i → i < 3) := by
  unfold f_X11_part f_X12_part
  rw [x_within, ob1_s]
  by_cases h0 : x1 = 0
  · rw [if_pos h0, h0, if_pos (show (0 : Int32).toInt ≤ (0 : Int32).toInt ∧ (0 : Int32).toInt ≤ (1 : Int32).toInt by decide), if_neg one_ne, if_pos rfl]
    exact ⟨_, none, rfl, rfl, fun i hi => by cases hi⟩
  · by_cases h1 : x1 = 1
    · rw [if_neg h0, if_neg h0, if_pos h1, h1, if_pos (show (0 : Int32).toInt ≤ (1 : Int32).toInt ∧ (1 : Int32).toInt ≤ (1 : Int32).toInt by decide), if_neg one_ne]
      exact ⟨_, none, rfl, rfl, fun i hi => by cases hi⟩
    · have hx : ¬ ((0 : Int32).toInt ≤ x1.toInt ∧ x1.toInt ≤ (1 : Int32).toInt) := by
        intro h
        have h : 0 ≤ x1.toInt ∧ x1.toInt ≤ 1 := h
        obtain ⟨k, rfl, hk, -⟩ := nat_of h.1
        rcases (show k = 0 ∨ k = 1 by omega) with rfl | rfl
        · exact h0 rfl
        · exact h1 rfl
      rw [if_neg hx, if_pos rfl, if_neg h0, if_neg h1, x_bad, m_bad, ob2_s, ob2_s]
      refine ⟨_, some 0, rfl, rfl, fun i hi => ?_⟩
      injection hi with hi; omega
/-- the text, both sides -/
def RT (tl : Int32) (tb : Nat → Int32) (tx : Int32) (xb : Nat → Int32) : Prop := ∃ n, n ≤ 150 ∧ tl = nI n ∧ tx = nI n ∧ tb = xb ∧ ∀ i, i < n → ∃ c, c ≤ 127 ∧ tb i = nI c
theorem c_type_eq {tl tx : Int32} {tb xb : Nat → Int32} (R : RT tl tb tx xb) (st st2 : Nat → Int32) (x1 : Int32) :
    ∃ (r : Int32) (c : Option Nat) (tl' : Int32) (tb' : Nat → Int32) (tx' : Int32) (xb' : Nat → Int32), f_X11_type tl tb st x1 = some (r, tl', tb', stx c st) ∧ f_X12_type tx xb st2 x1 = some (r, tx', xb', stx c st2) ∧ (∀ i, c = some i → i < 3) ∧ RT tl' tb' tx' xb' := by
  have R0 := R
  obtain ⟨n, hn, rfl, rfl, rfl, h⟩ := R
  unfold f_X11_type f_X12_type f_X9_isFull
  rw [x_within, m_in, ob1_s, ob1_s, show (0 : Int32).toInt = (0 : Int64).toInt from rfl, show (127 : Int32).toInt = (127 : Int64).toInt from rfl]
  by_cases h2 : (0 : Int64).toInt ≤ x1.toInt ∧ x1.toInt ≤ (127 : Int64).toInt
  · rw [if_pos h2, if_neg one_ne, if_neg one_ne]
    have h2 : 0 ≤ x1.toInt ∧ x1.toInt ≤ 127 := h2
    obtain ⟨c, rfl, hc, -⟩ := nat_of h2.1
    by_cases z : n < 150
    · unfold f_X9_append
      rw [if_pos (show nI n < (150 : Int32) from nI_lt (b := 150) z (by omega)), ob1_s, if_pos rfl, if_neg (show ¬ nI n = (150 : Int32) from fun q => by have := (nI_eq (b := 150) (by omega) (by omega)).mp q; omega), setc_in tb _ z (by omega), ob1_s, nI_1, bnd_s, ob3_s, chk_n z (by omega), nI_clamp (by omega), bnd_s, bnd_s]
      refine ⟨_, none, _, _, _, _, rfl, rfl, fun i hi => (by cases hi), n + 1, by omega, rfl, rfl, rfl, fun i hi => ?_⟩
      by_cases y : i = n
      · rw [y, pk_us]; exact ⟨c, by omega, rfl⟩
      · rw [pk_un y]; exact h i (by omega)
    · rw [if_neg (show ¬ nI n < (150 : Int32) from nI_nlt (b := 150) (by omega) (by omega)), ob1_s, if_neg one_ne, if_pos (show nI n = (150 : Int32) by rw [show n = 150 by omega]; rfl), x_full, m_full, ob2_s, ob2_s]
      refine ⟨-4, some 2, _, tb, _, tb, rfl, rfl, fun i hi => ?_, R0⟩
      injection hi with hi; omega
  · rw [if_neg h2, if_pos rfl, if_pos rfl, x_bad, m_bad, ob2_s, ob2_s]
    refine ⟨-2, some 0, _, tb, _, tb, rfl, rfl, fun i hi => ?_, R0⟩
    injection hi with hi; omega
theorem c_clear_eq {tl tx : Int32} {tb xb : Nat → Int32} (R : RT tl tb tx xb) : ∃ r, f_X11_clear tl = some (r, 0) ∧ f_X12_clear tx = some (r, 0) ∧ RT 0 tb 0 xb := by
  obtain ⟨n, hn, rfl, rfl, hx, h⟩ := R
  exact ⟨nI n, rfl, rfl, 0, by omega, rfl, rfl, hx, fun i hi => absurd hi (Nat.not_lt_zero i)⟩
/-- the text's bytes as numbers -/
def tbs (tb : Nat → Int32) (i : Nat) : Nat := (tb i).toNatClampNeg
