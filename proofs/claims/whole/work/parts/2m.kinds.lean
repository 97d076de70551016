/-! ===== the calls is and kinds, both sides ===== -/
def b2i (b : Bool) : Int32 := if b then 1 else 0
theorem b2i_0 {b : Bool} : b2i b = 0 ↔ b = false := by cases b <;> decide
theorem b2i_and (b : Bool) : b2i b &&& 1 = b2i b := by cases b <;> decide
theorem b2i_and0 (b : Bool) : b2i b &&& 0 = b2i false := by cases b <;> decide
noncomputable def LG (k a b : Int32) : Int32 := (f_X4_letsGo k a b).getD 0
noncomputable def PG (k p f d : Int32) : Int32 := (f_X4_pulls k p f d).getD 0
theorem x_LG {k a b : Nat} (hk : k < 6) (h1 : 1 ≤ a) (h2 : a ≤ 20) (hb : b ≤ 99) : f_X4_letsGo (nI k) (nI a) (nI b) = some (LG (nI k) (nI a) (nI b)) := by
  have e := x_go_dec k hk a (by omega) b (by omega) (by omega)
  unfold LG
  rw [e]; rfl
theorem m_LG {k a b : Nat} (hk : k < 6) (h1 : 1 ≤ a) (h2 : a ≤ 20) (hb : b ≤ 99) : f_X12_goesOn (nI k) (nI a) (nI b) = some (LG (nI k) (nI a) (nI b)) := by
  have e := x_go_dec k hk a (by omega) b (by omega) (by omega)
  unfold LG
  rw [e, m_go_dec k hk a (by omega) b (by omega) (by omega)]; rfl
theorem x_PG {k p f d : Nat} (hk : k < 6) (hp : p < 10) (hf : f < 12) (hd : d < 2 ^ 31) : f_X4_pulls (nI k) (nI p) (nI f) (nI d) = some (PG (nI k) (nI p) (nI f) (nI d)) := by
  unfold PG
  rw [x_pull hk hp hf hd]; rfl
theorem m_PG {k p f d : Nat} (hk : k < 6) (hp : p < 10) (hf : f < 12) (hd : d < 2 ^ 31) : f_X12_pullOf (nI k) (nI p) (nI f) (nI d) = some (PG (nI k) (nI p) (nI f) (nI d)) := by
  unfold PG
  rw [x_pull hk hp hf hd, m_pull hk hp hf hd]; rfl
def allN (p : Nat → Bool) (n : Nat) : Bool := itr (fun i b => b && p i) n 0 true
noncomputable def cndB (a : Ls) (v : Int32) (k i : Nat) : Bool := if a.2 i 0 = v then decide (LG (nI k) (a.2 i 1) (a.2 i 2) = a.2 i 3) else true
noncomputable def cndC (a : Ls) (v : Int32) (k i : Nat) : Bool := if a.2 i 0 = v then decide (PG (nI k) (a.2 i 1) (a.2 i 2) (a.2 i 3) = a.2 i 4) else true
noncomputable def kmB (a : Ls) (v : Int32) : Nat := mk (fun k => allN (cndB a v k) a.1) 6
noncomputable def kmC (a : Ls) (v : Int32) : Nat := mk (fun k => allN (cndC a v k) a.1) 6
theorem kmB_lt (a : Ls) (v : Int32) : kmB a v < 64 := Nat.lt_of_lt_of_le (mk_lt _ _) (by decide)
theorem kmC_lt (a : Ls) (v : Int32) : kmC a v < 64 := Nat.lt_of_lt_of_le (mk_lt _ _) (by decide)
theorem l_get {W N : Nat} {f : Nat → Int32} {a : Ls} (X : XL W f a) (hs : a.1 < 1000) (hW : W < 1000) (hN : a.1 * W ≤ N) (hNb : N < 2 ^ 31) {i c : Nat} (hi : i < a.1) (hc : c < W) {C S V : Int32} (hC : C = nI c) (hS : S = nI a.1) (hV : V = nI W) : f_X7_get V S N f (nI i) C = some (a.2 i c) := by
  have h1 : i * W + W ≤ a.1 * W := by
    have := Nat.mul_le_mul_right W (show i + 1 ≤ a.1 from hi)
    rw [Nat.add_mul, Nat.one_mul] at this
    exact this
  rw [hC, hS, hV, get_in hi hs hc hW (by omega) hNb, X i hi c hc]
theorem l_get4 {N : Nat} {f : Nat → Int32} {a : Ls} (X : XL 4 f a) (hs : a.1 < 100) (hN : a.1 * 4 ≤ N) (hNb : N < 2 ^ 31) {i : Nat} (hi : i < a.1) (c : Nat) (C : Int32) (hc : c < 4) (hC : C = nI c) : f_X7_get 4 (nI a.1) N f (nI i) C = some (a.2 i c) := l_get X (by omega) (by omega) hN hNb hi hc hC rfl rfl
theorem l_get5 {N : Nat} {f : Nat → Int32} {a : Ls} (X : XL 5 f a) (hs : a.1 < 100) (hN : a.1 * 5 ≤ N) (hNb : N < 2 ^ 31) {i : Nat} (hi : i < a.1) (c : Nat) (C : Int32) (hc : c < 5) (hC : C = nI c) : f_X7_get 5 (nI a.1) N f (nI i) C = some (a.2 i c) := l_get X (by omega) (by omega) hN hNb hi hc hC rfl rfl
section KB
variable {f w : Nat → Int32} {a : Ls} {n : Nat}
theorem x_kinds (X : XL 4 f a) (V : VB n a) (v : Int32) : f_X3_clerkKinds 4 (nI a.1) 24 f v = some (nI (kmB a v)) := by
  have h6 := V.1
  unfold f_X3_clerkKinds
  refine mask_loop (fun g m k => f_X3_clerkKinds_4 4 (nI a.1) 24 f g v (nI m) k) 6 (by omega) (fun k => allN (cndB a v k) a.1) (fun m => some (nI m)) (fun g i m hi => ?_) (fun g m => ?_)
  · show f_X3_clerkKinds_4 4 (nI a.1) 24 f (g + 1) v (nI m) (nI i) = _
    rw [f_X3_clerkKinds_4, if_neg (show ¬ (6 : Int32) ≤ nI i from nI_ge (b := 6) hi (by omega))]
    have e := lup0 (fun q b j => f_X3_clerkKinds_16 4 (nI a.1) 24 f (f_X3_clerkKinds_4 4 (nI a.1) 24 f g) q v (nI m) (nI i) (b2i b) j) a.1 (Nat.lt_of_le_of_lt h6 (by decide)) (fun j b => b && cndB a v i j) (fun b => f_X3_clerkKinds_84 4 (nI a.1) 24 f (f_X3_clerkKinds_4 4 (nI a.1) 24 f g) v (nI m) (nI i) (b2i b)) true (fun q j b hj => ?_) (fun q b => ?_)
    · have e : f_X3_clerkKinds_16 4 (nI a.1) 24 f (f_X3_clerkKinds_4 4 (nI a.1) 24 f g) FU v (nI m) (nI i) 1 0 = f_X3_clerkKinds_84 4 (nI a.1) 24 f (f_X3_clerkKinds_4 4 (nI a.1) 24 f g) v (nI m) (nI i) (b2i (allN (cndB a v i) a.1)) := e
      rw [e]
      unfold f_X3_clerkKinds_84 f_X3_clerkKinds_97
      by_cases z : allN (cndB a v i) a.1 = true
      · rw [if_pos z, if_neg (fun q => by rw [b2i_0.mp q] at z; exact Bool.noConfusion z), kb_shl (by omega), kb_orp, bnd_s, nI_1, bnd_s]
      · have z' : allN (cndB a v i) a.1 = false := by cases h : allN (cndB a v i) a.1 with
          | false => rfl
          | true => exact absurd h z
        rw [if_neg z, if_pos (b2i_0.mpr z'), kb_oro, bnd_s, nI_1, bnd_s]
    · show f_X3_clerkKinds_16 4 (nI a.1) 24 f (f_X3_clerkKinds_4 4 (nI a.1) 24 f g) (q + 1) v (nI m) (nI i) (b2i b) (nI j) = _
      obtain ⟨x, y, z, u, a0, a1, a2, a3, b1, b2, b3, b4, b5⟩ := V.2 j hj
      rw [f_X3_clerkKinds_16, x_size, ob1_s, if_neg (nI_ge hj (by omega)), l_get4 X (by omega) (by omega) (by omega) hj 1 1 (by omega) rfl, ob1_s, l_get4 X (by omega) (by omega) (by omega) hj 2 2 (by omega) rfl, ob1_s, a1, a2, x_LG hi b2 b3 b4, ob1_s, l_get4 X (by omega) (by omega) (by omega) hj 0 0 (by omega) rfl, ob1_s]
      unfold f_X3_clerkKinds_70 f_X3_clerkKinds_75
      by_cases y0 : a.2 j 0 = v
      · rw [if_pos y0, l_get4 X (by omega) (by omega) (by omega) hj 3 3 (by omega) rfl, ob1_s]
        have ec : cndB a v i j = decide (LG (nI i) (nI y) (nI z) = a.2 j 3) := by unfold cndB; rw [if_pos y0, a1, a2]
        by_cases y1 : LG (nI i) (nI y) (nI z) = a.2 j 3
        · rw [if_pos y1, b2i_and, bnd_s, nI_1, bnd_s, ec, decide_eq_true y1, Bool.and_true]
        · rw [if_neg y1, b2i_and0, bnd_s, nI_1, bnd_s, ec, decide_eq_false y1, Bool.and_false]
      · have ec : cndB a v i j = true := by unfold cndB; rw [if_neg y0]
        rw [if_neg y0, b2i_and, bnd_s, nI_1, bnd_s, ec, Bool.and_true]
    · show f_X3_clerkKinds_16 4 (nI a.1) 24 f (f_X3_clerkKinds_4 4 (nI a.1) 24 f g) (q + 1) v (nI m) (nI i) (b2i b) (nI a.1) = _
      rw [f_X3_clerkKinds_16, x_size, ob1_s, if_pos (nI_le (Nat.le_refl _) (by omega))]
  · show f_X3_clerkKinds_4 4 (nI a.1) 24 f (g + 1) v (nI m) (nI 6) = _
    rw [f_X3_clerkKinds_4, if_pos (show (6 : Int32) ≤ nI 6 by decide)]
theorem m_kinds (M : ML 4 68 69 w a) (V : VB n a) (v : Int32) : f_X12_kindsOf w v = some (nI (kmB a v)) := by
  have h6 := V.1
  have hc := M.1
  unfold f_X12_kindsOf
  refine mask_loop (fun g m k => f_X12_kindsOf_4 w g v (nI m) k) 6 (by omega) (fun k => allN (cndB a v k) a.1) (fun m => some (nI m)) (fun g i m hi => ?_) (fun g m => ?_)
  · show f_X12_kindsOf_4 w (g + 1) v (nI m) (nI i) = _
    rw [f_X12_kindsOf_4, if_neg (show ¬ (6 : Int32) ≤ nI i from nI_ge (b := 6) hi (by omega))]
    have e := lup0 (fun q b j => f_X12_kindsOf_16 w (f_X12_kindsOf_4 w g) q v (nI m) (nI i) (b2i b) j) a.1 (Nat.lt_of_le_of_lt h6 (by decide)) (fun j b => b && cndB a v i j) (fun b => f_X12_kindsOf_100 w (f_X12_kindsOf_4 w g) v (nI m) (nI i) (b2i b)) true (fun q j b hj => ?_) (fun q b => ?_)
    · have e : f_X12_kindsOf_16 w (f_X12_kindsOf_4 w g) FU v (nI m) (nI i) 1 0 = f_X12_kindsOf_100 w (f_X12_kindsOf_4 w g) v (nI m) (nI i) (b2i (allN (cndB a v i) a.1)) := e
      rw [e]
      unfold f_X12_kindsOf_100 f_X12_kindsOf_113
      by_cases z : allN (cndB a v i) a.1 = true
      · rw [if_pos z, if_neg (fun q => by rw [b2i_0.mp q] at z; exact Bool.noConfusion z), kb_shl (by omega), kb_orp, bnd_s, nI_1, bnd_s]
      · have z' : allN (cndB a v i) a.1 = false := by cases h : allN (cndB a v i) a.1 with
          | false => rfl
          | true => exact absurd h z
        rw [if_neg z, if_pos (b2i_0.mpr z'), kb_oro, bnd_s, nI_1, bnd_s]
    · show f_X12_kindsOf_16 w (f_X12_kindsOf_4 w g) (q + 1) v (nI m) (nI i) (b2i b) (nI j) = _
      obtain ⟨x, y, z, u, a0, a1, a2, a3, b1, b2, b3, b4, b5⟩ := V.2 j hj
      have r0 : w (69 + 4 * j) = a.2 j 0 := M.2 j hj 0 (by omega)
      have r1 : w (69 + 4 * j + 1) = a.2 j 1 := M.2 j hj 1 (by omega)
      have r2 : w (69 + 4 * j + 2) = a.2 j 2 := M.2 j hj 2 (by omega)
      have r3 : w (69 + 4 * j + 3) = a.2 j 3 := M.2 j hj 3 (by omega)
      have eb : (69 : Int32) + 4 * nI j = nI (69 + 4 * j) := by
        have e : (4 : Int32) * nI j = nI (4 * j) := pk_mul 4 _
        rw [e]; exact nI_add 69 _
      rw [f_X12_kindsOf_16, chk_c 68 68 rfl (by omega), cl_c 68 68 rfl (by omega), hc, if_neg (nI_ge hj (by omega)), eb, bnd_s]
      unfold f_X12_kindsOf_91 f_X12_kindsOf_87 f_X12_kindsOf_92
      cases b with
      | false => rw [if_pos (b2i_0.mpr rfl), nI_1, bnd_s]; rfl
      | true =>
        rw [if_neg (show ¬ b2i true = 0 by decide), Bool.true_and, chk_n (by omega) (by omega), nI_clamp (by omega), r0]
        by_cases y0 : a.2 j 0 = v
        · have ec : cndB a v i j = decide (LG (nI i) (nI y) (nI z) = a.2 j 3) := by unfold cndB; rw [if_pos y0, a1, a2]
          rw [if_pos y0, nI_1, nI_2', nI_3', chk_n (by omega) (by omega), chk_n (by omega) (by omega), nI_clamp (by omega), nI_clamp (by omega), r1, r2, a1, a2, m_LG hi b2 b3 b4, ob1_s, chk_n (by omega) (by omega), nI_clamp (by omega), r3]
          by_cases y1 : LG (nI i) (nI y) (nI z) = a.2 j 3
          · rw [if_pos y1, nI_1, bnd_s, ec, decide_eq_true y1]; rfl
          · rw [if_neg y1, nI_1, bnd_s, ec, decide_eq_false y1]; rfl
        · have ec : cndB a v i j = true := by unfold cndB; rw [if_neg y0]
          rw [if_neg y0, nI_1, bnd_s, ec]; rfl
    · show f_X12_kindsOf_16 w (f_X12_kindsOf_4 w g) (q + 1) v (nI m) (nI i) (b2i b) (nI a.1) = _
      rw [f_X12_kindsOf_16, chk_c 68 68 rfl (by omega), cl_c 68 68 rfl (by omega), hc, if_pos (nI_le (Nat.le_refl _) (by omega))]
  · show f_X12_kindsOf_4 w (g + 1) v (nI m) (nI 6) = _
    rw [f_X12_kindsOf_4, if_pos (show (6 : Int32) ≤ nI 6 by decide)]
theorem x_gkinds (X : XL 5 f a) (V : VC n a) (v : Int32) : f_X3_magnetKinds 5 (nI a.1) 30 f v = some (nI (kmC a v)) := by
  have h6 := V.1
  unfold f_X3_magnetKinds
  refine mask_loop (fun g m k => f_X3_magnetKinds_4 5 (nI a.1) 30 f g v (nI m) k) 6 (by omega) (fun k => allN (cndC a v k) a.1) (fun m => some (nI m)) (fun g i m hi => ?_) (fun g m => ?_)
  · show f_X3_magnetKinds_4 5 (nI a.1) 30 f (g + 1) v (nI m) (nI i) = _
    rw [f_X3_magnetKinds_4, if_neg (show ¬ (6 : Int32) ≤ nI i from nI_ge (b := 6) hi (by omega))]
    have e := lup0 (fun q b j => f_X3_magnetKinds_16 5 (nI a.1) 30 f (f_X3_magnetKinds_4 5 (nI a.1) 30 f g) q v (nI m) (nI i) (b2i b) j) a.1 (Nat.lt_of_le_of_lt h6 (by decide)) (fun j b => b && cndC a v i j) (fun b => f_X3_magnetKinds_91 5 (nI a.1) 30 f (f_X3_magnetKinds_4 5 (nI a.1) 30 f g) v (nI m) (nI i) (b2i b)) true (fun q j b hj => ?_) (fun q b => ?_)
    · have e : f_X3_magnetKinds_16 5 (nI a.1) 30 f (f_X3_magnetKinds_4 5 (nI a.1) 30 f g) FU v (nI m) (nI i) 1 0 = f_X3_magnetKinds_91 5 (nI a.1) 30 f (f_X3_magnetKinds_4 5 (nI a.1) 30 f g) v (nI m) (nI i) (b2i (allN (cndC a v i) a.1)) := e
      rw [e]
      unfold f_X3_magnetKinds_91 f_X3_magnetKinds_104
      by_cases z : allN (cndC a v i) a.1 = true
      · rw [if_pos z, if_neg (fun q => by rw [b2i_0.mp q] at z; exact Bool.noConfusion z), kb_shl (by omega), kb_orp, bnd_s, nI_1, bnd_s]
      · have z' : allN (cndC a v i) a.1 = false := by cases h : allN (cndC a v i) a.1 with
          | false => rfl
          | true => exact absurd h z
        rw [if_neg z, if_pos (b2i_0.mpr z'), kb_oro, bnd_s, nI_1, bnd_s]
    · show f_X3_magnetKinds_16 5 (nI a.1) 30 f (f_X3_magnetKinds_4 5 (nI a.1) 30 f g) (q + 1) v (nI m) (nI i) (b2i b) (nI j) = _
      obtain ⟨x, y, z, u, a0, a1, a2, a3, b1, b2, b3, b4, b5⟩ := V.2 j hj
      rw [f_X3_magnetKinds_16, x_size, ob1_s, if_neg (nI_ge hj (by omega)), l_get5 X (by omega) (by omega) (by omega) hj 1 1 (by omega) rfl, ob1_s, l_get5 X (by omega) (by omega) (by omega) hj 2 2 (by omega) rfl, ob1_s, l_get5 X (by omega) (by omega) (by omega) hj 3 3 (by omega) rfl, ob1_s, a1, a2, a3, x_PG hi (by omega) (by omega) (by omega), ob1_s, l_get5 X (by omega) (by omega) (by omega) hj 0 0 (by omega) rfl, ob1_s]
      unfold f_X3_magnetKinds_77 f_X3_magnetKinds_82
      by_cases y0 : a.2 j 0 = v
      · rw [if_pos y0, l_get5 X (by omega) (by omega) (by omega) hj 4 4 (by omega) rfl, ob1_s]
        have ec : cndC a v i j = decide (PG (nI i) (nI y) (nI z) (nI u) = a.2 j 4) := by unfold cndC; rw [if_pos y0, a1, a2, a3]
        by_cases y1 : PG (nI i) (nI y) (nI z) (nI u) = a.2 j 4
        · rw [if_pos y1, b2i_and, bnd_s, nI_1, bnd_s, ec, decide_eq_true y1, Bool.and_true]
        · rw [if_neg y1, b2i_and0, bnd_s, nI_1, bnd_s, ec, decide_eq_false y1, Bool.and_false]
      · have ec : cndC a v i j = true := by unfold cndC; rw [if_neg y0]
        rw [if_neg y0, b2i_and, bnd_s, nI_1, bnd_s, ec, Bool.and_true]
    · show f_X3_magnetKinds_16 5 (nI a.1) 30 f (f_X3_magnetKinds_4 5 (nI a.1) 30 f g) (q + 1) v (nI m) (nI i) (b2i b) (nI a.1) = _
      rw [f_X3_magnetKinds_16, x_size, ob1_s, if_pos (nI_le (Nat.le_refl _) (by omega))]
  · show f_X3_magnetKinds_4 5 (nI a.1) 30 f (g + 1) v (nI m) (nI 6) = _
    rw [f_X3_magnetKinds_4, if_pos (show (6 : Int32) ≤ nI 6 by decide)]
theorem m_gkinds (M : ML 5 93 94 w a) (V : VC n a) (v : Int32) : f_X12_magnetsOf w v = some (nI (kmC a v)) := by
  have h6 := V.1
  have hc := M.1
  unfold f_X12_magnetsOf
  refine mask_loop (fun g m k => f_X12_magnetsOf_4 w g v (nI m) k) 6 (by omega) (fun k => allN (cndC a v k) a.1) (fun m => some (nI m)) (fun g i m hi => ?_) (fun g m => ?_)
  · show f_X12_magnetsOf_4 w (g + 1) v (nI m) (nI i) = _
    rw [f_X12_magnetsOf_4, if_neg (show ¬ (6 : Int32) ≤ nI i from nI_ge (b := 6) hi (by omega))]
    have e := lup0 (fun q b j => f_X12_magnetsOf_16 w (f_X12_magnetsOf_4 w g) q v (nI m) (nI i) (b2i b) j) a.1 (Nat.lt_of_le_of_lt h6 (by decide)) (fun j b => b && cndC a v i j) (fun b => f_X12_magnetsOf_109 w (f_X12_magnetsOf_4 w g) v (nI m) (nI i) (b2i b)) true (fun q j b hj => ?_) (fun q b => ?_)
    · have e : f_X12_magnetsOf_16 w (f_X12_magnetsOf_4 w g) FU v (nI m) (nI i) 1 0 = f_X12_magnetsOf_109 w (f_X12_magnetsOf_4 w g) v (nI m) (nI i) (b2i (allN (cndC a v i) a.1)) := e
      rw [e]
      unfold f_X12_magnetsOf_109 f_X12_magnetsOf_122
      by_cases z : allN (cndC a v i) a.1 = true
      · rw [if_pos z, if_neg (fun q => by rw [b2i_0.mp q] at z; exact Bool.noConfusion z), kb_shl (by omega), kb_orp, bnd_s, nI_1, bnd_s]
      · have z' : allN (cndC a v i) a.1 = false := by cases h : allN (cndC a v i) a.1 with
          | false => rfl
          | true => exact absurd h z
        rw [if_neg z, if_pos (b2i_0.mpr z'), kb_oro, bnd_s, nI_1, bnd_s]
    · show f_X12_magnetsOf_16 w (f_X12_magnetsOf_4 w g) (q + 1) v (nI m) (nI i) (b2i b) (nI j) = _
      obtain ⟨x, y, z, u, a0, a1, a2, a3, b1, b2, b3, b4, b5⟩ := V.2 j hj
      have r0 : w (94 + 5 * j) = a.2 j 0 := M.2 j hj 0 (by omega)
      have r1 : w (94 + 5 * j + 1) = a.2 j 1 := M.2 j hj 1 (by omega)
      have r2 : w (94 + 5 * j + 2) = a.2 j 2 := M.2 j hj 2 (by omega)
      have r3 : w (94 + 5 * j + 3) = a.2 j 3 := M.2 j hj 3 (by omega)
      have r4 : w (94 + 5 * j + 4) = a.2 j 4 := M.2 j hj 4 (by omega)
      have eb : (94 : Int32) + 5 * nI j = nI (94 + 5 * j) := by
        have e : (5 : Int32) * nI j = nI (5 * j) := pk_mul 5 _
        rw [e]; exact nI_add 94 _
      rw [f_X12_magnetsOf_16, chk_c 93 93 rfl (by omega), cl_c 93 93 rfl (by omega), hc, if_neg (nI_ge hj (by omega)), eb, bnd_s]
      unfold f_X12_magnetsOf_100 f_X12_magnetsOf_96 f_X12_magnetsOf_101
      cases b with
      | false => rw [if_pos (b2i_0.mpr rfl), nI_1, bnd_s]; rfl
      | true =>
        rw [if_neg (show ¬ b2i true = 0 by decide), Bool.true_and, chk_n (by omega) (by omega), nI_clamp (by omega), r0]
        by_cases y0 : a.2 j 0 = v
        · have ec : cndC a v i j = decide (PG (nI i) (nI y) (nI z) (nI u) = a.2 j 4) := by unfold cndC; rw [if_pos y0, a1, a2, a3]
          rw [if_pos y0, nI_1, nI_2', nI_3', nI_4', chk_n (by omega) (by omega), chk_n (by omega) (by omega), chk_n (by omega) (by omega), nI_clamp (by omega), nI_clamp (by omega), nI_clamp (by omega), r1, r2, r3, a1, a2, a3, m_PG hi (by omega) (by omega) (by omega), ob1_s, chk_n (by omega) (by omega), nI_clamp (by omega), r4]
          by_cases y1 : PG (nI i) (nI y) (nI z) (nI u) = a.2 j 4
          · rw [if_pos y1, nI_1, bnd_s, ec, decide_eq_true y1]; rfl
          · rw [if_neg y1, nI_1, bnd_s, ec, decide_eq_false y1]; rfl
        · have ec : cndC a v i j = true := by unfold cndC; rw [if_neg y0]
          rw [if_neg y0, nI_1, bnd_s, ec]; rfl
    · show f_X12_magnetsOf_16 w (f_X12_magnetsOf_4 w g) (q + 1) v (nI m) (nI i) (b2i b) (nI a.1) = _
      rw [f_X12_magnetsOf_16, chk_c 93 93 rfl (by omega), cl_c 93 93 rfl (by omega), hc, if_pos (nI_le (Nat.le_refl _) (by omega))]
  · show f_X12_magnetsOf_4 w (g + 1) v (nI m) (nI 6) = _
    rw [f_X12_magnetsOf_4, if_pos (show (6 : Int32) ≤ nI 6 by decide)]
end KB
section KC
variable {t : Tb} {g : Mg} {nc kc w : Nat → Int32} {a : Ls}
theorem c_is_eq (V : VT t) (M : MT w 0 t) (Xb : XL 4 nc a) (Vb : VB (tN t) a) (Mb : ML 4 68 69 w a) (st st2 : Nat → Int32) (x1 : Int32) :
    ∃ (r : Int32) (c : Option Nat), f_X11_is (nI (tN t)) (nI a.1) nc st x1 = some (r, stx c st) ∧ f_X12_is w st2 x1 = some (r, stx c st2) ∧ (∀ i, c = some i → i < 3) := by
  have hn := V.1
  unfold f_X11_is f_X12_is
  rw [x_isClerk (by omega), m_isClerk M V, ob1_s, ob1_s]
  by_cases h1 : wthn x1 (tN t) = true
  · rw [if_pos h1, if_neg one_ne, if_neg one_ne, x_kinds Xb Vb, m_kinds Mb Vb, ob1_s, ob1_s]
    exact ⟨_, none, rfl, rfl, fun i hi => by cases hi⟩
  · rw [if_neg h1, if_pos rfl, if_pos rfl, x_bad, m_bad, ob2_s, ob2_s]
    refine ⟨-2, some 0, rfl, rfl, fun i hi => ?_⟩
    injection hi with hi; omega
theorem c_kinds_eq (W : VM g) (M : MM w 0 g) (Xk : XL 5 kc a) (Vk : VC (gN g) a) (Mk : ML 5 93 94 w a) (st st2 : Nat → Int32) (x1 : Int32) :
    ∃ (r : Int32) (c : Option Nat), f_X11_kinds (nI (gN g)) (nI a.1) kc st x1 = some (r, stx c st) ∧ f_X12_kinds w st2 x1 = some (r, stx c st2) ∧ (∀ i, c = some i → i < 3) := by
  have hn := W.1
  unfold f_X11_kinds f_X12_kinds
  rw [x_isMagnet (by omega), m_isMagnet M W, ob1_s, ob1_s]
  by_cases h1 : wthn x1 (gN g) = true
  · rw [if_pos h1, if_neg one_ne, if_neg one_ne, x_gkinds Xk Vk, m_gkinds Mk Vk, ob1_s, ob1_s]
    exact ⟨_, none, rfl, rfl, fun i hi => by cases hi⟩
  · rw [if_neg h1, if_pos rfl, if_pos rfl, x_bad, m_bad, ob2_s, ob2_s]
    refine ⟨-2, some 0, rfl, rfl, fun i hi => ?_⟩
    injection hi with hi; omega
end KC
