/-! ===== a day in the class ===== -/
theorem put_in {W s N : Nat} {f : Nat → Int32} {i c : Nat} {v : Int32} (hi : i < s) (hs : s < 1000) (hc : c < W) (hW : W < 1000) (hN : i * W + c < N) (hNb : N < 2 ^ 31) : f_X7_put (nI W) (nI s) N f (nI i) (nI c) v = some (upd f (i * W + c) v) := by
  unfold f_X7_put f_X7_put_29 f_X7_put_48
  simp (disch := omega) only [lt0_f, le_f, pk_mul, nI_add, chk_n, nI_clamp, ↓reduceIte]
  rfl
theorem c_put {n i c : Nat} {f : Nat → Int32} {v : Int32} {C : Int32} (hC : C = nI c) (hi : i < n) (hn : n ≤ 7) (hc : c < 5) : f_X7_put 5 (nI n) 35 f (nI i) C v = some (upd f (i * 5 + c) v) := by
  subst hC; exact put_in (W := 5) hi (by omega) hc (by omega) (by omega) (by omega)
theorem c_get {n i c : Nat} {f : Nat → Int32} {C : Int32} (hC : C = nI c) (hi : i < n) (hn : n ≤ 7) (hc : c < 5) : f_X7_get 5 (nI n) 35 f (nI i) C = some (f (i * 5 + c)) := by
  subst hC; exact get_in (W := 5) hi (by omega) hc (by omega) (by omega) (by omega)
theorem XT.congr {f : Nat → Int32} {t t' : Tb} (X : XT f t) (h0 : tN t' = tN t) (h : ∀ i, i < tN t → tK t' i = tK t i ∧ tD t' i = tD t i ∧ tW t' i = tW t i ∧ tU t' i = tU t i ∧ tO t' i = tO t i) : XT f t' := by
  intro i hi
  rw [h0] at hi
  obtain ⟨h1, h2, h3, h4, h5⟩ := h i hi
  rw [h1, h2, h3, h4, h5]
  exact X i hi
/-- those of a set ahead of c have gone s desks -/
def mvT (t : Tb) (m : Nat) (s : Int) (c : Nat) : Tb := (tN t, tK t, fun k => if m.testBit k && decide (k < c) then ((tD t k : Int) + s).toNat else tD t k, tW t, fun k => if m.testBit k && decide (k < c) then (if s = 0 then min 99 (tU t k + 1) else 0) else tU t k, tO t)
section MV
variable {f fm : Nat → Int32} {t : Tb} {g : Mg}
theorem x_move (X : XT f t) (V : VT t) {m : Nat} {s : Int} (hm : m < 2 ^ 31) (hs : s = -1 ∨ s = 0 ∨ s = 1) (hok : ∀ c, c < tN t → m.testBit c = true → okd (tD t c) s = true) : ∃ f', f_X1_move 5 (nI (tN t)) 35 f (nI m) (Int32.ofInt s) = some f' ∧ XT f' (mvT t m s (tN t)) := by
  have hn := V.1
  unfold f_X1_move
  have go : ∀ (e c q : Nat) (f1 : Nat → Int32), c + e = tN t → e < q → XT f1 (mvT t m s c) → ∃ f', f_X1_move_2 5 (nI (tN t)) 35 q f1 (nI m) (Int32.ofInt s) (nI c) = some f' ∧ XT f' (mvT t m s (tN t)) := by
    intro e
    induction e with
    | zero =>
      intro c q f1 hc hq hX
      obtain ⟨q, rfl⟩ : ∃ q', q = q' + 1 := ⟨q - 1, by omega⟩
      obtain rfl : c = tN t := by omega
      rw [f_X1_move_2, x_size, ob1_s, if_pos (nI_le (Nat.le_refl _) (by omega))]
      exact ⟨f1, rfl, hX⟩
    | succ e ih =>
      intro c q f1 hc hq hX
      obtain ⟨q, rfl⟩ : ∃ q', q = q' + 1 := ⟨q - 1, by omega⟩
      have hcn : c < tN t := by omega
      rw [f_X1_move_2, x_size, ob1_s, if_neg (nI_ge hcn (by omega)), x_hasBit hm (by omega), ob1_s]
      unfold f_X1_move_56 f_X1_move_59
      cases hb : m.testBit c with
      | false =>
        rw [if_pos (show (if false = true then (1 : Int32) else 0) = 0 from rfl), nI_1, bnd_s]
        refine ih (c + 1) q f1 (by omega) (by omega) (hX.congr rfl (fun i hi => ?_))
        have e1 : (m.testBit i && decide (i < c + 1)) = (m.testBit i && decide (i < c)) := by
          by_cases z : i = c
          · rw [z, hb]; rfl
          · congr 1
            exact decide_eq_decide.mpr (by omega)
        refine ⟨rfl, ?_, rfl, ?_, rfl⟩
        · show (if (m.testBit i && decide (i < c + 1)) = true then _ else _) = (if (m.testBit i && decide (i < c)) = true then _ else _)
          rw [e1]
        · show (if (m.testBit i && decide (i < c + 1)) = true then _ else _) = (if (m.testBit i && decide (i < c)) = true then _ else _)
          rw [e1]
      | true =>
        have hD : f1 (c * 5 + 1) = nI (tD t c) := by
          have h := (hX c hcn).2.1
          have e1 : tD (mvT t m s c) c = tD t c := by show (if (m.testBit c && decide (c < c)) = true then _ else _) = _; simp
          rw [e1] at h; exact h
        have hU : f1 (c * 5 + 3) = nI (tU t c) := by
          have h := (hX c hcn).2.2.2.1
          have e1 : tU (mvT t m s c) c = tU t c := by show (if (m.testBit c && decide (c < c)) = true then _ else _) = _; simp
          rw [e1] at h; exact h
        have hU99 := (V.2.1 c hcn).2.2.2.2
        rw [if_neg (by decide), c_get (C := 1) (c := 1) rfl hcn hn (by omega), ob1_s, c_put (C := 1) (c := 1) rfl hcn hn (by omega), ob1_s, hD, nI_mv (hok c hcn hb), c_get (C := 3) (c := 3) rfl hcn hn (by omega), ob1_s, pk_un (by omega), hU, c_put (C := 3) (c := 3) rfl hcn hn (by omega), ob1_s, c_put (C := 3) (c := 3) rfl hcn hn (by omega), ob1_s, nI_1, nI_1, bnd_s, bnd_s]
        have fin : ∀ v : Int32, v = nI (if s = 0 then min 99 (tU t c + 1) else 0) → ∃ f', f_X1_move_2 5 (nI (tN t)) 35 q (upd (upd f1 (c * 5 + 1) (nI ((tD t c : Int) + s).toNat)) (c * 5 + 3) v) (nI m) (Int32.ofInt s) (nI (c + 1)) = some f' ∧ XT f' (mvT t m s (tN t)) := fun v hv => by
          refine ih (c + 1) q _ (by omega) (by omega) (fun i hi => ?_)
          have hi : i < tN t := hi
          obtain ⟨x1, x2, x3, x4, x5⟩ := hX i hi
          by_cases z : i = c
          · subst z
            have b1 : (m.testBit i && decide (i < i + 1)) = true := by rw [hb]; simp
            rw [pk_un (by omega), pk_un (by omega), pk_un (by omega), pk_us, pk_un (by omega), pk_un (by omega), pk_us, pk_un (by omega), pk_un (by omega)]
            refine ⟨x1, ?_, x3, ?_, x5⟩
            · show _ = nI (if (m.testBit i && decide (i < i + 1)) = true then _ else _)
              rw [if_pos b1]
            · show _ = nI (if (m.testBit i && decide (i < i + 1)) = true then _ else _)
              rw [if_pos b1]; exact hv
          · have b1 : (m.testBit i && decide (i < c + 1)) = (m.testBit i && decide (i < c)) := by
              congr 1
              exact decide_eq_decide.mpr (by omega)
            rw [pk_un (by omega), pk_un (by omega), pk_un (by omega), pk_un (by omega), pk_un (by omega), pk_un (by omega), pk_un (by omega), pk_un (by omega), pk_un (by omega), pk_un (by omega)]
            refine ⟨x1, ?_, x3, ?_, x5⟩
            · rw [x2]
              show nI (if (m.testBit i && decide (i < c)) = true then _ else _) = nI (if (m.testBit i && decide (i < c + 1)) = true then _ else _)
              rw [b1]
            · rw [x4]
              show nI (if (m.testBit i && decide (i < c)) = true then _ else _) = nI (if (m.testBit i && decide (i < c + 1)) = true then _ else _)
              rw [b1]
        by_cases z : s = 0
        · rw [if_pos ((oz0 hs).mpr z)]
          by_cases y : tU t c + 1 < 99
          · rw [if_pos (show nI (tU t c + 1) < (99 : Int32) from nI_lt (b := 99) y (by omega))]
            exact fin _ (by rw [if_pos z, show min 99 (tU t c + 1) = tU t c + 1 by omega])
          · rw [if_neg (show ¬ nI (tU t c + 1) < (99 : Int32) from nI_nlt (b := 99) (by omega) (by omega))]
            exact fin 99 (by rw [if_pos z, show min 99 (tU t c + 1) = 99 by omega]; rfl)
        · rw [if_neg (fun y => z ((oz0 hs).mp y))]
          exact fin 0 (by rw [if_neg z]; rfl)
  refine go (tN t) 0 FU f (by omega) (Nat.lt_of_le_of_lt hn (by decide)) (X.congr rfl (fun i hi => ?_))
  have e1 : (m.testBit i && decide (i < 0)) = false := by simp
  refine ⟨rfl, ?_, rfl, ?_, rfl⟩
  · show (if (m.testBit i && decide (i < 0)) = true then _ else _) = _
    rw [e1]; rfl
  · show (if (m.testBit i && decide (i < 0)) = true then _ else _) = _
    rw [e1]; rfl
/-- the strings with their top ahead of c have gone -/
def midT (t : Tb) (g : Mg) (ev : Bool) (c : Nat) : Tb := (tN t, tK t, fun k => if topo t k < c then tD (moved t g ev) k else tD t k, tW t, fun k => if topo t k < c then tU (moved t g ev) k else tU t k, tO t)
theorem midT_V (V : VT t) (ev : Bool) (c : Nat) : VT (midT t g ev c) := by
  have V' := moved_V V g ev
  refine ⟨V.1, fun i hi => ?_, V.2.2⟩
  have hi : i < tN t := hi
  obtain ⟨h1, h2, h3, h4, h5⟩ := V.2.1 i hi
  obtain ⟨k1, k2, k3, k4, k5⟩ := V'.2.1 i hi
  refine ⟨h1, ?_, h3, h4, ?_⟩
  · show (if topo t i < c then tD (moved t g ev) i else tD t i) < 12
    split
    · exact k2
    · exact h2
  · show (if topo t i < c then tU (moved t g ev) i else tU t i) ≤ 99
    split
    · exact k5
    · exact h5
theorem allF_congr {p q : Nat → Bool} : ∀ (d c : Nat), (∀ k, c ≤ k → k < c + d → p k = q k) → allF p d c = allF q d c := by
  intro d
  induction d with
  | zero => intro c _; rfl
  | succ d ih =>
    intro c h
    show (p c && allF p d (c + 1)) = (q c && allF q d (c + 1))
    rw [h c (by omega) (by omega), ih (c + 1) (fun k h1 h2 => h k (by omega) (by omega))]
theorem wayz_congr {t t' : Tb} (h0 : tN t' = tN t) (hW : tW t' = tW t) {m : Nat} {ev : Bool} (h : ∀ k, k < tN t → m.testBit k = true → tD t' k = tD t k) : wayz t' g m ev = wayz t g m ev := by
  have e1 : drz t' g m ev = drz t g m ev := by
    unfold drz
    rw [h0]
    refine sumZ_congr (fun k hk => ?_)
    by_cases q : m.testBit k = true
    · rw [if_pos q, if_pos q]; unfold dr1; rw [h k hk q]
    · rw [if_neg q, if_neg q]
  have e2 : wgt t' m = wgt t m := by unfold wgt; rw [h0, hW]
  have e3 : ∀ s, fitB t' m s = fitB t m s := fun s => by
    unfold fitB
    rw [h0]
    refine allF_congr _ _ (fun k _ hk => ?_)
    by_cases q : m.testBit k = true
    · rw [h k (by omega) q]
    · rw [Bool.not_eq_true] at q; rw [q]; rfl
  unfold wayz
  rw [e1, e2, e3]
theorem x_day (X : XT f t) (V : VT t) (Y : XM fm g) (W : VM g) {d : Nat} (hd : d < 2 ^ 31) (k : (Nat → Int32) → Int32 → Int32 → Int32 → Int32 → Option (Int32 × (Nat → Int32))) (v2 v3 v5 : Int32) (hv : v2 + v5 = nI d) :
    ∃ f', XT f' (moved t g (d % 2 == 0)) ∧ f_X1_passDays_18 5 (nI (tN t)) 35 3 (nI (gN g)) 9 fm k FU f v2 v3 0 v5 0 = k f' v2 v3 (nI (wentN t g (d % 2 == 0))) (v5 + 1) := by
  have hn := V.1
  generalize hev : (d % 2 == 0) = ev
  have go : ∀ (e c q : Nat) (f1 : Nat → Int32), c + e = tN t → e < q → XT f1 (midT t g ev c) → ∃ f', XT f' (midT t g ev (tN t)) ∧ f_X1_passDays_18 5 (nI (tN t)) 35 3 (nI (gN g)) 9 fm k q f1 v2 v3 (nI (cnt (fun k => decide (wk t g ev k ≠ 0) && decide (topo t k = k)) c)) v5 (nI c) = k f' v2 v3 (nI (wentN t g ev)) (v5 + 1) := by
    intro e
    induction e with
    | zero =>
      intro c q f1 hc hq hX
      obtain ⟨q, rfl⟩ : ∃ q', q = q' + 1 := ⟨q - 1, by omega⟩
      obtain rfl : c = tN t := by omega
      rw [f_X1_passDays_18, x_size, ob1_s, if_pos (nI_le (Nat.le_refl _) (by omega))]
      unfold f_X1_passDays_88
      rw [bnd_s]
      exact ⟨f1, hX, rfl⟩
    | succ e ih =>
      intro c q f1 hc hq hX
      obtain ⟨q, rfl⟩ : ∃ q', q = q' + 1 := ⟨q - 1, by omega⟩
      have hcn : c < tN t := by omega
      have VM' := midT_V (g := g) V ev c
      have hcs : cnt (fun k => decide (wk t g ev k ≠ 0) && decide (topo t k = k)) (c + 1) = cnt (fun k => decide (wk t g ev k ≠ 0) && decide (topo t k = k)) c + (if (decide (wk t g ev c ≠ 0) && decide (topo t c = c)) = true then 1 else 0) := rfl
      have eo : f_X7_get 5 (nI (tN t)) 35 f1 (nI c) 4 = some (onv (tO t c)) := XT.o hX hcn hn
      rw [f_X1_passDays_18, x_size, ob1_s, if_neg (nI_ge hcn (by omega)), eo, ob1_s]
      show ∃ f', XT f' (midT t g ev (tN t)) ∧ (if onv (tO t c) = -1 then _ else _) = _
      cases ho : tO t c with
      | some j =>
        have hj := V.on hcn ho
        rw [if_neg (fun z => by rw [onv, nI_m1 (by omega)] at z; exact z)]
        unfold f_X1_passDays_82
        have hne : ∀ i, i < tN t → topo t i ≠ c := fun i hi z => by have := topo_none V hi; rw [z, ho] at this; cases this
        obtain ⟨f', a1, a2⟩ := ih (c + 1) q f1 (by omega) (by omega) (hX.congr rfl (fun i hi => by
          have hi : i < tN t := hi
          have hni := hne i hi
          refine ⟨rfl, ?_, rfl, ?_, rfl⟩
          · show (if topo t i < c + 1 then _ else _) = (if topo t i < c then _ else _)
            by_cases z : topo t i < c
            · rw [if_pos (by omega), if_pos z]
            · rw [if_neg (by omega), if_neg z]
          · show (if topo t i < c + 1 then _ else _) = (if topo t i < c then _ else _)
            by_cases z : topo t i < c
            · rw [if_pos (by omega), if_pos z]
            · rw [if_neg (by omega), if_neg z]))
        refine ⟨f', a1, ?_⟩
        rw [nI_1, bnd_s, ← a2, hcs, show (if (decide (wk t g ev c ≠ 0) && decide (topo t c = c)) = true then 1 else 0) = 0 from by simp [hne c hcn]]
        rfl
      | none =>
        have htc : topo t c = c := upk_none ho 7
        rw [if_pos (show onv none = -1 from rfl)]
        have hm := strg_lt V c
        have e1 : f_X0_members 5 (nI (tN t)) 35 f1 (nI c) = some (nI (strg t c)) := x_members hX VM' hcn
        have e2 := x_step hX VM' Y W (m := strg t c) (d := d) (by omega) hd (wgt_pos V hcn)
        have e3 : wayz (midT t g ev c) g (strg t c) (d % 2 == 0) = wk t g ev c := by
          rw [hev]
          show wayz (midT t g ev c) g (strg t c) ev = wayz t g (strg t c) ev
          refine wayz_congr (t := t) (t' := midT t g ev c) rfl rfl (fun i hi hb => ?_)
          have hi : i < tN t := hi
          rw [strg_bit] at hb
          have hti : topo t i = topo t c := by
            rw [Bool.and_eq_true] at hb; exact of_decide_eq_true hb.2
          show (if topo t i < c then _ else _) = _
          rw [if_neg (by rw [hti, htc]; omega)]
        rw [e3] at e2
        have hs : wk t g ev c = -1 ∨ wk t g ev c = 0 ∨ wk t g ev c = 1 := wayz_3 t g _ ev
        obtain ⟨f2, e4, e5⟩ := x_move hX VM' (m := strg t c) (s := wk t g ev c) (by omega) hs (fun i hi hb => by rw [← e3]; exact wayz_ok VM' g _ _ hi hb)
        have e2 : f_X1_step 5 (nI (tN t)) 35 f1 3 (nI (gN g)) 9 fm (nI (strg t c)) (nI d) = some (Int32.ofInt (wk t g ev c)) := e2
        have e4 : f_X1_move 5 (nI (tN t)) 35 f1 (nI (strg t c)) (Int32.ofInt (wk t g ev c)) = some f2 := e4
        rw [e1, ob1_s, hv, e2, ob1_s, e4, ob1_s]
        have hX2 : XT f2 (midT t g ev (c + 1)) := e5.congr rfl (fun i hi => by
          have hi : i < tN t := hi
          have hb : ((strg t c).testBit i && decide (i < tN (midT t g ev c))) = decide (topo t i = c) := by
            rw [strg_bit, htc]
            simp [hi, show i < tN (midT t g ev c) from hi]
          refine ⟨rfl, ?_, rfl, ?_, rfl⟩
          · show (if topo t i < c + 1 then tD (moved t g ev) i else tD t i) = (if ((strg t c).testBit i && decide (i < tN (midT t g ev c))) = true then ((tD (midT t g ev c) i : Int) + wk t g ev c).toNat else tD (midT t g ev c) i)
            rw [hb]
            by_cases z : topo t i = c
            · have w1 : wk t g ev i = wk t g ev c := by unfold wk; rw [strg_eq (show topo t i = topo t c by rw [z, htc])]
              have d1 : tD (midT t g ev c) i = tD t i := if_neg (by omega)
              rw [if_pos (by omega), if_pos (decide_eq_true z), d1, ← w1]
              rfl
            · have d1 : tD (midT t g ev c) i = if topo t i < c then tD (moved t g ev) i else tD t i := rfl
              rw [if_neg (show ¬ (decide (topo t i = c) = true) from by simp [z]), d1]
              by_cases y : topo t i < c
              · rw [if_pos (by omega), if_pos y]
              · rw [if_neg (by omega), if_neg y]
          · show (if topo t i < c + 1 then tU (moved t g ev) i else tU t i) = (if ((strg t c).testBit i && decide (i < tN (midT t g ev c))) = true then (if wk t g ev c = 0 then min 99 (tU (midT t g ev c) i + 1) else 0) else tU (midT t g ev c) i)
            rw [hb]
            by_cases z : topo t i = c
            · have w1 : wk t g ev i = wk t g ev c := by unfold wk; rw [strg_eq (show topo t i = topo t c by rw [z, htc])]
              have d1 : tU (midT t g ev c) i = tU t i := if_neg (by omega)
              rw [if_pos (by omega), if_pos (decide_eq_true z), d1, ← w1]
              rfl
            · have d1 : tU (midT t g ev c) i = if topo t i < c then tU (moved t g ev) i else tU t i := rfl
              rw [if_neg (show ¬ (decide (topo t i = c) = true) from by simp [z]), d1]
              by_cases y : topo t i < c
              · rw [if_pos (by omega), if_pos y]
              · rw [if_neg (by omega), if_neg y])
        obtain ⟨f', a1, a2⟩ := ih (c + 1) q f2 (by omega) (by omega) hX2
        refine ⟨f', a1, ?_⟩
        unfold f_X1_passDays_79 f_X1_passDays_82
        rw [← a2, hcs]
        by_cases z : wk t g ev c = 0
        · rw [if_pos ((oz0 hs).mpr z), show (0 : Int32) = nI 0 from rfl, nI_add, bnd_s, nI_1, bnd_s, show (if (decide (wk t g ev c ≠ 0) && decide (topo t c = c)) = true then 1 else 0) = 0 from by simp [z]]
        · rw [if_neg (fun y => z ((oz0 hs).mp y)), nI_1, bnd_s, nI_1, bnd_s, show (if (decide (wk t g ev c ≠ 0) && decide (topo t c = c)) = true then 1 else 0) = 1 from by simp [z, htc]]
  have z0 : ∀ (i a b : Nat), (if topo t i < 0 then a else b) = b := fun i a b => if_neg (Nat.not_lt_zero _)
  have h0 : XT f (midT t g ev 0) := X.congr rfl (fun i _ => ⟨rfl, z0 i (tD (moved t g ev) i) (tD t i), rfl, z0 i (tU (moved t g ev) i) (tU t i), rfl⟩)
  obtain ⟨f', a1, a2⟩ := go (tN t) 0 FU f (by omega) (Nat.lt_of_le_of_lt hn (by decide)) h0
  refine ⟨f', a1.congr rfl (fun i hi => ?_), a2⟩
  have hi : i < tN t := hi
  have z1 : ∀ (a b : Nat), a = (if topo t i < tN t then a else b) := fun a b => (if_pos (topo_lt V hi)).symm
  exact ⟨rfl, z1 (tD (moved t g ev) i) (tD t i), rfl, z1 (tU (moved t g ev) i) (tU t i), rfl⟩
/-- N days on from day d -/
def dyT (g : Mg) : Nat → Nat → Tb → Tb
  | 0, _, t => t
  | e + 1, d, t => dyT g e (d + 1) (moved t g (d % 2 == 0))
def dyW (g : Mg) : Nat → Nat → Tb → Nat → Nat
  | 0, _, _, v => v
  | e + 1, d, t, _ => dyW g e (d + 1) (moved t g (d % 2 == 0)) (wentN t g (d % 2 == 0))
theorem dyT_V (g : Mg) : ∀ (e d : Nat) (t : Tb), VT t → VT (dyT g e d t) := by
  intro e
  induction e with
  | zero => intro d t V; exact V
  | succ e ih => intro d t V; exact ih (d + 1) _ (moved_V V g _)
theorem dyT_n (g : Mg) : ∀ (e d : Nat) (t : Tb), tN (dyT g e d t) = tN t ∧ tK (dyT g e d t) = tK t ∧ tW (dyT g e d t) = tW t ∧ tO (dyT g e d t) = tO t := by
  intro e
  induction e with
  | zero => intro d t; exact ⟨rfl, rfl, rfl, rfl⟩
  | succ e ih => intro d t; exact ih (d + 1) (moved t g (d % 2 == 0))
theorem x_days_go (Y : XM fm g) (W : VM g) {d0 N : Nat} (hN : d0 + N < 2 ^ 30) : ∀ (e j q : Nat) (t : Tb) (f : Nat → Int32) (v : Nat), j + e = N → e < q → XT f t → VT t → ∃ f', f_X1_passDays_6 5 (nI (tN t)) 35 3 (nI (gN g)) 9 fm q f (nI d0) (nI N) (nI v) (nI j) = some (nI (dyW g e (d0 + j) t v), f') ∧ XT f' (dyT g e (d0 + j) t) := by
  intro e
  induction e with
  | zero =>
    intro j q t f v hj hq X V
    obtain ⟨q, rfl⟩ : ∃ q', q = q' + 1 := ⟨q - 1, by omega⟩
    obtain rfl : j = N := by omega
    rw [f_X1_passDays_6, if_pos (nI_le (Nat.le_refl _) (by omega))]
    exact ⟨f, rfl, X⟩
  | succ e ih =>
    intro j q t f v hj hq X V
    obtain ⟨q, rfl⟩ : ∃ q', q = q' + 1 := ⟨q - 1, by omega⟩
    rw [f_X1_passDays_6, if_neg (nI_ge (by omega) (by omega))]
    obtain ⟨f1, X1, e1⟩ := x_day X V Y W (d := d0 + j) (by omega) (f_X1_passDays_6 5 (nI (tN t)) 35 3 (nI (gN g)) 9 fm q) (nI d0) (nI N) (nI j) (nI_add _ _)
    rw [e1, nI_1]
    exact ih (j + 1) q (moved t g ((d0 + j) % 2 == 0)) f1 _ (by omega) (by omega) X1 (moved_V V g _)
theorem x_days (X : XT f t) (V : VT t) (Y : XM fm g) (W : VM g) {d N : Nat} (hN : d + N < 2 ^ 30) (hN2 : N < 1000) : ∃ f', f_X1_passDays 5 (nI (tN t)) 35 f 3 (nI (gN g)) 9 fm (nI d) (nI N) = some (nI (dyW g N d t 0), f') ∧ XT f' (dyT g N d t) :=
  x_days_go Y W hN N 0 FU t f 0 (by omega) (Nat.lt_of_lt_of_le hN2 (by decide)) X V
end MV
