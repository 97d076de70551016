/-! ===== a day ===== -/
def wk (t : Tb) (g : Mg) (ev : Bool) (k : Nat) : Int := wayz t g (strg t k) ev
def moved (t : Tb) (g : Mg) (ev : Bool) : Tb := (tN t, tK t, fun k => ((tD t k : Int) + wk t g ev k).toNat, tW t, fun k => if wk t g ev k = 0 then min 99 (tU t k + 1) else 0, tO t)
def wentN (t : Tb) (g : Mg) (ev : Bool) : Nat := cnt (fun k => decide (wk t g ev k ≠ 0) && decide (topo t k = k)) (tN t)
theorem self_bit {t : Tb} {k : Nat} (hk : k < tN t) : (strg t k).testBit k = true := by rw [strg_bit]; simp [hk]
theorem wgt_pos {t : Tb} (V : VT t) {k : Nat} (hk : k < tN t) : 1 ≤ wgt t (strg t k) := by
  have h := sum_ge (g := fun j => if (strg t k).testBit j then tW t j else 0) hk
  have h2 : (if (strg t k).testBit k = true then tW t k else 0) = tW t k := by rw [if_pos (self_bit hk)]
  have h3 := (V.2.1 k hk).2.2.1
  unfold wgt
  have h : (if (strg t k).testBit k = true then tW t k else 0) ≤ sumN (fun j => if (strg t k).testBit j = true then tW t j else 0) (tN t) := h
  omega
theorem okd_wk {t : Tb} (V : VT t) (g : Mg) (ev : Bool) {k : Nat} (hk : k < tN t) : okd (tD t k) (wk t g ev k) = true := wayz_ok V g _ ev hk (self_bit hk)
theorem nI_mv {d : Nat} {s : Int} (h : okd d s = true) : nI d + Int32.ofInt s = nI ((d : Int) + s).toNat := by
  have h := of_decide_eq_true h
  rw [oz_nat, ← Int32.ofInt_add, oz_nat, Int.toNat_of_nonneg h.1]
theorem moved_V {t : Tb} (V : VT t) (g : Mg) (ev : Bool) : VT (moved t g ev) := by
  refine ⟨V.1, fun i hi => ?_, V.2.2⟩
  have hi : i < tN t := hi
  obtain ⟨h1, h2, h3, h4, h5⟩ := V.2.1 i hi
  have h := of_decide_eq_true (okd_wk V g ev hi)
  refine ⟨h1, ?_, h3, h4, ?_⟩
  · show ((tD t i : Int) + wk t g ev i).toNat < 12
    omega
  · show (if wk t g ev i = 0 then min 99 (tU t i + 1) else 0) ≤ 99
    split <;> omega
theorem strg_eq {t : Tb} {i k : Nat} (h : topo t i = topo t k) : strg t i = strg t k := by unfold strg; rw [h]
theorem oz0 {s : Int} (hs : s = -1 ∨ s = 0 ∨ s = 1) : Int32.ofInt s = 0 ↔ s = 0 := oz_eq (a := s) (b := 0) (by omega) (by omega) (by omega) (by omega)
section MP
variable {w : Nat → Int32} {r : Nat} {t : Tb} {g : Mg} {v1 : Int32}
theorem m_passes (hv : v1 = nI r) (M : MT w r t) (V : VT t) (Y : MM w r g) (W : VM g) (hr : r + 47 ≤ 1251) {d : Nat} (hd : d < 2 ^ 31) (hw : w (r + 2) = nI d) (went : Int32) (ways : Nat → Int32) :
    ∃ w' ways', f_X12_passes went w ways v1 = some (nI (wentN t g (d % 2 == 0)), w', ways') ∧ MT w' r (moved t g (d % 2 == 0)) ∧ MM w' r g ∧ w' (r + 2) = nI (d + 1) ∧ ∀ x, x ≠ r + 2 → (x < r + 17 ∨ r + 31 ≤ x) → w' x = w x := by
  have hn := V.1
  generalize hev : (d % 2 == 0) = ev
  unfold f_X12_passes
  -- the ways
  have first : ∀ (e k q : Nat) (ws : Nat → Int32), k + e = tN t → e < q → (∀ j, j < k → ws j = Int32.ofInt (wk t g ev j)) →
      ∃ ws', (∀ j, j < tN t → ws' j = Int32.ofInt (wk t g ev j)) ∧ f_X12_passes_7 q (nI (cnt (fun k => decide (wk t g ev k ≠ 0) && decide (topo t k = k)) k)) w ws v1 (nI k) = f_X12_passes_75 (nI (wentN t g ev)) w ws' v1 := by
    intro e
    induction e with
    | zero =>
      intro k q ws hk hq h
      obtain ⟨q, rfl⟩ : ∃ q', q = q' + 1 := ⟨q - 1, by omega⟩
      obtain rfl : k = tN t := by omega
      refine ⟨ws, h, ?_⟩
      rw [f_X12_passes_7, hv, mx0, chk_n (by omega) (by omega), nI_clamp (by omega), M.1, if_pos (nI_le (Nat.le_refl _) (by omega))]
      rfl
    | succ e ih =>
      intro k q ws hk hq h
      obtain ⟨q, rfl⟩ : ∃ q', q = q' + 1 := ⟨q - 1, by omega⟩
      have hkn : k < tN t := by omega
      have hm := strg_lt V k
      have h3 : wk t g ev k = -1 ∨ wk t g ev k = 0 ∨ wk t g ev k = 1 := wayz_3 t g _ ev
      have ht := topo_lt V hkn
      rw [f_X12_passes_7, m_string hv M V hr hkn, ob1_s, m_way hv M V Y W hr (by omega) hd hw, ob1_s, m_top hv M V hr hkn, hv, mx0, chk_n (by omega) (by omega), nI_clamp (by omega), M.1, if_neg (nI_ge hkn (by omega)), chk_n (by omega) (by omega), bnd_s, chk_n (by omega) (by omega), nI_clamp (by omega), pk_us, ob1_s, ← hv, hev]
      have hcs : cnt (fun k => decide (wk t g ev k ≠ 0) && decide (topo t k = k)) (k + 1) = cnt (fun k => decide (wk t g ev k ≠ 0) && decide (topo t k = k)) k + (if (decide (wk t g ev k ≠ 0) && decide (topo t k = k)) = true then 1 else 0) := rfl
      have nxt : ∀ j, j < k + 1 → upd ws k (Int32.ofInt (wk t g ev k)) j = Int32.ofInt (wk t g ev j) := fun j hj => by
        by_cases q : j = k
        · rw [q, pk_us]
        · rw [pk_un q]; exact h j (by omega)
      obtain ⟨ws', h1, h2⟩ := ih (k + 1) q (upd ws k (Int32.ofInt (wk t g ev k))) (by omega) (by omega) nxt
      refine ⟨ws', h1, ?_⟩
      rw [← h2, hcs]
      unfold f_X12_passes_64 f_X12_passes_65
      show (if Int32.ofInt (wk t g ev k) = 0 then _ else _) = _
      by_cases z : wk t g ev k = 0
      · rw [if_pos ((oz0 h3).mpr z), show (0 : Int32) = nI 0 from rfl, nI_add, bnd_s, nI_1, bnd_s]
        rw [show (if (decide (wk t g ev k ≠ 0) && decide (topo t k = k)) = true then 1 else 0) = 0 from by simp [z]]
        rfl
      · rw [if_neg (fun y => z ((oz0 h3).mp y))]
        by_cases y : topo t k = k
        · rw [if_pos (by rw [y]), nI_1, bnd_s, nI_1, bnd_s]
          rw [show (if (decide (wk t g ev k ≠ 0) && decide (topo t k = k)) = true then 1 else 0) = 1 from by simp [z, y]]
          rfl
        · rw [if_neg (fun x => y ((nI_eq (by omega) (by omega)).mp x)), show (0 : Int32) = nI 0 from rfl, nI_add, bnd_s, nI_1, bnd_s]
          rw [show (if (decide (wk t g ev k ≠ 0) && decide (topo t k = k)) = true then 1 else 0) = 0 from by simp [z, y]]
          rfl
  obtain ⟨ws', h1, e1⟩ := first (tN t) 0 FU ways (by omega) (Nat.lt_of_le_of_lt hn (by decide)) (fun j hj => absurd hj (by omega))
  have e1 : f_X12_passes_7 FU 0 w ways v1 0 = f_X12_passes_75 (nI (wentN t g ev)) w ws' v1 := e1
  rw [e1]
  unfold f_X12_passes_75
  -- all go
  have second : ∀ (e k q : Nat) (w1 : Nat → Int32), k + e = tN t → e < q → (∀ j, j < k → w1 (r + 17 + j) = nI (tD (moved t g ev) j) ∧ w1 (r + 24 + j) = nI (tU (moved t g ev) j)) → (∀ x, (∀ j, j < k → x ≠ r + 17 + j ∧ x ≠ r + 24 + j) → w1 x = w x) →
      ∃ w', (∀ j, j < tN t → w' (r + 17 + j) = nI (tD (moved t g ev) j) ∧ w' (r + 24 + j) = nI (tU (moved t g ev) j)) ∧ (∀ x, (∀ j, j < tN t → x ≠ r + 17 + j ∧ x ≠ r + 24 + j) → w' x = w x) ∧ f_X12_passes_77 q (nI (wentN t g ev)) w1 ws' v1 (nI k) = f_X12_passes_173 (nI (wentN t g ev)) w' ws' v1 := by
    intro e
    induction e with
    | zero =>
      intro k q w1 hk hq h h0
      obtain ⟨q, rfl⟩ : ∃ q', q = q' + 1 := ⟨q - 1, by omega⟩
      obtain rfl : k = tN t := by omega
      refine ⟨w1, h, h0, ?_⟩
      rw [f_X12_passes_77, hv, mx0, chk_n (by omega) (by omega), nI_clamp (by omega), h0 r (fun j hj => by omega), M.1, if_pos (nI_le (Nat.le_refl _) (by omega))]
    | succ e ih =>
      intro k q w1 hk hq h h0
      obtain ⟨q, rfl⟩ : ∃ q', q = q' + 1 := ⟨q - 1, by omega⟩
      have hkn : k < tN t := by omega
      have h3 : wk t g ev k = -1 ∨ wk t g ev k = 0 ∨ wk t g ev k = 1 := wayz_3 t g _ ev
      have hU := (V.2.1 k hkn).2.2.2.2
      have eD : w1 (r + 17 + k) = nI (tD t k) := by rw [h0 _ (fun j hj => by omega)]; exact M.gd hkn
      have eU : upd w1 (r + 17 + k) (nI (tD (moved t g ev) k)) (r + 24 + k) = nI (tU t k) := by rw [pk_un (by omega), h0 _ (fun j hj => by omega)]; exact M.gu hkn
      have eM : nI (tD t k) + Int32.ofInt (wk t g ev k) = nI (tD (moved t g ev) k) := nI_mv (okd_wk V g ev hkn)
      rw [f_X12_passes_77, hv, mx0, mx17, mx24, chk_n (by omega) (by omega), nI_clamp (by omega), h0 r (fun j hj => by omega), M.1, if_neg (nI_ge hkn (by omega)), chk_n (by omega) (by omega), chk_n (by omega) (by omega), chk_n (by omega) (by omega), bnd_s, chk_n (by omega) (by omega), nI_clamp (by omega), nI_clamp (by omega), nI_clamp (by omega), h1 k hkn, eD, eM, chk_n (by omega) (by omega), chk_n (by omega) (by omega), eU, ← hv]
      unfold f_X12_passes_166
      rw [chk_n (by omega) (by omega), chk_n (by omega) (by omega), chk_n (by omega) (by omega), nI_clamp (by omega), bnd_s, bnd_s, bnd_s, bnd_s, bnd_s, bnd_s, nI_1, nI_1]
      have fin : ∀ v : Int32, v = nI (tU (moved t g ev) k) → ∃ w', (∀ j, j < tN t → w' (r + 17 + j) = nI (tD (moved t g ev) j) ∧ w' (r + 24 + j) = nI (tU (moved t g ev) j)) ∧ (∀ x, (∀ j, j < tN t → x ≠ r + 17 + j ∧ x ≠ r + 24 + j) → w' x = w x) ∧ f_X12_passes_77 q (nI (wentN t g ev)) (upd (upd w1 (r + 17 + k) (nI (tD (moved t g ev) k))) (r + 24 + k) v) ws' v1 (nI (k + 1)) = f_X12_passes_173 (nI (wentN t g ev)) w' ws' v1 := fun v hv2 => by
        refine ih (k + 1) q _ (by omega) (by omega) (fun j hj => ?_) (fun x hx => ?_)
        · by_cases z : j = k
          · subst z
            rw [pk_un (by omega), pk_us, pk_us]; exact ⟨rfl, hv2⟩
          · rw [pk_un (by omega), pk_un (by omega), pk_un (by omega), pk_un (by omega)]; exact h j (by omega)
        · have := hx k (by omega)
          rw [pk_un this.2, pk_un this.1]; exact h0 x (fun j hj => hx j (by omega))
      by_cases z : wk t g ev k = 0
      · rw [if_pos ((oz0 h3).mpr z)]
        have eR : tU (moved t g ev) k = min 99 (tU t k + 1) := if_pos z
        by_cases y : 99 ≤ tU t k
        · rw [if_pos (show (99 : Int32) ≤ nI (tU t k) from nI_le (a := 99) y (by omega))]
          refine fin 99 ?_
          rw [eR, show min 99 (tU t k + 1) = 99 by omega]; rfl
        · rw [if_neg (show ¬ (99 : Int32) ≤ nI (tU t k) from nI_ge (b := 99) (by omega) (by omega))]
          refine fin _ ?_
          rw [eR, show min 99 (tU t k + 1) = tU t k + 1 by omega]
      · rw [if_neg (fun y => z ((oz0 h3).mp y))]
        refine fin 0 ?_
        have eR : tU (moved t g ev) k = 0 := if_neg z
        rw [eR]; rfl
  obtain ⟨w', a1, a2, e2⟩ := second (tN t) 0 FU w (by omega) (Nat.lt_of_le_of_lt hn (by decide)) (fun j hj => absurd hj (by omega)) (fun x _ => rfl)
  have e2 : f_X12_passes_77 FU (nI (wentN t g ev)) w ws' v1 0 = f_X12_passes_173 (nI (wentN t g ev)) w' ws' v1 := e2
  rw [e2]
  unfold f_X12_passes_173
  have hw2 : w' (r + 2) = nI d := by rw [a2 _ (fun j hj => by omega)]; exact hw
  rw [hv, mx2, chk_n (by omega) (by omega), chk_n (by omega) (by omega), nI_clamp (by omega), hw2, nI_1, bnd_s]
  refine ⟨_, _, rfl, ⟨?_, fun i hi => ?_⟩, ⟨?_, fun i hi => ?_⟩, pk_us, fun x h5 h6 => ?_⟩
  · rw [pk_un (by omega), a2 _ (fun j hj => by omega)]; exact M.1
  · have hi : i < tN t := hi
    rw [pk_un (by omega), pk_un (by omega), pk_un (by omega), pk_un (by omega), pk_un (by omega), a2 (r + 3 + i) (fun j hj => by omega), a2 (r + 10 + i) (fun j hj => by omega), a2 (r + 31 + i) (fun j hj => by omega)]
    exact ⟨M.gk hi, (a1 i hi).1, M.gw hi, (a1 i hi).2, M.go hi⟩
  · rw [pk_un (by omega), a2 _ (fun j hj => by omega)]; exact Y.1
  · rw [pk_un (by omega), pk_un (by omega), pk_un (by omega), a2 _ (fun j hj => by omega), a2 _ (fun j hj => by omega), a2 _ (fun j hj => by omega)]
    exact Y.2 i hi
  · rw [pk_un h5]; exact a2 x (fun j hj => by omega)
end MP
