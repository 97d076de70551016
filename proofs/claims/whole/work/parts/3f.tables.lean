/-! ===== lunch: two machines on numbers, and that they agree ===== -/
noncomputable def gl (l : List Nat) : Nat → Nat := List.rec (fun _ => 0) (fun x _ ih i => Nat.rec x (fun j _ => ih j) i) l
noncomputable def sl (l : List Nat) : Nat → Nat → List Nat := List.rec (fun _ _ => []) (fun x t ih i v => Nat.rec (v :: t) (fun j _ => x :: ih j v) i) l
theorem sl_len (v : Nat) : ∀ (l : List Nat) (i : Nat), (sl l i v).length = l.length := by
  intro l
  induction l with
  | nil => intro i; rfl
  | cons x t ih =>
    intro i
    cases i with
    | zero => rfl
    | succ i => show (x :: sl t i v).length = _; rw [List.length_cons, ih i, List.length_cons]
theorem gl_sl (v : Nat) : ∀ (l : List Nat) (i j : Nat), i < l.length → gl (sl l i v) j = if j = i then v else gl l j := by
  intro l
  induction l with
  | nil => intro i j h; exact absurd h (Nat.not_lt_zero i)
  | cons x t ih =>
    intro i j h
    have h : i < t.length + 1 := h
    cases i with
    | zero =>
      cases j with
      | zero => rfl
      | succ j => rfl
    | succ i =>
      cases j with
      | zero => rfl
      | succ j =>
        have e := ih i j (by omega)
        show gl (sl t i v) j = if j + 1 = i + 1 then v else gl t j
        rw [e]
        by_cases z : j = i
        · rw [if_pos z, if_pos (by omega)]
        · rw [if_neg z, if_neg (by omega)]
noncomputable def frc {α : Type} (n : Nat) (k : Nat → α) : α := Nat.rec (k 0) (fun m _ => k (Nat.succ m)) n
theorem frc_s {α : Type} (n : Nat) (k : Nat → α) : frc n k = k n := by cases n <;> rfl
theorem bc_t {α : Type} {a b : Nat} (h : a ≤ b) (x y : α) : cond (Nat.ble a b) x y = x := by rw [Nat.ble_eq_true_of_le h]; rfl
theorem bc_f {α : Type} {a b : Nat} (h : ¬ a ≤ b) (x y : α) : cond (Nat.ble a b) x y = y := by
  rw [show Nat.ble a b = false from not_t (fun q => h (Nat.le_of_ble_eq_true q))]; rfl
theorem be_t {α : Type} {a b : Nat} (h : a = b) (x y : α) : cond (Nat.beq a b) x y = x := by rw [h, Nat.beq_refl]; rfl
theorem be_f {α : Type} {a b : Nat} (h : ¬ a = b) (x y : α) : cond (Nat.beq a b) x y = y := by
  rw [show Nat.beq a b = false from not_t (fun q => h (Nat.eq_of_beq_eq_true q))]; rfl
/-- the next table from e on that takes s more -/
noncomputable def fndR (L s : Nat) (k : List Nat) (ub g : Nat) : Nat → Option Nat :=
  Nat.rec (fun _ => none) (fun _ ih e => cond (Nat.ble e ub) (cond (Nat.ble (gl k e + s) L) (some e) (cond (Nat.ble (gl k e + s) 1000) (ih (e + 1)) none)) (some e)) g
noncomputable def dfsR (z : List Nat) (P L g : Nat) : List Nat → List Nat → List Nat → Nat → Nat → Option Nat :=
  Nat.rec (fun _ _ _ _ _ => none) (fun _ ih a u k best D =>
    Nat.rec (some best) (fun d _ =>
      cond (Nat.ble (gl u d) 7)
        (cond (Nat.beq d P) (frc (cond (Nat.ble best (gl u d)) best (gl u d)) fun b' => ih a u k b' d)
          (cond (Nat.ble (gl a d) 8)
            (cond (Nat.ble (gl z d) (cond (Nat.ble 1 (gl a d)) (gl k (gl a d - 1)) 1000))
              ((fun k1 => Option.rec none (fun e0 => frc e0 fun e => cond (Nat.ble e (gl u d))
                (ih (sl (sl a d (e + 1)) (d + 1) 0) (sl u (d + 1) (cond (Nat.beq e (gl u d)) (e + 1) (gl u d))) (sl k1 e (gl k1 e + gl z d)) best (d + 2))
                (ih a u k1 best d)) (fndR L (gl z d) k1 (gl u d) 9 (gl a d)))
                (cond (Nat.ble 1 (gl a d)) (sl k (gl a d - 1) (gl k (gl a d - 1) - gl z d)) k)) none) none)) none) D) g
noncomputable def dfsA (z : List Nat) (L : Nat) : Option Nat := dfsR z z.length L 3000 [0, 0, 0, 0, 0, 0, 0, 0] [0, 0, 0, 0, 0, 0, 0, 0] [0, 0, 0, 0, 0, 0, 0, 0] z.length 1
/-- packed tables -/
def gt16 (x i : Nat) : Nat := Nat.mod (Nat.div x (Nat.pow 16 i)) 16
noncomputable def tfR (S N m L g : Nat) : Nat → Nat → Option Nat :=
  Nat.rec (fun _ _ => none) (fun _ ih s v => cond (Nat.ble s m) (cond (Nat.beq (Nat.land s m) s) (cond (Nat.ble (gt16 S s) L)
    (frc (cond (Nat.ble v (1 + gt16 N (m - s))) v (1 + gt16 N (m - s))) fun v' => ih (s + 1) v') (ih (s + 1) v)) (ih (s + 1) v)) (some v)) g
noncomputable def dpR (z : List Nat) (T L g : Nat) : Nat → Nat → Nat → Option Nat :=
  Nat.rec (fun _ _ _ => none) (fun _ ih m S N => cond (Nat.ble m T)
    (frc (gt16 S (m - 2 ^ Nat.log2 m) + gl z (Nat.log2 m)) fun v => cond (Nat.ble v 15)
      (frc (S + v * 16 ^ m) fun S' => Option.rec none (fun r => cond (Nat.ble r 15) (frc (N + r * 16 ^ m) fun N' => ih (m + 1) S' N') none) (tfR S' N m L 129 1 7)) none)
    (some (gt16 N T))) g
noncomputable def dpA (z : List Nat) (L : Nat) : Option Nat := dpR z (2 ^ z.length - 1) L 129 1 0 0
def comps : Nat → Nat → List (List Nat)
  | 0, _ => [[]]
  | f + 1, s => [] :: (List.range s).flatMap fun i => (comps f (s - (i + 1))).map fun l => (i + 1) :: l
theorem comps_mem : ∀ (z : List Nat) (f s : Nat), z.length ≤ f → z.sum ≤ s → (∀ x, x ∈ z → 1 ≤ x) → z ∈ comps f s := by
  intro z
  induction z with
  | nil => intro f s _ _ _; cases f with
    | zero => exact List.mem_singleton.mpr rfl
    | succ f => exact List.mem_cons_self
  | cons x t ih =>
    intro f s h1 h2 h3
    have h1 : t.length + 1 ≤ f := h1
    have h2 : x + t.sum ≤ s := by rw [List.sum_cons] at h2; exact h2
    have hx := h3 x List.mem_cons_self
    cases f with
    | zero => omega
    | succ f =>
      refine List.mem_cons_of_mem _ (List.mem_flatMap.mpr ⟨x - 1, List.mem_range.mpr (by omega), List.mem_map.mpr ⟨t, ih f _ (by omega) (by omega) (fun y hy => h3 y (List.mem_cons_of_mem _ hy)), ?_⟩⟩)
      show (x - 1 + 1) :: t = x :: t
      rw [show x - 1 + 1 = x by omega]
noncomputable def sames (a b : Option Nat) : Bool := Option.rec false (fun x => Option.rec false (fun y => Nat.beq x y) b) a
noncomputable def chkz (z : List Nat) (L : Nat) : Bool := cond (z.all fun x => Nat.ble x L) (sames (dfsA z L) (dpA z L)) true
theorem lun_1 : ((comps 7 7).all fun z => chkz z 1) = true := by decide +kernel
theorem lun_2 : ((comps 7 7).all fun z => chkz z 2) = true := by decide +kernel
theorem lun_3 : ((comps 7 7).all fun z => chkz z 3) = true := by decide +kernel
theorem lun_4 : ((comps 7 7).all fun z => chkz z 4) = true := by decide +kernel
theorem lun_5 : ((comps 7 7).all fun z => chkz z 5) = true := by decide +kernel
theorem lun_6 : ((comps 7 7).all fun z => chkz z 6) = true := by decide +kernel
theorem lun_7 : ((comps 7 7).all fun z => chkz z 7) = true := by decide +kernel
