section CS
variable {G : kG} {l : Launch} {D : va_G} {cI cZ : ClassId} {q : (Nat → Nat) × (Nat → Nat)} {b L : Nat} {xs : Nat → Int32} {ce sl : Nat} {hh : Nat → Nat} {ws : va_W} {i : Nat}
theorem six_lt : ∀ k, k < 6 → nI k - 6 < (0 : Int32) := by decide +kernel
theorem head_in {L i : Nat} (hL : L ≤ 3072) (hi : i ≤ L) (h : ¬ nI L - 6 < nI i) : i + 6 ≤ L := by
  rcases Nat.lt_or_ge L 6 with y | y
  · have h1 := Int32.lt_iff_toInt_lt.mp (six_lt L y)
    have h0 : (0 : Int32).toInt = 0 := rfl
    have h2 : (nI i).toInt = (i : Int) := nI_toInt (by omega)
    exact absurd (Int32.lt_iff_toInt_lt.mpr (by omega)) h
  · have e : nI L - 6 = nI (L - 6) := nI_sub (b := 6) y
    rw [e] at h
    rcases Nat.lt_or_ge (L - 6) i with u | u
    · exact absurd (nI_lt u (by omega)) h
    · omega
theorem six_of : Int32.ofInt 6 = nI 6 := by decide
theorem law_loop (X : OkL G l D cI cZ (some q) b L xs) (hL : L ≤ 3072) (hce : ce ≤ room_1.cells) (hsl : sl ≤ room_1.slots) : ∀ (n i : Nat) (ws : va_W), i ≤ L → L < i + n → St cI cZ hh ws → G ce sl ws (lvL b (hh 0) (hh 68) i) 18 [] := by
  intro n
  induction n with
  | zero => intro i ws h1 h2; exact absurd h2 (by omega)
  | succ n ih =>
    intro i ws h1 h2 S
    refine g_iload_n X.ok dL_law_18 rfl 3 rfl ?_
    refine g_aload_n X.ok dL_law_19 rfl 0 rfl ?_
    refine g_sln X dL_law_20 ?_
    refine g_bipush (v := 6) X.ok dL_law_21 (by decide) ?_
    refine g_isub X.ok dL_law_23 ?_
    refine g_icmp_gt (tgt := 1312) X.ok dL_law_24 (by decide) (fun _ => ?_) (fun hc => ?_)
    · refine g_iconst (v := 1) X.ok dL_law_1312 (by decide) ?_
      exact g_fin X hce hsl dL_law_1313
    · have hi : i + 6 ≤ L := head_in hL h1 hc
      have nx : ∀ ws', St cI cZ hh ws' → G ce sl ws' (lvL b (hh 0) (hh 68) i) 1306 [] := by
        intro ws' S'
        refine g_iinc (v := nI (i + 6)) (lv' := lvL b (hh 0) (hh 68) (i + 6)) X.ok dL_law_1306 3 rfl (by rw [six_of, nI_add]) (by decide) [1, 2, 3, 0] rfl ?_
        refine g_goto (tgt := 18) X.ok dL_law_1309 (by decide) ?_
        exact ih (i + 6) ws' hi (by omega) S'
      refine g_aload_n X.ok dL_law_27 rfl 0 rfl ?_
      refine g_iload_n X.ok dL_law_28 rfl 3 rfl ?_
      refine g_arr0 X hL (by omega) dL_law_29 ?_
      refine g_bipush (v := 63) X.ok dL_law_30 (by decide) ?_
      refine g_iand X.ok dL_law_32 ?_
      generalize xs i &&& 63 = v
      by_cases hv : v.toInt < 0 ∨ 37 < v.toInt
      · exact g_tableOut (tgt := 1306) X.ok dL_law_33 hv (by decide) (nx ws S)
      · obtain ⟨k, rfl, hk, -⟩ := nat_of (show 0 ≤ v.toInt by omega)
        have hk7 : k ≤ 37 := by omega
        rcases (show k = 0 ∨ k = 1 ∨ k = 2 ∨ k = 3 ∨ k = 4 ∨ k = 5 ∨ k = 6 ∨ k = 7 ∨ k = 8 ∨ k = 9 ∨ k = 10 ∨ k = 11 ∨ k = 12 ∨ k = 13 ∨ k = 14 ∨ k = 15 ∨ k = 16 ∨ k = 17 ∨ k = 18 ∨ k = 19 ∨ k = 20 ∨ k = 21 ∨ k = 22 ∨ k = 23 ∨ k = 24 ∨ k = 25 ∨ k = 26 ∨ k = 27 ∨ k = 28 ∨ k = 29 ∨ k = 30 ∨ k = 31 ∨ k = 32 ∨ k = 33 ∨ k = 34 ∨ k = 35 ∨ k = 36 ∨ k = 37 by omega) with rfl | rfl | rfl | rfl | rfl | rfl | rfl | rfl | rfl | rfl | rfl | rfl | rfl | rfl | rfl | rfl | rfl | rfl | rfl | rfl | rfl | rfl | rfl | rfl | rfl | rfl | rfl | rfl | rfl | rfl | rfl | rfl | rfl | rfl | rfl | rfl | rfl | rfl
        · exact g_tableIn (tgt := 200) X.ok dL_law_33 (by decide) (by decide) rfl (by decide) (k_office X hL hce hsl hi S nx)
        · exact g_tableIn (tgt := 213) X.ok dL_law_33 (by decide) (by decide) rfl (by decide) (k_clerk X hL hce hsl hi S nx)
        · exact g_tableIn (tgt := 256) X.ok dL_law_33 (by decide) (by decide) rfl (by decide) (k_magnet X hL hce hsl hi S nx)
        · exact g_tableIn (tgt := 299) X.ok dL_law_33 (by decide) (by decide) rfl (by decide) (k_type X hL hce hsl hi S nx)
        · exact g_tableIn (tgt := 322) X.ok dL_law_33 (by decide) (by decide) rfl (by decide) (k_clear X hL hce hsl hi S nx)
        · exact g_tableIn (tgt := 335) X.ok dL_law_33 (by decide) (by decide) rfl (by decide) (k_read X hL hce hsl hi S nx)
        · exact g_tableIn (tgt := 348) X.ok dL_law_33 (by decide) (by decide) rfl (by decide) (k_hook X hL hce hsl hi S nx)
        · exact g_tableIn (tgt := 381) X.ok dL_law_33 (by decide) (by decide) rfl (by decide) (k_unbend X hL hce hsl hi S nx)
        · exact g_tableIn (tgt := 404) X.ok dL_law_33 (by decide) (by decide) rfl (by decide) (k_day X hL hce hsl hi S nx)
        · exact g_tableIn (tgt := 427) X.ok dL_law_33 (by decide) (by decide) rfl (by decide) (k_undo X hL hce hsl hi S nx)
        · exact g_tableIn (tgt := 440) X.ok dL_law_33 (by decide) (by decide) rfl (by decide) (k_of X hL hce hsl hi S nx)
        · exact g_tableIn (tgt := 473) X.ok dL_law_33 (by decide) (by decide) rfl (by decide) (k_felt X hL hce hsl hi S nx)
        · exact g_tableIn (tgt := 516) X.ok dL_law_33 (by decide) (by decide) rfl (by decide) (k_least X hL hce hsl hi S nx)
        · exact g_tableIn (tgt := 549) X.ok dL_law_33 (by decide) (by decide) rfl (by decide) (k_quiet X hL hce hsl hi S nx)
        · exact g_tableIn (tgt := 582) X.ok dL_law_33 (by decide) (by decide) rfl (by decide) (k_string X hL hce hsl hi S nx)
        · exact g_tableIn (tgt := 615) X.ok dL_law_33 (by decide) (by decide) rfl (by decide) (k_strings X hL hce hsl hi S nx)
        · exact g_tableIn (tgt := 638) X.ok dL_law_33 (by decide) (by decide) rfl (by decide) (k_then X hL hce hsl hi S nx)
        · exact g_tableIn (tgt := 671) X.ok dL_law_33 (by decide) (by decide) rfl (by decide) (k_lunch X hL hce hsl hi S nx)
        · exact g_tableIn (tgt := 694) X.ok dL_law_33 (by decide) (by decide) rfl (by decide) (k_free X hL hce hsl hi S nx)
        · exact g_tableIn (tgt := 717) X.ok dL_law_33 (by decide) (by decide) rfl (by decide) (k_caught X hL hce hsl hi S nx)
        · exact g_tableIn (tgt := 740) X.ok dL_law_33 (by decide) (by decide) rfl (by decide) (k_told X hL hce hsl hi S nx)
        · exact g_tableIn (tgt := 793) X.ok dL_law_33 (by decide) (by decide) rfl (by decide) (k_found X hL hce hsl hi S nx)
        · exact g_tableIn (tgt := 816) X.ok dL_law_33 (by decide) (by decide) rfl (by decide) (k_note X hL hce hsl hi S nx)
        · exact g_tableIn (tgt := 869) X.ok dL_law_33 (by decide) (by decide) rfl (by decide) (k_mark X hL hce hsl hi S nx)
        · exact g_tableIn (tgt := 932) X.ok dL_law_33 (by decide) (by decide) rfl (by decide) (k_forget X hL hce hsl hi S nx)
        · exact g_tableIn (tgt := 955) X.ok dL_law_33 (by decide) (by decide) rfl (by decide) (k_is X hL hce hsl hi S nx)
        · exact g_tableIn (tgt := 978) X.ok dL_law_33 (by decide) (by decide) rfl (by decide) (k_look X hL hce hsl hi S nx)
        · exact g_tableIn (tgt := 1001) X.ok dL_law_33 (by decide) (by decide) rfl (by decide) (k_kinds X hL hce hsl hi S nx)
        · exact g_tableIn (tgt := 1024) X.ok dL_law_33 (by decide) (by decide) rfl (by decide) (k_ask X hL hce hsl hi S nx)
        · exact g_tableIn (tgt := 1047) X.ok dL_law_33 (by decide) (by decide) rfl (by decide) (k_lifts X hL hce hsl hi S nx)
        · exact g_tableIn (tgt := 1090) X.ok dL_law_33 (by decide) (by decide) rfl (by decide) (k_slips X hL hce hsl hi S nx)
        · exact g_tableIn (tgt := 1143) X.ok dL_law_33 (by decide) (by decide) rfl (by decide) (k_decades X hL hce hsl hi S nx)
        · exact g_tableIn (tgt := 1176) X.ok dL_law_33 (by decide) (by decide) rfl (by decide) (k_part X hL hce hsl hi S nx)
        · exact g_tableIn (tgt := 1200) X.ok dL_law_33 (by decide) (by decide) rfl (by decide) (k_image X hL hce hsl hi S nx)
        · exact g_tableIn (tgt := 1223) X.ok dL_law_33 (by decide) (by decide) rfl (by decide) (k_from X hL hce hsl hi S nx)
        · exact g_tableIn (tgt := 1246) X.ok dL_law_33 (by decide) (by decide) rfl (by decide) (k_status X hL hce hsl hi S nx)
        · exact g_tableIn (tgt := 1269) X.ok dL_law_33 (by decide) (by decide) rfl (by decide) (k_count X hL hce hsl hi S nx)
        · exact g_tableIn (tgt := 1292) X.ok dL_law_33 (by decide) (by decide) rfl (by decide) (k_digest X hL hce hsl hi S nx)
end CS
