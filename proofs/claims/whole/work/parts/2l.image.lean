/-! ===== the calls image and from, both sides (laid by wip/gen/mk_image.py) ===== -/
theorem XL.cp {W : Nat} {f f' : Nat → Int32} {a : Ls} (X : XL W f a) (h : ∀ x, x < a.1 * W → f' x = f x) : XL W f' a := by
  intro i hi c hc
  have h1 : i * W + W ≤ a.1 * W := by
    have := Nat.mul_le_mul_right W (show i + 1 ≤ a.1 from hi)
    rw [Nat.add_mul, Nat.one_mul] at this
    exact this
  rw [h _ (by omega)]
  exact X i hi c hc
theorem XT.cp {f f' : Nat → Int32} {t : Tb} (X : XT f t) (h : ∀ x, x < tN t * 5 → f' x = f x) : XT f' t := by
  intro i hi
  rw [h _ (by omega), h _ (by omega), h _ (by omega), h _ (by omega), h _ (by omega)]
  exact X i hi
theorem XM.cp {f f' : Nat → Int32} {g : Mg} (X : XM f g) (h : ∀ x, x < gN g * 3 → f' x = f x) : XM f' g := by
  intro i hi
  rw [h _ (by omega), h _ (by omega), h _ (by omega)]
  exact X i hi
theorem XP.cp {f f' : Nat → Int32} {n : Nat} {p : Ps} (hn : n ≤ 7) (X : XP f n p) (h : ∀ x, x < pN p * 22 → f' x = f x) : XP f' n p := by
  intro q hq
  refine ⟨by rw [h _ (by omega)]; exact (X q hq).1, fun k hk => ?_⟩
  rw [h _ (by omega), h _ (by omega), h _ (by omega)]
  exact (X q hq).2 k hk
section IM
variable {dy : Int32} {cs : Int32} {cc : Nat → Int32} {ms : Int32} {mc : Nat → Int32} {ts : Int32} {tc : Nat → Int32} {ns : Int32} {nc : Nat → Int32} {ks : Int32} {kc : Nat → Int32} {ps : Int32} {pc : Nat → Int32} {idy : Int32} {ics : Int32} {icc : Nat → Int32} {ims : Int32} {imc : Nat → Int32} {its : Int32} {itc : Nat → Int32} {ins : Int32} {inc : Nat → Int32} {iks : Int32} {ikc : Nat → Int32} {ips : Int32} {ipc : Nat → Int32} {jdy : Int32} {jcs : Int32} {jcc : Nat → Int32} {jms : Int32} {jmc : Nat → Int32} {jts : Int32} {jtc : Nat → Int32} {jns : Int32} {jnc : Nat → Int32} {jks : Int32} {jkc : Nat → Int32} {jps : Int32} {jpc : Nat → Int32} {w : Nat → Int32} {o : Ofc}
theorem x_offCopy (zdy : Int32) (zcs : Int32) (zcc : Nat → Int32) (zms : Int32) (zmc : Nat → Int32) (zts : Int32) (ztc : Nat → Int32) (zns : Int32) (znc : Nat → Int32) (zks : Int32) (zkc : Nat → Int32) (zps : Int32) (zpc : Nat → Int32) (X : XO dy cs cc ms mc ts tc ns nc ks kc ps pc o) (V : VO o) :
    ∃ cc' mc' tc' nc' kc' pc', f_X6_copyFrom zdy zcs zcc zms zmc zts ztc zns znc zks zkc zps zpc dy cs cc ms mc ts tc ns nc ks kc ps pc = some (dy, cs, cc', ms, mc', ts, tc', ns, nc', ks, kc', ps, pc') ∧ XO dy cs cc' ms mc' ts tc' ns nc' ks kc' ps pc' o := by
  obtain ⟨rfl, rfl, Xc, rfl, Xm, rfl, Xa, rfl, Xb, rfl, Xk, rfl, Xp⟩ := X
  obtain ⟨v1, v2, v3, v4, v5, v6, v7⟩ := V
  have a1 := v2.1.1
  have a2 := v3.1
  have a3 := v4.1
  have a4 := v5.1
  have a5 := v6.1
  have a6 := v7.1
  obtain ⟨f1, e1, h1⟩ := x_copy (most := 7) (W := 5) (s := tN (oT o)) (N := 35) (N2 := 35) (sz := zcs) (f2 := cc) (f0 := zcc) a1 (by omega) (by omega) (by omega) (by omega) (by omega)
  obtain ⟨f2, e2, h2⟩ := x_copy (most := 3) (W := 3) (s := gN (oG o)) (N := 9) (N2 := 9) (sz := zms) (f2 := mc) (f0 := zmc) a2 (by omega) (by omega) (by omega) (by omega) (by omega)
  obtain ⟨f3, e3, h3⟩ := x_copy (most := 5) (W := 4) (s := (oA o).1) (N := 20) (N2 := 20) (sz := zts) (f2 := tc) (f0 := ztc) a3 (by omega) (by omega) (by omega) (by omega) (by omega)
  obtain ⟨f4, e4, h4⟩ := x_copy (most := 6) (W := 4) (s := (oB o).1) (N := 24) (N2 := 24) (sz := zns) (f2 := nc) (f0 := znc) a4 (by omega) (by omega) (by omega) (by omega) (by omega)
  obtain ⟨f5, e5, h5⟩ := x_copy (most := 6) (W := 5) (s := (oC o).1) (N := 30) (N2 := 30) (sz := zks) (f2 := kc) (f0 := zkc) a5 (by omega) (by omega) (by omega) (by omega) (by omega)
  obtain ⟨f6, e6, h6⟩ := x_copy (most := 8) (W := 22) (s := pN (oP o)) (N := 176) (N2 := 176) (sz := zps) (f2 := pc) (f0 := zpc) a6 (by omega) (by omega) (by omega) (by omega) (by omega)
  have e1 : f_X7_copyFrom 7 5 zcs 35 zcc (nI (tN (oT o))) 35 cc = some (nI (tN (oT o)), f1) := e1
  have e2 : f_X7_copyFrom 3 3 zms 9 zmc (nI (gN (oG o))) 9 mc = some (nI (gN (oG o)), f2) := e2
  have e3 : f_X7_copyFrom 5 4 zts 20 ztc (nI (oA o).1) 20 tc = some (nI (oA o).1, f3) := e3
  have e4 : f_X7_copyFrom 6 4 zns 24 znc (nI (oB o).1) 24 nc = some (nI (oB o).1, f4) := e4
  have e5 : f_X7_copyFrom 6 5 zks 30 zkc (nI (oC o).1) 30 kc = some (nI (oC o).1, f5) := e5
  have e6 : f_X7_copyFrom 8 22 zps 176 zpc (nI (pN (oP o))) 176 pc = some (nI (pN (oP o)), f6) := e6
  refine ⟨f1, f2, f3, f4, f5, f6, ?_, ⟨rfl, rfl, XT.cp Xc (fun x hx => by rw [h1, if_pos hx]), rfl, XM.cp Xm (fun x hx => by rw [h2, if_pos hx]), rfl, XL.cp Xa (fun x hx => by rw [h3, if_pos hx]), rfl, XL.cp Xb (fun x hx => by rw [h4, if_pos hx]), rfl, XL.cp Xk (fun x hx => by rw [h5, if_pos hx]), rfl, XP.cp a1 Xp (fun x hx => by rw [h6, if_pos hx])⟩⟩
  unfold f_X6_copyFrom
  rw [e1, ob2_s, e2, ob2_s, e3, ob2_s, e4, ob2_s, e5, ob2_s, e6, ob2_s]
/-- a kept image, on both sides -/
def Im (fk : Int32) (dy : Int32) (cs : Int32) (cc : Nat → Int32) (ms : Int32) (mc : Nat → Int32) (ts : Int32) (tc : Nat → Int32) (ns : Int32) (nc : Nat → Int32) (ks : Int32) (kc : Nat → Int32) (ps : Int32) (pc : Nat → Int32) (w : Nat → Int32) (r : Nat) (kp : Nat → Int32) (k : Nat) : Prop := (fk = 0 ∨ fk = 1) ∧ kp k = fk ∧ (fk = 1 → ∃ o, XO dy cs cc ms mc ts tc ns nc ks kc ps pc o ∧ VO o ∧ MO w r o)
theorem Im.fr {fk : Int32} {w' : Nat → Int32} {r k : Nat} {kp kp' : Nat → Int32} (I : Im fk dy cs cc ms mc ts tc ns nc ks kc ps pc w r kp k) (h : ∀ x, r ≤ x → x < r + 301 → w' x = w x) (hk : kp' k = kp k) : Im fk dy cs cc ms mc ts tc ns nc ks kc ps pc w' r kp' k :=
  ⟨I.1, hk.trans I.2.1, fun q => by
    obtain ⟨o, a, b, c⟩ := I.2.2 q
    exact ⟨o, a, b, MO.fr b c h⟩⟩
theorem nar_1 : vp_nar .boolean 1 = 1 := rfl
theorem c_image_eq {fk sk : Int32} {kp : Nat → Int32} (X : XO dy cs cc ms mc ts tc ns nc ks kc ps pc o) (V : VO o) (M : MO w 0 o) (I : Im fk idy ics icc ims imc its itc ins inc iks ikc ips ipc w 301 kp 0) (J : Im sk jdy jcs jcc jms jmc jts jtc jns jnc jks jkc jps jpc w 602 kp 1) (st st2 : Nat → Int32) (x1 : Int32) :
    ∃ (r : Int32) (c : Option Nat) (fk' sk' : Int32) (idy' : Int32) (ics' : Int32) (icc' : Nat → Int32) (ims' : Int32) (imc' : Nat → Int32) (its' : Int32) (itc' : Nat → Int32) (ins' : Int32) (inc' : Nat → Int32) (iks' : Int32) (ikc' : Nat → Int32) (ips' : Int32) (ipc' : Nat → Int32) (jdy' : Int32) (jcs' : Int32) (jcc' : Nat → Int32) (jms' : Int32) (jmc' : Nat → Int32) (jts' : Int32) (jtc' : Nat → Int32) (jns' : Int32) (jnc' : Nat → Int32) (jks' : Int32) (jkc' : Nat → Int32) (jps' : Int32) (jpc' : Nat → Int32) (w' kp' : Nat → Int32), f_X11_image fk sk dy cs cc ms mc ts tc ns nc ks kc ps pc idy ics icc ims imc its itc ins inc iks ikc ips ipc jdy jcs jcc jms jmc jts jtc jns jnc jks jkc jps jpc st x1 = some (r, fk', sk', idy', ics', icc', ims', imc', its', itc', ins', inc', iks', ikc', ips', ipc', jdy', jcs', jcc', jms', jmc', jts', jtc', jns', jnc', jks', jkc', jps', jpc', stx c st) ∧ f_X12_image w kp st2 x1 = some (r, w', kp', stx c st2) ∧ (∀ i, c = some i → i < 3) ∧
      Im fk' idy' ics' icc' ims' imc' its' itc' ins' inc' iks' ikc' ips' ipc' w' 301 kp' 0 ∧ Im sk' jdy' jcs' jcc' jms' jmc' jts' jtc' jns' jnc' jks' jkc' jps' jpc' w' 602 kp' 1 ∧ ∀ x, x < 301 → w' x = w x := by
  unfold f_X11_image f_X12_image
  rw [x_within, m_in, ob1_s, ob1_s, show (0 : Int32).toInt = (0 : Int64).toInt from rfl, show (1 : Int32).toInt = (1 : Int64).toInt from rfl]
  by_cases h : (0 : Int64).toInt ≤ x1.toInt ∧ x1.toInt ≤ (1 : Int64).toInt
  · rw [if_pos h, if_neg one_ne, if_neg one_ne]
    have h : 0 ≤ x1.toInt ∧ x1.toInt ≤ 1 := h
    obtain ⟨k, rfl, hk, -⟩ := nat_of h.1
    rcases (show k = 0 ∨ k = 1 by omega) with rfl | rfl
    · rw [if_pos (show nI 0 = (0 : Int32) from rfl), show (301 : Int32) + 301 * nI 0 = nI 301 from rfl]
      obtain ⟨cc', mc', tc', nc', kc', pc', e1, X1⟩ := x_offCopy idy ics icc ims imc its itc ins inc iks ikc ips ipc X V
      obtain ⟨w', e2, hw⟩ := m_copy (a := 0) (b := 301) (by omega) (by omega) (by omega) w
      have e2 : f_X12_copy w 0 (nI 301) = some w' := e2
      rw [e1, ob13_s, e2, ob1_s, chk_n (by omega) (by omega), nI_clamp (by omega), bnd_s, nar_1]
      refine ⟨1, none, 1, sk, dy, cs, cc', ms, mc', ts, tc', ns, nc', ks, kc', ps, pc', jdy, jcs, jcc, jms, jmc, jts, jtc, jns, jnc, jks, jkc, jps, jpc, w', upd kp 0 1, rfl, rfl, fun i hi => (by cases hi), ⟨Or.inr rfl, pk_us, fun _ => ⟨o, X1, V, MO.cp V M (fun x hx => ?_)⟩⟩, Im.fr J (fun x h1 h2 => ?_) (pk_un (by omega)), fun x hx => ?_⟩
      · rw [hw, if_pos (by omega), show 0 + (301 + x - 301) = 0 + x by omega]
      · rw [hw, if_neg (by omega)]
      · rw [hw, if_neg (by omega)]
    · rw [if_neg (show ¬ nI 1 = (0 : Int32) by decide), show (301 : Int32) + 301 * nI 1 = nI 602 from rfl]
      obtain ⟨cc', mc', tc', nc', kc', pc', e1, X1⟩ := x_offCopy jdy jcs jcc jms jmc jts jtc jns jnc jks jkc jps jpc X V
      obtain ⟨w', e2, hw⟩ := m_copy (a := 0) (b := 602) (by omega) (by omega) (by omega) w
      have e2 : f_X12_copy w 0 (nI 602) = some w' := e2
      rw [e1, ob13_s, e2, ob1_s, chk_n (by omega) (by omega), nI_clamp (by omega), bnd_s, nar_1]
      refine ⟨1, none, fk, 1, idy, ics, icc, ims, imc, its, itc, ins, inc, iks, ikc, ips, ipc, dy, cs, cc', ms, mc', ts, tc', ns, nc', ks, kc', ps, pc', w', upd kp 1 1, rfl, rfl, fun i hi => (by cases hi), Im.fr I (fun x h1 h2 => ?_) (pk_un (by omega)), ⟨Or.inr rfl, pk_us, fun _ => ⟨o, X1, V, MO.cp V M (fun x hx => ?_)⟩⟩, fun x hx => ?_⟩
      · rw [hw, if_neg (by omega)]
      · rw [hw, if_pos (by omega), show 0 + (602 + x - 602) = 0 + x by omega]
      · rw [hw, if_neg (by omega)]
  · rw [if_neg h, if_pos rfl, if_pos rfl, x_bad, m_bad, ob2_s, ob2_s]
    refine ⟨-2, some 0, fk, sk, idy, ics, icc, ims, imc, its, itc, ins, inc, iks, ikc, ips, ipc, jdy, jcs, jcc, jms, jmc, jts, jtc, jns, jnc, jks, jkc, jps, jpc, w, kp, rfl, rfl, fun i hi => ?_, I, J, fun _ _ => rfl⟩
    injection hi with hi; omega
theorem c_from_eq {fk sk : Int32} {kp : Nat → Int32} (X : XO dy cs cc ms mc ts tc ns nc ks kc ps pc o) (V : VO o) (M : MO w 0 o) (I : Im fk idy ics icc ims imc its itc ins inc iks ikc ips ipc w 301 kp 0) (J : Im sk jdy jcs jcc jms jmc jts jtc jns jnc jks jkc jps jpc w 602 kp 1) (st st2 : Nat → Int32) (x1 : Int32) :
    ∃ (r : Int32) (c : Option Nat) (o' : Ofc) (dy' : Int32) (cs' : Int32) (cc' : Nat → Int32) (ms' : Int32) (mc' : Nat → Int32) (ts' : Int32) (tc' : Nat → Int32) (ns' : Int32) (nc' : Nat → Int32) (ks' : Int32) (kc' : Nat → Int32) (ps' : Int32) (pc' : Nat → Int32) (w' : Nat → Int32), f_X11_from fk sk dy cs cc ms mc ts tc ns nc ks kc ps pc idy ics icc ims imc its itc ins inc iks ikc ips ipc jdy jcs jcc jms jmc jts jtc jns jnc jks jkc jps jpc st x1 = some (r, dy', cs', cc', ms', mc', ts', tc', ns', nc', ks', kc', ps', pc', stx c st) ∧ f_X12_from w kp st2 x1 = some (r, w', stx c st2) ∧ (∀ i, c = some i → i < 3) ∧
      XO dy' cs' cc' ms' mc' ts' tc' ns' nc' ks' kc' ps' pc' o' ∧ VO o' ∧ MO w' 0 o' ∧ ∀ x, 301 ≤ x → w' x = w x := by
  unfold f_X11_from f_X12_from
  rw [x_within, m_in, ob1_s, ob1_s, show (0 : Int32).toInt = (0 : Int64).toInt from rfl, show (1 : Int32).toInt = (1 : Int64).toInt from rfl]
  by_cases h : (0 : Int64).toInt ≤ x1.toInt ∧ x1.toInt ≤ (1 : Int64).toInt
  · rw [if_pos h, if_neg one_ne, if_neg one_ne]
    have h : 0 ≤ x1.toInt ∧ x1.toInt ≤ 1 := h
    obtain ⟨k, rfl, hk, -⟩ := nat_of h.1
    rcases (show k = 0 ∨ k = 1 by omega) with rfl | rfl
    · rw [if_pos (show nI 0 = (0 : Int32) from rfl), show (301 : Int32) + 301 * nI 0 = nI 301 from rfl, chk_n (by omega) (by omega), nI_clamp (by omega), I.2.1]
      rcases I.1 with q | q
      · rw [if_pos q, if_pos q]
        unfold f_X11_from_37
        rw [x_no, m_no, ob2_s, ob2_s]
        refine ⟨-3, some 1, o, dy, cs, cc, ms, mc, ts, tc, ns, nc, ks, kc, ps, pc, w, rfl, rfl, fun i hi => ?_, X, V, M, fun _ _ => rfl⟩
        injection hi with hi; omega
      · rw [if_neg (show ¬ fk = 0 by rw [q]; decide), if_neg (show ¬ fk = 0 by rw [q]; decide)]
        unfold f_X11_from_44
        rw [if_pos (show nI 0 = (0 : Int32) from rfl)]
        obtain ⟨o', Xi, Vi, Mi⟩ := I.2.2 q
        obtain ⟨cc', mc', tc', nc', kc', pc', e1, X1⟩ := x_offCopy dy cs cc ms mc ts tc ns nc ks kc ps pc Xi Vi
        obtain ⟨w', e2, hw⟩ := m_copy (a := 301) (b := 0) (by omega) (by omega) (by omega) w
        have e2 : f_X12_copy w (nI 301) 0 = some w' := e2
        rw [e1, ob13_s, e2, ob1_s]
        refine ⟨1, none, o', _, _, cc', _, mc', _, tc', _, nc', _, kc', _, pc', w', rfl, rfl, fun i hi => (by cases hi), X1, Vi, MO.cp Vi Mi (fun x hx => ?_), fun x hx => ?_⟩
        · rw [hw, if_pos (by omega), show 301 + (0 + x - 0) = 301 + x by omega]
        · rw [hw, if_neg (by omega)]
    · rw [if_neg (show ¬ nI 1 = (0 : Int32) by decide), show (301 : Int32) + 301 * nI 1 = nI 602 from rfl, chk_n (by omega) (by omega), nI_clamp (by omega), J.2.1]
      rcases J.1 with q | q
      · rw [if_pos q, if_pos q]
        unfold f_X11_from_37
        rw [x_no, m_no, ob2_s, ob2_s]
        refine ⟨-3, some 1, o, dy, cs, cc, ms, mc, ts, tc, ns, nc, ks, kc, ps, pc, w, rfl, rfl, fun i hi => ?_, X, V, M, fun _ _ => rfl⟩
        injection hi with hi; omega
      · rw [if_neg (show ¬ sk = 0 by rw [q]; decide), if_neg (show ¬ sk = 0 by rw [q]; decide)]
        unfold f_X11_from_44
        rw [if_neg (show ¬ nI 1 = (0 : Int32) by decide)]
        obtain ⟨o', Xi, Vi, Mi⟩ := J.2.2 q
        obtain ⟨cc', mc', tc', nc', kc', pc', e1, X1⟩ := x_offCopy dy cs cc ms mc ts tc ns nc ks kc ps pc Xi Vi
        obtain ⟨w', e2, hw⟩ := m_copy (a := 602) (b := 0) (by omega) (by omega) (by omega) w
        have e2 : f_X12_copy w (nI 602) 0 = some w' := e2
        rw [e1, ob13_s, e2, ob1_s]
        refine ⟨1, none, o', _, _, cc', _, mc', _, tc', _, nc', _, kc', _, pc', w', rfl, rfl, fun i hi => (by cases hi), X1, Vi, MO.cp Vi Mi (fun x hx => ?_), fun x hx => ?_⟩
        · rw [hw, if_pos (by omega), show 602 + (0 + x - 0) = 602 + x by omega]
        · rw [hw, if_neg (by omega)]
  · rw [if_neg h, if_pos rfl, if_pos rfl, x_bad, m_bad, ob2_s, ob2_s]
    refine ⟨-2, some 0, o, dy, cs, cc, ms, mc, ts, tc, ns, nc, ks, kc, ps, pc, w, rfl, rfl, fun i hi => ?_, X, V, M, fun _ _ => rfl⟩
    injection hi with hi; omega
end IM
