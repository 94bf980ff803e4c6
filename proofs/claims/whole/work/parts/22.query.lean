/-! QUERIES: what a call that only asks may change -/
/-- the reference's rows that a question reads -/
def MQs (h : aH) (w : Nat → Int32) : Prop := ∃ th tp sz at9 fr tk vl fk fp il up lo, ∃ sa9 tn : Nat → Int32, isO h 71 9 (MoF th tp sz at9 fr tk vl fk fp il up lo) ∧ isI h 72 2676 w ∧ isI h 78 14640 sa9 ∧ isI h 79 14400 tn ∧ LaidM w il sa9 tn
/-- it may lay the map, no more -/
def RQ (h h' : aH) (w : Nat → Int32) : Prop := h'.length = h.length ∧ (∀ k, k ≠ 71 → k ≠ 78 → k ≠ 79 → h'[k]? = h[k]?) ∧ (∃ th tp sz at9 fr tk vl fk fp il il' up lo, isO h 71 9 (MoF th tp sz at9 fr tk vl fk fp il up lo) ∧ isO h' 71 9 (MoF th tp sz at9 fr tk vl fk fp il' up lo)) ∧ MQs h' w
theorem isO_inj {h : aH} {k ci ci' : Nat} {fs fs' : List Value} (a : isO h k ci fs) (b : isO h k ci' fs') : fs = fs' := by
  have e := a.symm.trans b
  injection e with e
  injection e with e
  injection e
theorem RQ.rfl' {h : aH} {w : Nat → Int32} (H : MQs h w) : RQ h h w := by
  obtain ⟨th, tp, sz, at9, fr, tk, vl, fk, fp, il, up, lo, sa9, tn, q0, q1⟩ := id H
  exact ⟨rfl, fun _ _ _ _ => rfl, ⟨_, _, _, _, _, _, _, _, _, _, _, _, _, q0, q0⟩, H⟩
theorem RQ.tr {h h1 h2 : aH} {w : Nat → Int32} (A : RQ h h1 w) (B : RQ h1 h2 w) : RQ h h2 w := by
  obtain ⟨a1, a2, ⟨th, tp, sz, at9, fr, tk, vl, fk, fp, il, il', up, lo, a3, a4⟩, a5⟩ := A
  obtain ⟨b1, b2, ⟨th2, tp2, sz2, at92, fr2, tk2, vl2, fk2, fp2, il2, il'2, up2, lo2, b3, b4⟩, b5⟩ := B
  refine ⟨by omega, fun k p1 p2 p3 => (b2 k p1 p2 p3).trans (a2 k p1 p2 p3), ⟨th, tp, sz, at9, fr, tk, vl, fk, fp, il, il'2, up, lo, a3, ?_⟩, b5⟩
  have e := isO_inj a4 b3
  unfold MoF at e
  simp only [List.cons.injEq, Value.int.injEq, Value.long.injEq, and_true, true_and] at e
  obtain ⟨rfl, rfl, rfl, rfl, rfl, rfl, rfl, rfl, rfl, _, rfl, rfl⟩ := e
  exact b4
theorem RQ.mh {h h' : aH} {w : Nat → Int32} (R : RQ h h' w) : MH h' w := by
  obtain ⟨_, _, _, th, tp, sz, at9, fr, tk, vl, fk, fp, il, up, lo, sa9, tn, q0, q1, _⟩ := R
  exact ⟨_, _, _, _, _, _, _, _, _, _, _, _, q0, q1⟩
theorem MQs.mh {h : aH} {w : Nat → Int32} (R : MQs h w) : MH h w := by
  obtain ⟨th, tp, sz, at9, fr, tk, vl, fk, fp, il, up, lo, sa9, tn, q0, q1, _⟩ := R
  exact ⟨_, _, _, _, _, _, _, _, _, _, _, _, q0, q1⟩
theorem RepM.mq {h : aH} {w tp : Nat → Int32} {tl : Nat} {im hi : Nat → Int32} {fk fp : Int32} {mn wd : Nat → Int32} {nu : Nat → Int64} (HM : RepM h w tp tl im hi fk fp mn wd nu) : MQs h w := by
  obtain ⟨th, sz, at9, fr, tk, vl, il, up, lo, fv, fs, sa9, tn, le, mv, q0, q1, q2, q3, q4, q5, q6, q7, q8, q9, q10, q11, q12, q13, q14⟩ := HM
  exact ⟨_, _, _, _, _, _, _, _, _, _, _, _, _, _, q0, q1, q7, q8, q14⟩
theorem RepM.rq {h h' : aH} {w tp : Nat → Int32} {tl : Nat} {im hi : Nat → Int32} {fk fp : Int32} {mn wd : Nat → Int32} {nu : Nat → Int64} (HM : RepM h w tp tl im hi fk fp mn wd nu) (R : RQ h h' w) : RepM h' w tp tl im hi fk fp mn wd nu ∧ FrM h h' := by
  obtain ⟨th, sz, at9, fr, tk, vl, il, up, lo, fv, fs, sa9, tn, le, mv, q0, q1, q2, q3, q4, q5, q6, q7, q8, q9, q10, q11, q12, q13, q14⟩ := HM
  obtain ⟨a1, a2, ⟨th1, tp1, sz1, at91, fr1, tk1, vl1, fk1, fp1, il1, il1', up1, lo1, a3, a4⟩, th2, tp2, sz2, at92, fr2, tk2, vl2, fk2, fp2, il2, up2, lo2, sa2, tn2, c0, c1, c2, c3, c4⟩ := R
  have e := isO_inj a3 q0
  unfold MoF at e
  simp only [List.cons.injEq, Value.int.injEq, Value.long.injEq, and_true, true_and] at e
  obtain ⟨rfl, rfl, rfl, rfl, rfl, rfl, rfl, rfl, rfl, rfl, rfl, rfl⟩ := e
  have e := isO_inj c0 a4
  unfold MoF at e
  simp only [List.cons.injEq, Value.int.injEq, Value.long.injEq, and_true, true_and] at e
  obtain ⟨rfl, rfl, rfl, rfl, rfl, rfl, rfl, rfl, rfl, rfl, rfl, rfl⟩ := e
  have hk : ∀ k, k ≠ 71 → k ≠ 78 → k ≠ 79 → h'[k]? = h[k]? := a2
  refine ⟨⟨_, _, _, _, _, _, _, _, _, fv, fs, sa2, tn2, le, mv, c0, c1, q2.kp (hk _ (by decide) (by decide) (by decide)), q3.kp (hk _ (by decide) (by decide) (by decide)), q4.kp (hk _ (by decide) (by decide) (by decide)), q5.kp (hk _ (by decide) (by decide) (by decide)), q6.kp (hk _ (by decide) (by decide) (by decide)), c2, c3, q9.kp (hk _ (by decide) (by decide) (by decide)), q10.kp (hk _ (by decide) (by decide) (by decide)), q11.kp (hk _ (by decide) (by decide) (by decide)), q12.kp (hk _ (by decide) (by decide) (by decide)), q13.kp (hk _ (by decide) (by decide) (by decide)), c4⟩, a1, fun k p => hk k (by omega) (by omega) (by omega)⟩
/-- the class's objects that a question reads: all but the worked-out map and the rows used as scratch -/
def XV (h : aH) (ls : Nat) (w : Nat → Int32) : Prop := (ls = 24 ∨ ls = 3) ∧ (∃ x : Int32, isO h 0 8 [.ref 1, .int x, .ref 2, .ref 23, .ref 50, .ref 51, .ref 52, .ref 58, .ref 59, .ref 60, .ref 61, .ref 62]) ∧ SceneR h 23 ls 44 47 w ∧ isO h 52 6 [.ref ls, .ref 53, .ref 54, .ref 55, .ref 56, .ref 57]
def ScrX (h : aH) : Prop := ∃ bu lb ft ta un : Nat → Int32, isI h 58 40 bu ∧ isI h 59 24 lb ∧ isI h 60 24 ft ∧ isI h 61 5 ta ∧ isZ h 62 1024 un
/-- a question may work the map out further and use the scratch rows -/
def RX (h h' : aH) (ls : Nat) (w : Nat → Int32) : Prop := h'.length = h.length ∧ (∀ k, k < 53 ∨ 62 < k → h'[k]? = h[k]?) ∧ SpreadR h' ls w ∧ ScrX h'
theorem XV.fr {h h' : aH} {ls : Nat} {w : Nat → Int32} (V : XV h ls w) (hk : ∀ k, k < 53 ∨ 62 < k → h'[k]? = h[k]?) : XV h' ls w := by
  obtain ⟨a0, ⟨x, a1⟩, a2, a3⟩ := V
  exact ⟨a0, ⟨x, a1.kp (hk _ (by omega))⟩, a2.kp (hk _ (by omega)) (fun k p1 p2 => hk k (by omega)) (fun k p1 p2 => hk k (by omega)) (fun k p1 p2 => hk k (by omega)), a3.kp (hk _ (by omega))⟩
theorem RX.xv {h h' : aH} {ls : Nat} {w : Nat → Int32} (R : RX h h' ls w) (V : XV h ls w) : XV h' ls w := V.fr R.2.1
theorem RX.tr {h h1 h2 : aH} {ls : Nat} {w : Nat → Int32} (A : RX h h1 ls w) (B : RX h1 h2 ls w) : RX h h2 ls w := ⟨B.1.trans A.1, fun k p => (B.2.1 k p).trans (A.2.1 k p), B.2.2⟩
theorem RX.rfl' {h : aH} {ls : Nat} {w : Nat → Int32} (a : SpreadR h ls w) (b : ScrX h) : RX h h ls w := ⟨rfl, fun _ _ => rfl, a, b⟩
theorem RepC.xv {h : aH} {w tp : Nat → Int32} {tl : Nat} {im hi : Nat → Int32} {fk fp : Int32} {mn wd : Nat → Int32} {nu : Nat → Int64} (HC : RepC h w tp tl im hi fk fp mn wd nu) : ∃ ls, XV h ls w ∧ RX h h ls w := by
  obtain ⟨ls, lr, ct, bu, lb, ft, ta, un, ln, k9, s9, a9, n9, ig, sg, b0, b1, b2, b3, b4, b5, b6, b7, b8, b9, b10, b11, b12, b13, b14, b15, b16, b17⟩ := HC
  refine ⟨ls, ⟨by omega, ⟨_, b1⟩, b6, ?_⟩, rfl, fun _ _ => rfl, b7, _, _, _, _, _, b8, b9, b10, b11, b12⟩
  obtain ⟨re, stl, vr, ne, ms, c0, _⟩ := b7
  exact c0
theorem RepC.rx {h h' : aH} {ls : Nat} {w tp : Nat → Int32} {tl : Nat} {im hi : Nat → Int32} {fk fp : Int32} {mn wd : Nat → Int32} {nu : Nat → Int64} (HC : RepC h w tp tl im hi fk fp mn wd nu) (V : XV h ls w) (R : RX h h' ls w) : RepC h' w tp tl im hi fk fp mn wd nu ∧ FrC h h' := by
  obtain ⟨ls1, lr, ct, bu, lb, ft, ta, un, ln, k9, s9, a9, n9, ig, sg, b0, b1, b2, b3, b4, b5, b6, b7, b8, b9, b10, b11, b12, b13, b14, b15, b16, b17⟩ := HC
  have els : ls1 = ls := by
    have e := isO_inj b6.1 V.2.2.1.1
    simp only [List.cons.injEq, Value.ref.injEq, and_true] at e
    exact e
  subst els
  obtain ⟨r1, hk, r2, bu', lb', ft', ta', un', r3, r4, r5, r6, r7⟩ := R
  refine ⟨⟨ls1, lr, ct, bu', lb', ft', ta', un', ln, k9, s9, a9, n9, ig, sg, b0, b1.kp (hk _ (by omega)), b2.kp (hk _ (by omega)), b3, b4.kp (hk _ (by omega)), b5.kp (fun k p1 p2 => hk k (by omega)), b6.kp (hk _ (by omega)) (fun k p1 p2 => hk k (by omega)) (fun k p1 p2 => hk k (by omega)) (fun k p1 p2 => hk k (by omega)), r2, r3, r4, r5, r6, r7, b13.kp (hk _ (by omega)), fun k p1 => ?_, b15, b16.kp (hk _ (by omega)), fun k p1 => ?_⟩, by omega, fun k p1 p2 => hk k (by omega)⟩
  · rcases b14 k p1 with c | ⟨c1, q, c2, c3, c4, c5⟩
    · exact Or.inl c
    · exact Or.inr ⟨c1, q, c2, c3, c4.kp (hk _ (by omega)) (fun k p1 p2 => hk k (by omega)) (fun k p1 p2 => hk k (by omega)) (fun k p1 p2 => hk k (by omega)), c5⟩
  · obtain ⟨c1, c2, nm, c3, c4⟩ := b17 k p1
    exact ⟨c1, c2.kp (hk _ (by omega)), nm, c3.kp (hk _ (by omega)), c4⟩
/-- the class has worked out what item i's villages say up to year y -/
def Rch (h : aH) (w : Nat → Int32) (i y : Nat) : Prop := ∃ vr : Nat → Int32, isB h 55 14640 vr ∧ ∀ y' v, y' ≤ y → v < nvW w → vr ((i * 61 + y') * 24 + v) = nI (sdW w y' v i)
theorem Rch.kp {h h' : aH} {w : Nat → Int32} {i y : Nat} (R : Rch h w i y) (hk : h'[55]? = h[55]?) : Rch h' w i y := by
  obtain ⟨vr, a, b⟩ := R
  exact ⟨vr, a.kp hk, b⟩
/-- a case of a question -/
theorem case_q {jx jm : Nat} {As : List Value} (hx : ∀ h ls w, WfW w → XV h ls w → RX h h ls w → ∃ r : Int32, Sp (Rn 700) jx (.ref 0 :: As) h (fun r9 h' => r9 = some (.int r) ∧ RX h h' ls w) ∧ ∀ h1, MQs h1 w → Sp (Rn 700) jm (.ref 71 :: As) h1 (fun r9 h' => r9 = some (.int r) ∧ RQ h1 h' w)) : CaseI Rp jx jm As := by
  intro h hR
  obtain ⟨w, tp, tl, im, hi, fk, fp, mn, wd, nu, g1, g2, HM, HC⟩ := id hR
  obtain ⟨ls, V, R⟩ := HC.xv
  obtain ⟨r, ⟨r1, h1, x1, rfl, R1⟩, hm⟩ := hx h ls w g1 V R
  obtain ⟨HC1, F1⟩ := HC.rx V R1
  have HM1 := HM.kp (h' := h1) (fun k p1 p2 => F1.2 k p1 p2)
  obtain ⟨r2, h2, x2, rfl, R2⟩ := hm h1 HM1.mq
  obtain ⟨HM2, F2⟩ := HM1.rq R2
  have HC2 := HC1.kp (h' := h2) F2.2
  obtain ⟨a0, ⟨x, a1⟩, a2, a3⟩ := V
  obtain ⟨th, tp9, sz, at9, fr, tk, vl, fk9, fp9, il, up, lo, q0, q1⟩ := HM1.mq.mh
  exact ⟨r, h1, h2, 0, 0, _, _, by decide, by decide, a1, x1, q0, x2, w, tp, tl, im, hi, fk, fp, mn, wd, nu, g1, g2, HM2, HC2⟩
theorem case_qL {jx jm : Nat} {As : List Value} (hx : ∀ h ls w, WfW w → XV h ls w → RX h h ls w → ∃ r : Int64, Sp (Rn 700) jx (.ref 0 :: As) h (fun r9 h' => r9 = some (.long r) ∧ RX h h' ls w) ∧ ∀ h1, MQs h1 w → Sp (Rn 700) jm (.ref 71 :: As) h1 (fun r9 h' => r9 = some (.long r) ∧ RQ h1 h' w)) : CaseL Rp jx jm As := by
  intro h hR
  obtain ⟨w, tp, tl, im, hi, fk, fp, mn, wd, nu, g1, g2, HM, HC⟩ := id hR
  obtain ⟨ls, V, R⟩ := HC.xv
  obtain ⟨r, ⟨r1, h1, x1, rfl, R1⟩, hm⟩ := hx h ls w g1 V R
  obtain ⟨HC1, F1⟩ := HC.rx V R1
  have HM1 := HM.kp (h' := h1) (fun k p1 p2 => F1.2 k p1 p2)
  obtain ⟨r2, h2, x2, rfl, R2⟩ := hm h1 HM1.mq
  obtain ⟨HM2, F2⟩ := HM1.rq R2
  have HC2 := HC1.kp (h' := h2) F2.2
  obtain ⟨a0, ⟨x, a1⟩, a2, a3⟩ := V
  obtain ⟨th, tp9, sz, at9, fr, tk, vl, fk9, fp9, il, up, lo, q0, q1⟩ := HM1.mq.mh
  exact ⟨r, h1, h2, 0, 0, _, _, by decide, by decide, a1, x1, q0, x2, w, tp, tl, im, hi, fk, fp, mn, wd, nu, g1, g2, HM2, HC2⟩
