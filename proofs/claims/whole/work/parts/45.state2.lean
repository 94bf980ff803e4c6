/-! THE STATE, with how many are heard; its cases so far -/
def Hd8 (w : Nat → Int32) : Prop := hdN w (ntW w) ≤ 8
def Rq (h : aH) : Prop := ∃ (w tp : Nat → Int32) (tl : Nat) (im hi : Nat → Int32) (fk fp : Int32) (mn wd : Nat → Int32) (nu : Nat → Int64), (WfW w ∧ Hd8 w ∧ ∀ k, k < 3 → hi k = 1 → Hd8 (fun p => im (2676 * k + p))) ∧ WfS tp tl mn wd ∧ RepM h w tp tl im hi fk fp mn wd nu ∧ RepC h w tp tl im hi fk fp mn wd nu
theorem kase_q {jx jm : Nat} {As : List Value} (hx : ∀ h ls w, WfW w → XV h ls w → RX h h ls w → ∃ r : Int32, Sp (Rn 700) jx (.ref 0 :: As) h (fun r9 h' => r9 = some (.int r) ∧ RX h h' ls w) ∧ ∀ h1, MQs h1 w → Sp (Rn 700) jm (.ref 71 :: As) h1 (fun r9 h' => r9 = some (.int r) ∧ RQ h1 h' w)) : CaseI Rq jx jm As := by
  intro h hR
  obtain ⟨w, tp, tl, im, hi, fk, fp, mn, wd, nu, ⟨g1, g8⟩, g2, HM, HC⟩ := id hR
  obtain ⟨ls, V, R⟩ := HC.xv
  obtain ⟨r, ⟨r1, h1, x1, rfl, R1⟩, hm⟩ := hx h ls w g1 V R
  obtain ⟨HC1, F1⟩ := HC.rx V R1
  have HM1 := HM.kp (h' := h1) (fun k p1 p2 => F1.2 k p1 p2)
  obtain ⟨r2, h2, x2, rfl, R2⟩ := hm h1 HM1.mq
  obtain ⟨HM2, F2⟩ := HM1.rq R2
  have HC2 := HC1.kp (h' := h2) F2.2
  obtain ⟨a0, ⟨x, a1⟩, a2, a3⟩ := V
  obtain ⟨th, tp9, sz, at9, fr, tk, vl, fk9, fp9, il, up, lo, q0, q1⟩ := HM1.mq.mh
  exact ⟨r, h1, h2, 0, 0, _, _, by decide, by decide, a1, x1, q0, x2, w, tp, tl, im, hi, fk, fp, mn, wd, nu, ⟨g1, g8⟩, g2, HM2, HC2⟩
theorem kase_qL {jx jm : Nat} {As : List Value} (hx : ∀ h ls w, WfW w → XV h ls w → RX h h ls w → ∃ r : Int64, Sp (Rn 700) jx (.ref 0 :: As) h (fun r9 h' => r9 = some (.long r) ∧ RX h h' ls w) ∧ ∀ h1, MQs h1 w → Sp (Rn 700) jm (.ref 71 :: As) h1 (fun r9 h' => r9 = some (.long r) ∧ RQ h1 h' w)) : CaseL Rq jx jm As := by
  intro h hR
  obtain ⟨w, tp, tl, im, hi, fk, fp, mn, wd, nu, ⟨g1, g8⟩, g2, HM, HC⟩ := id hR
  obtain ⟨ls, V, R⟩ := HC.xv
  obtain ⟨r, ⟨r1, h1, x1, rfl, R1⟩, hm⟩ := hx h ls w g1 V R
  obtain ⟨HC1, F1⟩ := HC.rx V R1
  have HM1 := HM.kp (h' := h1) (fun k p1 p2 => F1.2 k p1 p2)
  obtain ⟨r2, h2, x2, rfl, R2⟩ := hm h1 HM1.mq
  obtain ⟨HM2, F2⟩ := HM1.rq R2
  have HC2 := HC1.kp (h' := h2) F2.2
  obtain ⟨a0, ⟨x, a1⟩, a2, a3⟩ := V
  obtain ⟨th, tp9, sz, at9, fr, tk, vl, fk9, fp9, il, up, lo, q0, q1⟩ := HM1.mq.mh
  exact ⟨r, h1, h2, 0, 0, _, _, by decide, by decide, a1, x1, q0, x2, w, tp, tl, im, hi, fk, fp, mn, wd, nu, ⟨g1, g8⟩, g2, HM2, HC2⟩
theorem kase_qM {jx jm : Nat} {As : List Value} (hx : ∀ h ls w, WfW w → XV h ls w → RX h h ls w → ∃ r : Int32, Sp (Rn 700) jx (.ref 0 :: As) h (fun r9 h' => r9 = some (.int r) ∧ RX h h' ls w) ∧ ∀ h1 le, MQs h1 w → isI h1 80 24 le → Sp (Rn 700) jm (.ref 71 :: As) h1 (fun r9 h' => r9 = some (.int r) ∧ RM h1 h' w ∧ ∃ le', isI h' 80 24 le')) : CaseI Rq jx jm As := by
  intro h hR
  obtain ⟨w, tp, tl, im, hi, fk, fp, mn, wd, nu, ⟨g1, g8⟩, g2, HM, HC⟩ := id hR
  obtain ⟨ls, V, R⟩ := HC.xv
  obtain ⟨r, ⟨r1, h1, x1, rfl, R1⟩, hm⟩ := hx h ls w g1 V R
  obtain ⟨HC1, F1⟩ := HC.rx V R1
  have HM1 := HM.kp (h' := h1) (fun k p1 p2 => F1.2 k p1 p2)
  obtain ⟨le, i80⟩ : ∃ le, isI h1 80 24 le := by
    obtain ⟨th, sz, at9, fr, tk, vl, il, up, lo, fv, fs, sa9, tn, le, mv, q0, q1, q2, q3, q4, q5, q6, q7, q8, q9, _⟩ := HM1
    exact ⟨le, q9⟩
  obtain ⟨r2, h2, x2, rfl, R2, le', i81⟩ := hm h1 le HM1.mq i80
  obtain ⟨HM2, F2⟩ := HM1.rm R2 i81
  have HC2 := HC1.kp (h' := h2) F2.2
  obtain ⟨a0, ⟨x, a1⟩, a2, a3⟩ := V
  obtain ⟨th, tp9, sz, at9, fr, tk, vl, fk9, fp9, il, up, lo, q0, q1⟩ := HM1.mq.mh
  exact ⟨r, h1, h2, 0, 0, _, _, by decide, by decide, a1, x1, q0, x2, w, tp, tl, im, hi, fk, fp, mn, wd, nu, ⟨g1, g8⟩, g2, HM2, HC2⟩
theorem kase_qU {jx jm : Nat} {As : List Value} (hx : ∀ h ls w, WfW w → XV h ls w → RX h h ls w → ∃ r : Int32, Sp (Rn 700) jx (.ref 0 :: As) h (fun r9 h' => r9 = some (.int r) ∧ RX h h' ls w) ∧ ∀ h1, MH h1 w → Sp (Rn 700) jm (.ref 71 :: As) h1 (fun r9 h' => r9 = some (.int r) ∧ RU h1 h')) : CaseI Rq jx jm As := by
  intro h hR
  obtain ⟨w, tp, tl, im, hi, fk, fp, mn, wd, nu, ⟨g1, g8⟩, g2, HM, HC⟩ := id hR
  obtain ⟨ls, V, R⟩ := HC.xv
  obtain ⟨r, ⟨r1, h1, x1, rfl, R1⟩, hm⟩ := hx h ls w g1 V R
  obtain ⟨HC1, F1⟩ := HC.rx V R1
  have HM1 := HM.kp (h' := h1) (fun k p1 p2 => F1.2 k p1 p2)
  obtain ⟨r2, h2, x2, rfl, R2⟩ := hm h1 HM1.mq.mh
  obtain ⟨HM2, F2⟩ := HM1.ru R2
  have HC2 := HC1.kp (h' := h2) F2.2
  obtain ⟨a0, ⟨x, a1⟩, a2, a3⟩ := V
  obtain ⟨th, tp9, sz, at9, fr, tk, vl, fk9, fp9, il, up, lo, q0, q1⟩ := HM1.mq.mh
  exact ⟨r, h1, h2, 0, 0, _, _, by decide, by decide, a1, x1, q0, x2, w, tp, tl, im, hi, fk, fp, mn, wd, nu, ⟨g1, g8⟩, g2, HM2, HC2⟩
theorem kase_qUL {jx jm : Nat} {As : List Value} (hx : ∀ h ls w, WfW w → XV h ls w → RX h h ls w → ∃ r : Int64, Sp (Rn 700) jx (.ref 0 :: As) h (fun r9 h' => r9 = some (.long r) ∧ RX h h' ls w) ∧ ∀ h1, MH h1 w → Sp (Rn 700) jm (.ref 71 :: As) h1 (fun r9 h' => r9 = some (.long r) ∧ RU h1 h')) : CaseL Rq jx jm As := by
  intro h hR
  obtain ⟨w, tp, tl, im, hi, fk, fp, mn, wd, nu, ⟨g1, g8⟩, g2, HM, HC⟩ := id hR
  obtain ⟨ls, V, R⟩ := HC.xv
  obtain ⟨r, ⟨r1, h1, x1, rfl, R1⟩, hm⟩ := hx h ls w g1 V R
  obtain ⟨HC1, F1⟩ := HC.rx V R1
  have HM1 := HM.kp (h' := h1) (fun k p1 p2 => F1.2 k p1 p2)
  obtain ⟨r2, h2, x2, rfl, R2⟩ := hm h1 HM1.mq.mh
  obtain ⟨HM2, F2⟩ := HM1.ru R2
  have HC2 := HC1.kp (h' := h2) F2.2
  obtain ⟨a0, ⟨x, a1⟩, a2, a3⟩ := V
  obtain ⟨th, tp9, sz, at9, fr, tk, vl, fk9, fp9, il, up, lo, q0, q1⟩ := HM1.mq.mh
  exact ⟨r, h1, h2, 0, 0, _, _, by decide, by decide, a1, x1, q0, x2, w, tp, tl, im, hi, fk, fp, mn, wd, nu, ⟨g1, g8⟩, g2, HM2, HC2⟩
theorem kase_3 (a : Int32) : CaseI Rq 69 165 [.int a] := by
  intro h hR
  obtain ⟨w, tp, tl, im, hi, fk, fp, mn, wd, nu, ⟨g1, g8⟩, g2, HM, HC⟩ := id hR
  obtain ⟨r1, h1, x1, rfl, rfl⟩ := x_fault 699 h w tp tl im hi fk fp mn wd nu HC a
  obtain ⟨r2, h2, x2, rfl, rfl⟩ := m_fault 699 h1 w tp tl im hi fk fp mn wd nu HM a
  obtain ⟨ls, lr, ct, bu, lb, ft, ta, un, ln, k9, s9, a9, n9, ig, sg, b0, b1, b2, b3, b4, b5, b6, b7, b8, b9, b10, b11, b12, b13, b14, b15, b16, b17⟩ := id HC
  obtain ⟨th, sz, at9, fr, tk, vl, il, up, lo, fv, fs, sa9, tn, le, mv, q0, q1, q2, q3, q4, q5, q6, q7, q8, q9, q10, q11, q12, q13, q14⟩ := id HM
  exact ⟨_, _, _, 0, 0, _, _, by decide, by decide, b1, x1, q0, x2, hR⟩
theorem kase_1 (a : Int32) : CaseI Rq 67 156 [.int a] := by
  intro h hR
  obtain ⟨w, tp, tl, im, hi, fk, fp, mn, wd, nu, ⟨g1, g8⟩, g2, HM, HC⟩ := id hR
  obtain ⟨ls, lr, ct, bu, lb, ft, ta, un, ln, k9, s9, a9, n9, ig, sg, b0, b1, b2, b3, b4, b5, b6, b7, b8, b9, b10, b11, b12, b13, b14, b15, b16, b17⟩ := id HC
  obtain ⟨r1, h1, x1, rfl, HC1, F1⟩ := x_end 699 h w tp tl im hi fk fp mn wd nu g2 HC a
  have HM1 := HM.kp (h' := h1) (fun k p1 p2 => F1.2 k p1 p2)
  obtain ⟨th, sz, at9, fr, tk, vl, il, up, lo, fv, fs, sa9, tn, le, mv, q0, q1, q2, q3, q4, q5, q6, q7, q8, q9, q10, q11, q12, q13, q14⟩ := id HM1
  obtain ⟨r2, h2, x2, rfl, HM2, F2⟩ := m_end 698 h1 w tp tl im hi fk fp mn wd nu g2 HM1 a
  have HC2 := HC1.kp (h' := h2) F2.2
  have ht : endT tl a ≤ 1200 := by
    have := g2.1
    unfold endT
    split
    · rename_i hc
      have e9 : ((a.toNatClampNeg : Nat) : Int) = a.toInt := Int.toNat_of_nonneg hc.1
      omega
    · exact this
  exact ⟨_, _, _, 0, 0, _, _, by decide, by decide, b1, x1, q0, x2, w, tp, endT tl a, im, hi, fk, fp, mn, wd, nu, ⟨g1, g8⟩, ⟨ht, g2.2⟩, HM2, HC2⟩

theorem kase_4 (v : Int32) (i : Int32) (y : Int32) : CaseI Rq 70 182 [.int v, .int i, .int y] := kase_q (fun h ls w hWf V R => ⟨_, x_says 693 h ls w hWf V R v i y, fun h1 HQ => m_says 691 h1 w hWf HQ v i y⟩)
theorem kase_5 (v : Int32) (i : Int32) (y : Int32) : CaseI Rq 71 183 [.int v, .int i, .int y] := kase_q (fun h ls w hWf V R => ⟨_, x_turned 693 h ls w hWf V R v i y, fun h1 HQ => m_turned 692 h1 w hWf HQ v i y⟩)
theorem kase_6 (i : Int32) (y : Int32) : CaseI Rq 72 186 [.int i, .int y] := kase_q (fun h ls w hWf V R => ⟨_, x_lines 693 h ls w hWf V R i y, fun h1 HQ => m_lines 689 h1 w hWf HQ i y⟩)
theorem kase_7 (r : Int32) (y : Int32) : CaseI Rq 75 188 [.int r, .int y] := kase_q (fun h ls w hWf V R => ⟨_, x_bundle 693 h ls w hWf V R r y, fun h1 HQ => m_bundle 689 h1 w hWf HQ r y⟩)
theorem kase_8 (y : Int32) : CaseI Rq 78 189 [.int y] := kase_q (fun h ls w hWf V R => ⟨_, x_thick 693 h ls w hWf V R y, fun h1 HQ => m_thick 689 h1 w hWf HQ y⟩)
theorem kase_9 (k : Int32) (y : Int32) : CaseI Rq 79 190 [.int k, .int y] := kase_q (fun h ls w hWf V R => ⟨_, x_crossed 693 h ls w hWf V R k y, fun h1 HQ => m_crossed 689 h1 w hWf HQ k y⟩)
theorem kase_10 (k : Int32) (y : Int32) : CaseI Rq 80 192 [.int k, .int y] := kase_qM (fun h ls w hWf V R => ⟨_, x_areas 693 h ls w hWf V R k y, fun h1 le HQ i80 => m_areas 688 h1 w hWf HQ le i80 k y⟩)
theorem kase_11 (v : Int32) (k : Int32) (y : Int32) : CaseI Rq 81 193 [.int v, .int k, .int y] := kase_qM (fun h ls w hWf V R => ⟨_, x_area 693 h ls w hWf V R v k y, fun h1 le HQ i80 => m_area 688 h1 w hWf HQ le i80 v k y⟩)
theorem kase_12 (i : Int32) (a : Int32) (b : Int32) : CaseI Rq 83 194 [.int i, .int a, .int b] := kase_q (fun h ls w hWf V R => ⟨_, x_moved 693 h ls w hWf V R i a b, fun h1 HQ => m_moved 691 h1 w hWf HQ i a b⟩)
theorem kase_13 (i : Int32) : CaseI Rq 84 195 [.int i] := kase_q (fun h ls w hWf V R => ⟨_, x_still 693 h ls w hWf V R i, fun h1 HQ => m_still 692 h1 w hWf HQ i⟩)
theorem kase_14 (i : Int32) (y : Int32) (t : Int32) : CaseL Rq 85 197 [.int i, .int y, .int t] := kase_qL (fun h ls w hWf V R => ⟨_, x_river 693 h ls w hWf V R i y t, fun h1 HQ => m_river 690 h1 w hWf HQ i y t⟩)
theorem kase_15 (y : Int32) : CaseI Rq 87 201 [.int y] := kase_q (fun h ls w hWf V R => ⟨_, x_tells 693 h ls w hWf V R y, fun h1 HQ => m_tells 688 h1 w hWf HQ y⟩)
theorem kase_16 (v : Int32) (y : Int32) : CaseI Rq 88 202 [.int v, .int y] := kase_q (fun h ls w hWf V R => ⟨_, x_alone 693 h ls w hWf V R v y, fun h1 HQ => m_alone 688 h1 w hWf HQ v y⟩)
theorem kase_20 (i : Int32) : CaseI Rq 96 208 [.int i] := kase_q (fun h ls w hWf V R => ⟨_, x_heard 698 h ls w hWf V R i, fun h1 HQ => m_heard 697 h1 w hWf HQ i⟩)
theorem kase_21 (v : Int32) (y : Int32) : CaseI Rq 99 211 [.int v, .int y] := kase_q (fun h ls w hWf V R => ⟨_, x_fits 693 h ls w hWf V R v y, fun h1 HQ => m_fits 689 h1 w hWf HQ v y⟩)
theorem kase_22 (y : Int32) : CaseI Rq 100 213 [.int y] := kase_q (fun h ls w hWf V R => ⟨_, x_whole 693 h ls w hWf V R y, fun h1 HQ => m_whole 688 h1 w hWf HQ y⟩)
theorem kase_23 (y : Int32) : CaseI Rq 102 214 [.int y] := kase_q (fun h ls w hWf V R => ⟨_, x_from 693 h ls w hWf V R y, fun h1 HQ => m_from 689 h1 w hWf HQ y⟩)
theorem kase_24 (y : Int32) : CaseI Rq 103 215 [.int y] := kase_q (fun h ls w hWf V R => ⟨_, x_next 693 h ls w hWf V R y, fun h1 HQ => m_next 688 h1 w hWf HQ y⟩)
theorem kase_25 (y : Int32) : CaseI Rq 106 216 [.int y] := kase_q (fun h ls w hWf V R => ⟨_, x_two 693 h ls w hWf V R y, fun h1 HQ => m_two 690 h1 w hWf HQ y⟩)
theorem kase_26 (y : Int32) (t : Int32) : CaseI Rq 107 217 [.int y, .int t] := kase_q (fun h ls w hWf V R => ⟨_, x_nowhere 693 h ls w hWf V R y t, fun h1 HQ => m_nowhere 690 h1 w hWf HQ y t⟩)
theorem kase_29 (v : Int32) (i : Int32) : CaseI Rq 111 223 [.int v, .int i] := kase_q (fun h ls w hWf V R => ⟨_, x_mostly 697 h ls w hWf V R v i, fun h1 HQ => m_mostly 697 h1 w hWf HQ v i⟩)
theorem kase_30 (i : Int32) (y : Int32) : CaseI Rq 112 224 [.int i, .int y] := kase_q (fun h ls w hWf V R => ⟨_, x_off 693 h ls w hWf V R i y, fun h1 HQ => m_off 691 h1 w hWf HQ i y⟩)
theorem kase_31 (v : Int32) (b : Prop) : CaseL Rq 113 226 [.int v, .int (bI b)] := kase_qUL (fun h ls w hWf V R => ⟨_, x_odds 696 h ls w hWf V R v b, fun h1 HM => m_odds 696 h1 w hWf HM v b⟩)
theorem kase_32 : CaseI Rq 117 229 [] := kase_qU (fun h ls w hWf V R => ⟨_, x_likely 695 h ls w hWf V R , fun h1 HM => m_likely 604 h1 w hWf HM ⟩)
theorem kase_33 (v : Int32) : CaseI Rq 118 230 [.int v] := kase_qU (fun h ls w hWf V R => ⟨_, x_ahead 695 h ls w hWf V R v, fun h1 HM => m_ahead 604 h1 w hWf HM v⟩)
theorem kase_35 (a : Int32) (i : Int32) : CaseI Rq 122 234 [.int a, .int i] := kase_q (fun h ls w hWf V R => ⟨_, x_leans 696 h ls w hWf V R a i, fun h1 HQ => m_leans 696 h1 w hWf HQ a i⟩)
theorem kase_36 (a : Int32) (i : Int32) : CaseI Rq 124 235 [.int a, .int i] := kase_q (fun h ls w hWf V R => ⟨_, x_lean 696 h ls w hWf V R a i, fun h1 HQ => m_lean 696 h1 w hWf HQ a i⟩)
theorem kase_37 (v : Int32) (t : Int32) : CaseI Rq 125 236 [.int v, .int t] := kase_q (fun h ls w hWf V R => ⟨_, x_village 698 h ls w hWf V R v t, fun h1 HQ => m_village 697 h1 w hWf HQ v t⟩)
theorem kase_28 (v : Int32) (i : Int32) (a : Int32) : CaseI Rq 110 221 [.int v, .int i, .int a] := kase_q (fun h ls w hWf V R => ⟨_, x_noted 697 h ls w hWf V R v i a, fun h1 HQ => m_notedQ 696 h1 w hWf HQ v i a⟩)
/-! worlds that differ only in what is heard, noted, walked -/
def vol (p : Nat) : Prop := (9 ≤ p ∧ p < 57 ∧ p % 2 = 1) ∨ (176 ≤ p ∧ p < 216 ∧ (p % 4 = 2 ∨ p % 4 = 3)) ∨ (1476 ≤ p)
def AgW (w w' : Nat → Int32) : Prop := ∀ p, ¬ vol p → w' p = w p
section AGW
variable {w w' : Nat → Int32}
theorem AgW.rfl' : AgW w w := fun _ _ => rfl
theorem AgW.tr {w'' : Nat → Int32} (A : AgW w w') (B : AgW w' w'') : AgW w w'' := fun p h => (B p h).trans (A p h)
theorem AgW_u {p : Nat} {x : Int32} (h : vol p) : AgW w (upd w p x) := fun q hq => pk_un (fun e => hq (e ▸ h))
theorem ag_nv (A : AgW w w') : nvW w' = nvW w := congrArg Int32.toNatClampNeg (A 1 (by unfold vol; omega))
theorem ag_nr (A : AgW w w') : nrW w' = nrW w := congrArg Int32.toNatClampNeg (A 2 (by unfold vol; omega))
theorem ag_nt (A : AgW w w') : ntW w' = ntW w := congrArg Int32.toNatClampNeg (A 3 (by unfold vol; omega))
theorem ag_nl (A : AgW w w') : nlW w' = nlW w := congrArg Int32.toNatClampNeg (A 4 (by unfold vol; omega))
theorem ag_np (A : AgW w w') : npW w' = npW w := congrArg Int32.toNatClampNeg (A 5 (by unfold vol; omega))
theorem ag_ra (A : AgW w w') {r : Nat} (h : r < 40) : rdA w' r = rdA w r := congrArg Int32.toNatClampNeg (A _ (by unfold vol; omega))
theorem ag_rb (A : AgW w w') {r : Nat} (h : r < 40) : rdB w' r = rdB w r := congrArg Int32.toNatClampNeg (A _ (by unfold vol; omega))
theorem ag_va (A : AgW w w') {i : Nat} (h : i < 10) : vaW w' i = vaW w i := congrArg Int32.toNatClampNeg (A _ (by unfold vol; omega))
theorem ag_sz (A : AgW w w') {v : Nat} (h : v < 24) : szW w' v = szW w v := congrArg Int32.toNatClampNeg (A _ (by unfold vol; omega))
theorem ag_lb (A : AgW w w') {l : Nat} (h : l < 20) : lwB w' l = lwB w l := congrArg Int32.toNatClampNeg (A _ (by unfold vol; omega))
theorem ag_le (A : AgW w w') {l : Nat} (h : l < 20) : lwE w' l = lwE w l := by
  unfold lwE; rw [ag_lb A h, A (461 + 6 * l) (by unfold vol; omega)]
theorem ag_li (A : AgW w w') {l : Nat} (h : l < 20) : lwI w' l = lwI w l := congrArg Int32.toNatClampNeg (A _ (by unfold vol; omega))
theorem ag_ot (A : AgW w w') {r v : Nat} (h : r < 40) : othW w' r v = othW w r v := by
  unfold othW; rw [ag_ra A h, ag_rb A h]
theorem ag_ne (hWf : WfW w) (A : AgW w w') {S S' : Nat → Nat → Nat} {i : Nat} (hS : ∀ v, v < nvW w → S' v i = S v i) (v a r : Nat) (hr : r ≤ nrW w) : neW w' S' v i a r = neW w S v i a r := by
  induction r with
  | zero => rfl
  | succ r ih =>
    have b := hWf.1.2.2.1.2
    have ih := ih (by omega)
    cases ho : othW w r v with
    | none => rw [neW_n ho, neW_n ((ag_ot A (by omega)).trans ho), ih]
    | some o =>
      have o1 := (oth_is hWf (show r < nrW w by omega) ho).1
      have ho' := (ag_ot A (v := v) (show r < 40 by omega)).trans ho
      by_cases c : S o i = a
      · rw [neW_t ho c, neW_t ho' ((hS o o1).trans c), ih]
      · rw [neW_f ho c, neW_f ho' (fun q => c ((hS o o1).symm.trans q)), ih]
theorem ag_ms (hWf : WfW w) (A : AgW w w') {S S' : Nat → Nat → Nat} {i : Nat} (hS : ∀ v, v < nvW w → S' v i = S v i) (v a r : Nat) (hr : r ≤ nrW w) : msW w' S' v i a r = msW w S v i a r := by
  induction r with
  | zero => rfl
  | succ r ih =>
    have b := hWf.1.2.2.1.2
    have b2 := hWf.1.2.1.2
    have ih := ih (by omega)
    cases ho : othW w r v with
    | none => rw [msW_n ho, msW_n ((ag_ot A (by omega)).trans ho), ih]
    | some o =>
      have o1 := (oth_is hWf (show r < nrW w by omega) ho).1
      have ho' := (ag_ot A (v := v) (show r < 40 by omega)).trans ho
      by_cases c : S o i = a ∧ ∀ r', r' < r → othW w r' v ≠ some o
      · rw [msW_t ho c, msW_t ho' ⟨(hS o o1).trans c.1, fun r' h => by rw [ag_ot A (by omega)]; exact c.2 r' h⟩, ih, ag_sz A (by omega)]
      · rw [msW_f ho c, msW_f ho' (fun q => c ⟨(hS o o1).symm.trans q.1, fun r' h => by rw [← ag_ot A (v := v) (show r' < 40 by omega)]; exact q.2 r' h⟩), ih]
theorem ag_pt (hWf : WfW w) (A : AgW w w') {S S' : Nat → Nat → Nat} {y v i k : Nat} (hS : ∀ v, v < nvW w → S' v i = S v i) (hv : v < nvW w) (hk : k < npW w) : ptW w' S' y v i k = ptW w S y v i k := by
  have b := hWf.1.2.2.2.2.2.2
  have b2 := hWf.1.2.1.2
  obtain ⟨⟨a, ha, ea⟩, n, hn, en, _⟩ := hWf.2.2.2.2.2.2 k hk
  rw [ptW_k ea ha en hn, ptW_k ((A _ (by unfold vol; omega)).trans ea) ha ((A _ (by unfold vol; omega)).trans en) hn, ag_nr A, ag_ne hWf A hS _ _ _ (Nat.le_refl _), ag_ms hWf A hS _ _ _ (Nat.le_refl _), ag_sz A (by omega)]
theorem rnW_v {jn jn' : Nat → Int32} {vl vl' : Nat → Nat} {b e : Nat} (hb : b ≤ e) (h : ∀ k, b ≤ k → k < e → jn' k = jn k ∧ vl' k = vl k) : rnW jn' vl' b e = rnW jn vl b e := by
  induction e with
  | zero => rw [show b = 0 by omega, rnW_0, rnW_0]
  | succ e ih =>
    by_cases c : b = e + 1
    · rw [c, rnW_0, rnW_0]
    · rw [rnW_s (by omega), rnW_s (by omega), ih (by omega) (fun k h1 h2 => h k h1 (by omega))]
      congr 1
      funext s
      unfold stpW
      rw [(h e (by omega) (by omega)).1, (h e (by omega) (by omega)).2]
theorem smW_v {jn jn' : Nat → Int32} {vl vl' : Nat → Nat} {b e : Nat} (hb : b ≤ e) (h : ∀ k, b ≤ k → k < e → jn' k = jn k ∧ vl' k = vl k) : smW jn' vl' b e = smW jn vl b e := by
  rw [smW_r, smW_r, rnW_v hb h]
theorem wf_sec (hWf : WfW w) {l : Nat} (hl : l < nlW w) : lwB w l < secW w l ∧ secW w l < lwE w l ∧ lwE w l ≤ npW w := by
  obtain ⟨sec, H⟩ := hWf.2.2.2.2.2.1
  rw [secW_eq H hl]
  obtain ⟨a1, a2, a3, a4, a5, a6, a7, a8, a9, _⟩ := H l hl
  exact ⟨a7, a8, a9⟩
theorem ag_L {sec : Nat → Nat} (hWf : WfW w) (A : AgW w w') (H : WfL w sec) : WfL w' sec := by
  intro l hl
  rw [ag_nl A] at hl
  have b := hWf.1.2.2.2.2.1.2
  have b5 := hWf.1.2.2.2.2.2.2
  have bt := hWf.1.2.2.2.1.2
  obtain ⟨⟨a1, a1b⟩, a2, a3, a4, a5, a6, a7, a8, a9, a10, a11, a12⟩ := H l hl
  rw [ag_li A (by omega), ag_lb A (by omega), ag_le A (by omega), ag_nt A, ag_np A, ag_va A (by omega)]
  refine ⟨⟨(A _ (by unfold vol; omega)).trans a1, a1b⟩, ?_, ?_, ?_, (A _ (by unfold vol; omega)).trans a5, (A _ (by unfold vol; omega)).trans a6, a7, a8, a9, (A _ (by unfold vol; omega)).trans a10, (A _ (by unfold vol; omega)).trans a11, fun k h1 h2 h3 => ?_⟩
  · obtain ⟨a, q1, q2⟩ := a2; exact ⟨a, q1, (A _ (by unfold vol; omega)).trans q2⟩
  · obtain ⟨a, q1, q2⟩ := a3; exact ⟨a, q1, (A _ (by unfold vol; omega)).trans q2⟩
  · obtain ⟨a, q1, q2⟩ := a4; exact ⟨a, q1, (A _ (by unfold vol; omega)).trans q2⟩
  · obtain ⟨a, q1, q2, q3⟩ := a12 k h1 h2 h3; exact ⟨a, q1, q2, (A _ (by unfold vol; omega)).trans q3⟩
theorem ag_sec (hWf : WfW w) (A : AgW w w') {l : Nat} (hl : l < nlW w) : secW w' l = secW w l := by
  obtain ⟨sec, H⟩ := hWf.2.2.2.2.2.1
  rw [secW_eq H hl, secW_eq (ag_L hWf A H) (by rw [ag_nl A]; exact hl)]
theorem ag_ho (hWf : WfW w) (A : AgW w w') {S S' : Nat → Nat → Nat} {y v i l : Nat} (hS : ∀ v, v < nvW w → S' v i = S v i) (hv : v < nvW w) (hl : l < nlW w) : hoW w' S' y v i l ↔ hoW w S y v i l := by
  have b := hWf.1.2.2.2.2.1.2
  have b5 := hWf.1.2.2.2.2.2.2
  obtain ⟨s1, s2, s3⟩ := wf_sec hWf hl
  unfold hoW
  rw [ag_lb A (by omega), ag_le A (by omega), ag_sec hWf A hl, A (459 + 6 * l) (by unfold vol; omega), smW_v (jn := fun k => w (576 + 3 * k)) (vl := ptW w S y v i) (b := lwB w l) (e := secW w l) (by omega) (fun k h1 h2 => ⟨A _ (by unfold vol; omega), ag_pt hWf A hS hv (by omega)⟩), smW_v (jn := fun k => w (576 + 3 * k)) (vl := ptW w S y v i) (b := secW w l) (e := lwE w l) (by omega) (fun k h1 h2 => ⟨A _ (by unfold vol; omega), ag_pt hWf A hS hv (by omega)⟩)]
theorem frst_c {p q : Nat → Prop} {n : Nat} (h : ∀ k, k < n → (p k ↔ q k)) : frst p n = frst q n := by
  cases e : frst q n with
  | some k =>
    obtain ⟨a, b, c⟩ := frst_is e
    exact frst_some (fun j hj g => c j hj ((h j (by omega)).mp g)) ((h k a).mpr b) a
  | none =>
    refine frst_none (fun j hj g => ?_)
    have : ∀ n, frst q n = none → ∀ j, j < n → ¬ q j := by
      intro n
      induction n with
      | zero => intro _ j hj; omega
      | succ n ih =>
        intro e j hj g
        cases e2 : frst q n with
        | some k2 =>
          obtain ⟨a, b, c⟩ := frst_is e2
          have := frst_some (p := q) (n := n + 1) c b (by omega)
          rw [this] at e; cases e
        | none =>
          by_cases c : j = n
          · subst c
            have := frst_some (p := q) (n := j + 1) (k := j) (fun i hi => ih e2 i hi) g (by omega)
            rw [this] at e; cases e
          · exact ih e2 j (by omega) g
    exact this n e j hj ((h j hj).mp g)
theorem ag_lf (hWf : WfW w) (A : AgW w w') {S S' : Nat → Nat → Nat} {y v i : Nat} (hS : ∀ v, v < nvW w → S' v i = S v i) (hv : v < nvW w) : lfW w' S' y v i = lfW w S y v i := by
  have b := hWf.1.2.2.2.2.1.2
  unfold lfW
  rw [ag_nl A]
  refine frst_c (fun l hl => ?_)
  rw [ag_li A (by omega), A (457 + 6 * l) (by unfold vol; omega), hS v hv, ag_ho hWf A hS hv hl]
theorem ag_sd (hWf : WfW w) (A : AgW w w') (y : Nat) : ∀ v i, v < nvW w → i < ntW w → sdW w' y v i = sdW w y v i := by
  have b1 := hWf.1.2.1.2
  have b2 := hWf.1.2.2.2.1.2
  induction y with
  | zero => intro v i hv hi; exact congrArg Int32.toNatClampNeg (A _ (by unfold vol; omega))
  | succ y ih =>
    intro v i hv hi
    have e := ag_lf hWf A (S := sdW w y) (S' := sdW w' y) (y := y) (v := v) (i := i) (fun v' h => ih v' i h hi) hv
    cases c : lfW w (sdW w y) y v i with
    | none => rw [sdW_n (show laW w y v i = none from c), sdW_n (show laW w' y v i = none from e.trans c)]; exact ih v i hv hi
    | some l =>
      have hl := (frst_is c).1
      have b3 := hWf.1.2.2.2.2.1.2
      rw [sdW_s (show laW w y v i = some l from c), sdW_s (show laW w' y v i = some l from e.trans c), A (458 + 6 * l) (by unfold vol; omega)]
theorem ag_la (hWf : WfW w) (A : AgW w w') (y : Nat) {v i : Nat} (hv : v < nvW w) (hi : i < ntW w) : laW w' y v i = laW w y v i := ag_lf hWf A (fun v' h => ag_sd hWf A y v' i h hi) hv
theorem ag_st (hWf : WfW w) (A : AgW w w') {i : Nat} (hi : i < ntW w) (r : Nat) : stW w' i r = stW w i r := by
  induction r with
  | zero => rfl
  | succ r ih =>
    by_cases c : ∃ v, v < nvW w ∧ laW w r v i ≠ none
    · obtain ⟨v, h1, h2⟩ := c
      rw [stW_t h1 h2, stW_t (v := v) (by rw [ag_nv A]; exact h1) (by rw [ag_la hWf A r h1 hi]; exact h2)]
    · have c1 : ∀ v, v < nvW w → laW w r v i = none := fun v h => Classical.byContradiction (fun q => c ⟨v, h, q⟩)
      rw [stW_f c1, stW_f (fun v h => by rw [ag_nv A] at h; rw [ag_la hWf A r h hi]; exact c1 v h), ih]
theorem LandR.ag {h : aH} {q : Nat} (hWf : WfW w) (A : AgW w w') (H : LandR h q w) : LandR h q w' := by
  have b1 := hWf.1.2.1.2
  have b2 := hWf.1.2.2.1.2
  have b3 := hWf.1.2.2.2.1.2
  obtain ⟨sz, rf, rt, rv, ag, vr, sd, tl, a0, a1, a2, a3, a4, a5, a6, a7, a8, a9, a10, a11, a12, a13⟩ := H
  refine ⟨sz, rf, rt, rv, ag, vr, sd, tl, ?_, a1, a2, a3, a4, a5, a6, a7, a8, fun v hv => ?_, fun r hr => ?_, a11, fun i hi => ?_, fun p hp => (a13 p hp).trans (A _ (by unfold vol; omega)).symm⟩
  · rw [A 0 (by unfold vol; omega), A 1 (by unfold vol; omega), A 2 (by unfold vol; omega), A 3 (by unfold vol; omega)]; exact a0
  · rw [ag_nv A] at hv; exact (a9 v hv).trans (A _ (by unfold vol; omega)).symm
  · rw [ag_nr A] at hr
    obtain ⟨c1, c2, c3, c4⟩ := a10 r hr
    refine ⟨c1.trans (A _ (by unfold vol; omega)).symm, c2.trans (A _ (by unfold vol; omega)).symm, c3.trans (A _ (by unfold vol; omega)).symm, c4.trans (bI_c ?_)⟩
    constructor
    · rintro ⟨r', h1, h2⟩; exact ⟨r', h1, by rw [ag_ra A (by omega), ag_rb A (by omega), ag_ra A (by omega), ag_rb A (by omega)]; exact h2⟩
    · rintro ⟨r', h1, h2⟩; exact ⟨r', h1, by rw [ag_ra A (by omega), ag_rb A (by omega), ag_ra A (by omega), ag_rb A (by omega)] at h2; exact h2⟩
  · rw [ag_nt A] at hi
    exact ⟨(a12 i hi).1.trans (A _ (by unfold vol; omega)).symm, (a12 i hi).2.trans (A _ (by unfold vol; omega)).symm⟩
theorem LawsR.ag {h : aH} {q : Nat} (hWf : WfW w) (A : AgW w w') (H : LawsR h q w) : LawsR h q w' := by
  have b1 := hWf.1.2.2.2.2.1.2
  have b2 := hWf.1.2.2.2.2.2.2
  obtain ⟨sec, it, fi, se, sg, ls, rs, rp, pj, pk, pv, a0, a1, a2, a3, a4, a5, a6, a7, a8, a9, a10, a11, a12, a13⟩ := H
  refine ⟨sec, it, fi, se, sg, ls, rs, rp, pj, pk, pv, ag_L hWf A a0, ?_, a2, a3, a4, a5, a6, a7, a8, a9, a10, a11, fun l hl => ?_, fun k hk => ?_⟩
  · rw [A 4 (by unfold vol; omega), A 5 (by unfold vol; omega)]; exact a1
  · rw [ag_nl A] at hl
    obtain ⟨c1, c2, c3, c4, c5, c6, c7⟩ := a12 l hl
    rw [ag_lb A (by omega), ag_le A (by omega)]
    exact ⟨c1.trans (A _ (by unfold vol; omega)).symm, c2.trans (A _ (by unfold vol; omega)).symm, c3.trans (A _ (by unfold vol; omega)).symm, c4.trans (A _ (by unfold vol; omega)).symm, c5, c6, c7⟩
  · rw [ag_np A] at hk
    obtain ⟨c1, c2, c3⟩ := a13 k hk
    rw [A (576 + 3 * k) (by unfold vol; omega)]
    exact ⟨c1, c2.trans (A _ (by unfold vol; omega)).symm, c3.trans (A _ (by unfold vol; omega)).symm⟩
theorem SpreadR.ag {h : aH} {q : Nat} (hWf : WfW w) (A : AgW w w') (H : SpreadR h q w) : SpreadR h q w' := by
  obtain ⟨re, stl, vr, ne, ms, a0, a1, a2, a3, a4, a5, a6⟩ := H
  refine ⟨re, stl, vr, ne, ms, a0, a1, a2, a3, a4, a5, fun i hi => ?_⟩
  rcases a6 i hi with c | ⟨r, c1, c2, c3, c4, c5⟩
  · exact Or.inl c
  · exact Or.inr ⟨r, c1, by rw [ag_nt A]; exact c2, c3, by rw [ag_st hWf A c2]; exact c4, fun y v h1 h2 => by rw [ag_nv A] at h2; rw [ag_sd hWf A y v i h2 c2]; exact c5 y v h1 h2⟩
theorem LaidM.ag {il : Int32} {sa tn : Nat → Int32} (hWf : WfW w) (A : AgW w w') (H : LaidM w il sa tn) : LaidM w' il sa tn := by
  rcases H with c | ⟨c1, c2, c3⟩
  · exact Or.inl c
  · refine Or.inr ⟨c1, fun y v i h1 h2 h3 => ?_, fun y v i h1 h2 h3 => ?_⟩
    · rw [ag_nv A] at h2; rw [ag_nt A] at h3; rw [ag_sd hWf A y v i h2 h3]; exact c2 y v i h1 h2 h3
    · rw [ag_nv A] at h2; rw [ag_nt A] at h3; rw [ag_la hWf A y h2 h3]; exact c3 y v i h1 h2 h3
theorem wf_ag (hWf : WfW w) (A : AgW w w') (h1 : ∀ v, v < nvW w → m1 (w' (9 + 2 * v)) 6) (h2 : ∀ i, i < ntW w → m1 (w' (178 + 4 * i)) (vaW w i) ∧ b01 (w' (179 + 4 * i))) (h3 : ∀ p, p < 1200 → ∃ a, a ≤ 9 ∧ w' (1476 + p) = nI a) : WfW w' := by
  obtain ⟨⟨⟨n0, c0, c0'⟩, c1, c2, c3, c4, c5⟩, d1, d2, d3, d4, ⟨sec, d5⟩, d6⟩ := id hWf
  have b1 := c1.2
  have b2 := c2.2
  have b3 := c3.2
  have b5 := c5.2
  refine ⟨⟨⟨n0, c0, (A 0 (by unfold vol; omega)).trans c0'⟩, ?_, ?_, ?_, ?_, ?_⟩, fun v hv => ?_, fun r hr => ?_, fun i hi => ?_, ⟨fun v i hv hi => ?_, h3⟩, ⟨sec, ag_L hWf A d5⟩, fun k hk => ?_⟩
  · rw [ag_nv A, A 1 (by unfold vol; omega)]; exact c1
  · rw [ag_nr A, A 2 (by unfold vol; omega)]; exact c2
  · rw [ag_nt A, A 3 (by unfold vol; omega)]; exact c3
  · rw [ag_nl A, A 4 (by unfold vol; omega)]; exact c4
  · rw [ag_np A, A 5 (by unfold vol; omega)]; exact c5
  · rw [ag_nv A] at hv
    obtain ⟨⟨n, q1, q2, q3⟩, _⟩ := d1 v hv
    exact ⟨⟨n, q1, q2, (A _ (by unfold vol; omega)).trans q3⟩, h1 v hv⟩
  · rw [ag_nr A] at hr
    obtain ⟨q1, q2, q3, q4⟩ := d2 r hr
    rw [ag_ra A (by omega), ag_rb A (by omega), ag_nv A]
    exact ⟨⟨(A _ (by unfold vol; omega)).trans q1.1, q1.2⟩, ⟨(A _ (by unfold vol; omega)).trans q2.1, q2.2⟩, q3, by rw [A _ (by unfold vol; omega)]; exact q4⟩
  · rw [ag_nt A] at hi
    obtain ⟨⟨q1, q2⟩, ⟨a, q3, q4⟩, _⟩ := d3 i hi
    rw [ag_va A (by omega)]
    exact ⟨⟨(A _ (by unfold vol; omega)).trans q1, q2⟩, ⟨a, q3, (A _ (by unfold vol; omega)).trans q4⟩, (h2 i hi).1, (h2 i hi).2⟩
  · rw [ag_nv A] at hv; rw [ag_nt A] at hi
    rw [ag_va A (by omega), A _ (by unfold vol; omega)]
    exact d4.1 v i hv hi
  · rw [ag_np A] at hk
    obtain ⟨⟨a, q1, q2⟩, n, q3, q4, q5⟩ := d6 k hk
    rw [A (577 + 3 * k) (by unfold vol; omega), A (578 + 3 * k) (by unfold vol; omega)]
    exact ⟨⟨a, q1, q2⟩, n, q3, q4, q5⟩
end AGW
theorem RepC.wr {h h' : aH} {w w' tp : Nat → Int32} {tl : Nat} {im hi : Nat → Int32} {fk fp : Int32} {mn wd : Nat → Int32} {nu : Nat → Int64} (HC : RepC h w tp tl im hi fk fp mn wd nu) (hWf : WfW w) (A : AgW w w') (hl : h'.length = h.length) (hk : ∀ k, k < 44 ∨ 50 ≤ k → h'[k]? = h[k]?) (V' : VoiceR h' 44 w') (N' : NotesR h' 47 w') : RepC h' w' tp tl im hi fk fp mn wd nu ∧ FrC h h' := by
  obtain ⟨ls, lr, ct, bu, lb, ft, ta, un, ln, k9, s9, a9, n9, ig, sg, b0, b1, b2, b3, b4, b5, b6, b7, b8, b9, b10, b11, b12, b13, b14, b15, b16, b17⟩ := HC
  obtain ⟨c0, c1, c2, c3, c4⟩ := b6
  refine ⟨⟨ls, lr, ct, bu, lb, ft, ta, un, ln, k9, s9, a9, n9, ig, sg, b0, b1.kp (hk _ (by omega)), b2.kp (hk _ (by omega)), b3, b4.kp (hk _ (by omega)), b5.kp (fun k p1 p2 => hk k (by omega)), ⟨c0.kp (hk _ (by omega)), (c1.kp (fun k p1 p2 => hk k (by omega))).ag hWf A, (c2.kp (fun k p1 p2 => hk k (by omega))).ag hWf A, V', N'⟩, (b7.kp (fun k p1 p2 => hk k (by omega))).ag hWf A, b8.kp (hk _ (by omega)), b9.kp (hk _ (by omega)), b10.kp (hk _ (by omega)), b11.kp (hk _ (by omega)), b12.kp (hk _ (by omega)), b13.kp (hk _ (by omega)), fun k p1 => ?_, b15, b16.kp (hk _ (by omega)), fun k p1 => ?_⟩, by omega, fun k p1 p2 => hk k (by omega)⟩
  · rcases b14 k p1 with c | ⟨d1, q, d2, d3, d4, d5⟩
    · exact Or.inl c
    · exact Or.inr ⟨d1, q, d2, d3, d4.kp (hk _ (by omega)) (fun k p1 p2 => hk k (by omega)) (fun k p1 p2 => hk k (by omega)) (fun k p1 p2 => hk k (by omega)), d5⟩
  · obtain ⟨d1, d2, nm, d3, d4⟩ := b17 k p1
    exact ⟨d1, d2.kp (hk _ (by omega)), nm, d3.kp (hk _ (by omega)), d4⟩
theorem RepM.wr {h h' : aH} {w w' tp : Nat → Int32} {tl : Nat} {im hi : Nat → Int32} {fk fp : Int32} {mn wd : Nat → Int32} {nu : Nat → Int64} (HM : RepM h w tp tl im hi fk fp mn wd nu) (hWf : WfW w) (A : AgW w w') (hl : h'.length = h.length) (hk : ∀ k, k ≠ 72 → h'[k]? = h[k]?) (W' : isI h' 72 2676 w') : RepM h' w' tp tl im hi fk fp mn wd nu ∧ FrM h h' := by
  obtain ⟨th, sz, at9, fr, tk, vl, il, up, lo, fv, fs, sa9, tn, le, mv, q0, q1, q2, q3, q4, q5, q6, q7, q8, q9, q10, q11, q12, q13, q14⟩ := HM
  exact ⟨⟨th, sz, at9, fr, tk, vl, il, up, lo, fv, fs, sa9, tn, le, mv, q0.kp (hk _ (by decide)), W', q2.kp (hk _ (by decide)), q3.kp (hk _ (by decide)), q4.kp (hk _ (by decide)), q5.kp (hk _ (by decide)), q6.kp (hk _ (by decide)), q7.kp (hk _ (by decide)), q8.kp (hk _ (by decide)), q9.kp (hk _ (by decide)), q10.kp (hk _ (by decide)), q11.kp (hk _ (by decide)), q12.kp (hk _ (by decide)), q13.kp (hk _ (by decide)), q14.ag hWf A⟩, hl, fun k p => hk k (by omega)⟩
/-- a call that changes what is heard, noted or walked -/
theorem kase_w {jx jm : Nat} {As : List Value} (fA : (Nat → Int32) → Int32) (fW : (Nat → Int32) → Nat → Int32) (hW : ∀ w, WfW w → Hd8 w → WfW (fW w) ∧ Hd8 (fW w) ∧ AgW w (fW w)) (hx : ∀ h ls w, WfW w → Hd8 w → XV h ls w → Sp (Rn 700) jx (.ref 0 :: As) h (fun r9 h' => r9 = some (.int (fA w)) ∧ h'.length = h.length ∧ (∀ k, k < 44 ∨ 50 ≤ k → h'[k]? = h[k]?) ∧ VoiceR h' 44 (fW w) ∧ NotesR h' 47 (fW w))) (hm : ∀ h1 w, WfW w → Hd8 w → MH h1 w → Sp (Rn 700) jm (.ref 71 :: As) h1 (fun r9 h' => r9 = some (.int (fA w)) ∧ h'.length = h1.length ∧ (∀ k, k ≠ 72 → h'[k]? = h1[k]?) ∧ isI h' 72 2676 (fW w))) : CaseI Rq jx jm As := by
  intro h hR
  obtain ⟨w, tp, tl, im, hi, fk, fp, mn, wd, nu, ⟨g1, g8, g9⟩, g2, HM, HC⟩ := id hR
  obtain ⟨ls, V, R⟩ := HC.xv
  obtain ⟨w1, w2, w3⟩ := hW w g1 g8
  obtain ⟨r1, h1, x1, rfl, l1, k1, V1, N1⟩ := hx h ls w g1 g8 V
  obtain ⟨HC1, F1⟩ := HC.wr g1 w3 l1 k1 V1 N1
  have HM1 := HM.kp (h' := h1) (fun k p1 p2 => F1.2 k p1 p2)
  obtain ⟨r2, h2, x2, rfl, l2, k2, W2⟩ := hm h1 w g1 g8 HM1.mq.mh
  obtain ⟨HM2, F2⟩ := HM1.wr g1 w3 l2 k2 W2
  have HC2 := HC1.kp (h' := h2) F2.2
  obtain ⟨a0, ⟨x, a1⟩, a2, a3⟩ := V
  obtain ⟨th, tp9, sz, at9, fr, tk, vl, fk9, fp9, il, up, lo, q0, q1⟩ := HM1.mq.mh
  exact ⟨fA w, h1, h2, 0, 0, _, _, by decide, by decide, a1, x1, q0, x2, fW w, tp, tl, im, hi, fk, fp, mn, wd, nu, ⟨w1, w2, g9⟩, g2, HM2, HC2⟩
