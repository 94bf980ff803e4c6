/-! FEED, COUNT, ROW -/
theorem wn_incI {C : aC} {i pc : Nat} {lv : aL} {st : List Value} {h : aH} {Q : Option Value → aH → Prop} {q a b pc' : Nat} {n : Int} {x : Int32} {lv' : aL} (hi : ins i pc = some (.iinc q n, a, b)) (hn : pc + 3 = pc') (hg : lvG lv q = some (.int x)) (hm : q < mMax i) (hv : lvP lv q (.int (x + Int32.ofInt n)) = lv') (k : Wn C i pc' lv' st h Q) : Wn C i pc lv st h Q := by
  subst hn; subst hv
  exact wn_go hi (fun K r h1 kk => ⟨x, hg, hm, kk⟩) k
def SlV (h : aH) (mn wd : Nat → Int32) (nu : Nat → Int64) : Prop := ∃ sg : Nat → Option Nat, isA h 5 51 4 sg ∧ ∀ k, k < 4 → sg k = some (63 + 2 * k) ∧ isO h (63 + 2 * k) 5 [.int (wd k), .int (mn k), .ref (64 + 2 * k)] ∧ ∃ nm : Nat → Int64, isJ h (64 + 2 * k) 60 nm ∧ ∀ p, p < 60 → nm p = nu (60 * k + p)
section RPC
variable {h : aH} {w tp : Nat → Int32} {tl : Nat} {im hi : Nat → Int32} {fk fp : Int32} {mn wd : Nat → Int32} {nu : Nat → Int64}
theorem RepC.sl (HC : RepC h w tp tl im hi fk fp mn wd nu) : SlV h mn wd nu := by
  obtain ⟨ls, lr, ct, bu, lb, ft, ta, un, ln, k9, s9, a9, n9, ig, sg, b0, b1, b2, b3, b4, b5, b6, b7, b8, b9, b10, b11, b12, b13, b14, b15, b16, b17⟩ := HC
  exact ⟨sg, b16, b17⟩
theorem RepC.x0 (HC : RepC h w tp tl im hi fk fp mn wd nu) : isO h 0 8 [.ref 1, .int (nI tl), .ref 2, .ref 23, .ref 50, .ref 51, .ref 52, .ref 58, .ref 59, .ref 60, .ref 61, .ref 62] := by
  obtain ⟨ls, lr, ct, bu, lb, ft, ta, un, ln, k9, s9, a9, n9, ig, sg, b0, b1, _⟩ := HC
  exact b1
theorem RepC.x1 (HC : RepC h w tp tl im hi fk fp mn wd nu) : ∃ ct : Nat → Int32, isB h 1 1200 ct ∧ ∀ p, p < 1200 → ct p = tp p := by
  obtain ⟨ls, lr, ct, bu, lb, ft, ta, un, ln, k9, s9, a9, n9, ig, sg, b0, b1, b2, b3, _⟩ := HC
  exact ⟨ct, b2, b3⟩
/-- slots and tape set anew -/
theorem RepC.ws {h' : aH} {tp' : Nat → Int32} {tl' : Nat} {mn' wd' : Nat → Int32} {nu' : Nat → Int64} {ct' : Nat → Int32} (HC : RepC h w tp tl im hi fk fp mn wd nu) (hl : h'.length = h.length) (hk : ∀ k, 2 ≤ k → k < 51 ∨ 52 ≤ k → k < 63 ∨ 71 ≤ k → h'[k]? = h[k]?) (X0 : isO h' 0 8 [.ref 1, .int (nI tl'), .ref 2, .ref 23, .ref 50, .ref 51, .ref 52, .ref 58, .ref 59, .ref 60, .ref 61, .ref 62]) (X1 : isB h' 1 1200 ct') (X2 : ∀ p, p < 1200 → ct' p = tp' p) (SL : SlV h' mn' wd' nu') : RepC h' w tp' tl' im hi fk fp mn' wd' nu' ∧ FrC h h' := by
  obtain ⟨ls, lr, ct, bu, lb, ft, ta, un, ln, k9, s9, a9, n9, ig, sg, b0, b1, b2, b3, b4, b5, b6, b7, b8, b9, b10, b11, b12, b13, b14, b15, b16, b17⟩ := HC
  obtain ⟨sg', s1, s2⟩ := SL
  refine ⟨⟨ls, lr, ct', bu, lb, ft, ta, un, ln, k9, s9, a9, n9, ig, sg', b0, X0, X1, X2, b4.kp (hk _ (by omega) (by omega) (by omega)), b5.kp (fun k p1 p2 => hk k (by omega) (by omega) (by omega)), b6.kp (hk _ (by omega) (by omega) (by omega)) (fun k p1 p2 => hk k (by omega) (by omega) (by omega)) (fun k p1 p2 => hk k (by omega) (by omega) (by omega)) (fun k p1 p2 => hk k (by omega) (by omega) (by omega)), b7.kp (fun k p1 p2 => hk k (by omega) (by omega) (by omega)), b8.kp (hk _ (by omega) (by omega) (by omega)), b9.kp (hk _ (by omega) (by omega) (by omega)), b10.kp (hk _ (by omega) (by omega) (by omega)), b11.kp (hk _ (by omega) (by omega) (by omega)), b12.kp (hk _ (by omega) (by omega) (by omega)), b13.kp (hk _ (by omega) (by omega) (by omega)), fun k p1 => ?_, b15, s1, s2⟩, by omega, fun k p1 p2 => hk k (by omega) (by omega) (by omega)⟩
  rcases b14 k p1 with c | ⟨d1, q, d2, d3, d4, d5⟩
  · exact Or.inl c
  · exact Or.inr ⟨d1, q, d2, d3, d4.kp (hk _ (by omega) (by omega) (by omega)) (fun k p1 p2 => hk k (by omega) (by omega) (by omega)) (fun k p1 p2 => hk k (by omega) (by omega) (by omega)) (fun k p1 p2 => hk k (by omega) (by omega) (by omega)), d5⟩
theorem SlV.kp {h' : aH} (S : SlV h mn wd nu) (hk : ∀ k, k = 51 ∨ (63 ≤ k ∧ k < 71) → h'[k]? = h[k]?) : SlV h' mn wd nu := by
  obtain ⟨sg, s1, s2⟩ := S
  refine ⟨sg, s1.kp (hk _ (by omega)), fun k p1 => ?_⟩
  obtain ⟨c1, c2, nm, c3, c4⟩ := s2 k p1
  exact ⟨c1, c2.kp (hk _ (by omega)), nm, c3.kp (hk _ (by omega)), c4⟩
/-- the reference's view of tape and slots -/
def MtV (h : aH) (tp : Nat → Int32) (tl : Nat) (mn wd : Nat → Int32) (nu : Nat → Int64) : Prop := ∃ (th sz at9 fr tk vl fk fp il : Int32) (up lo : Int64) (fv : Nat → Int32) (mv : Nat → Int64), isO h 71 9 (MoF th (nI tl) sz at9 fr tk vl fk fp il up lo) ∧ isB h 75 1200 tp ∧ isI h 76 5 fv ∧ isI h 81 4 mn ∧ isI h 82 4 wd ∧ isJ h 83 240 nu ∧ isJ h 84 60 mv
theorem RepM.mt (HM : RepM h w tp tl im hi fk fp mn wd nu) : MtV h tp tl mn wd nu := by
  obtain ⟨th, sz, at9, fr, tk, vl, il, up, lo, fv, fs, sa9, tn, le, mv, q0, q1, q2, q3, q4, q5, q6, q7, q8, q9, q10, q11, q12, q13, q14⟩ := HM
  exact ⟨_, _, _, _, _, _, _, _, _, _, _, fv, mv, q0, q4, q5, q10, q11, q12, q13⟩
theorem RepM.ws {h' : aH} {tp' : Nat → Int32} {tl' : Nat} {mn' wd' : Nat → Int32} {nu' : Nat → Int64} {fv' : Nat → Int32} {mv' : Nat → Int64} (HM : RepM h w tp tl im hi fk fp mn wd nu) (hl : h'.length = h.length) (hk : ∀ k, k ≠ 71 → k ≠ 75 → k ≠ 76 → k < 81 ∨ 85 ≤ k → h'[k]? = h[k]?) (h0 : ∀ th sz at9 fr tk vl fk fp il up lo, isO h 71 9 (MoF th (nI tl) sz at9 fr tk vl fk fp il up lo) → isO h' 71 9 (MoF th (nI tl') sz at9 fr tk vl fk fp il up lo)) (h1 : isB h' 75 1200 tp') (h2 : isI h' 76 5 fv') (h3 : isI h' 81 4 mn') (h4 : isI h' 82 4 wd') (h5 : isJ h' 83 240 nu') (h6 : isJ h' 84 60 mv') : RepM h' w tp' tl' im hi fk fp mn' wd' nu' ∧ FrM h h' := by
  obtain ⟨th, sz, at9, fr, tk, vl, il, up, lo, fv, fs, sa9, tn, le, mv, q0, q1, q2, q3, q4, q5, q6, q7, q8, q9, q10, q11, q12, q13, q14⟩ := HM
  exact ⟨⟨th, sz, at9, fr, tk, vl, il, up, lo, fv', fs, sa9, tn, le, mv', h0 _ _ _ _ _ _ _ _ _ _ _ q0, q1.kp (hk _ (by decide) (by decide) (by decide) (by decide)), q2.kp (hk _ (by decide) (by decide) (by decide) (by decide)), q3.kp (hk _ (by decide) (by decide) (by decide) (by decide)), h1, h2, q6.kp (hk _ (by decide) (by decide) (by decide) (by decide)), q7.kp (hk _ (by decide) (by decide) (by decide) (by decide)), q8.kp (hk _ (by decide) (by decide) (by decide) (by decide)), q9.kp (hk _ (by decide) (by decide) (by decide) (by decide)), h3, h4, h5, h6, q14⟩, hl, fun k p => hk k (by omega) (by omega) (by omega) (by omega)⟩
end RPC
/-- a call on tape and slots -/
theorem kase_s {jx jm : Nat} {As : List Value} (fA : (Nat → Int32) → Nat → (Nat → Int32) → (Nat → Int32) → (Nat → Int64) → Int32) (fT : (Nat → Int32) → Nat → Nat → Int32) (fL : Nat → Nat) (fM fD : (Nat → Int32) → (Nat → Int32) → Nat → Int32) (fN : (Nat → Int32) → (Nat → Int32) → (Nat → Int64) → Nat → Int64)
    (hW : ∀ tp tl mn wd, WfS tp tl mn wd → WfS (fT tp tl) (fL tl) (fM mn wd) (fD mn wd))
    (hx : ∀ h tp tl mn wd nu ct, WfS tp tl mn wd → isO h 0 8 [.ref 1, .int (nI tl), .ref 2, .ref 23, .ref 50, .ref 51, .ref 52, .ref 58, .ref 59, .ref 60, .ref 61, .ref 62] → isB h 1 1200 ct → (∀ p, p < 1200 → ct p = tp p) → SlV h mn wd nu → Sp (Rn 700) jx (.ref 0 :: As) h (fun r9 h' => r9 = some (.int (fA tp tl mn wd nu)) ∧ h'.length = h.length ∧ (∀ k, 2 ≤ k → k < 51 ∨ 52 ≤ k → k < 63 ∨ 71 ≤ k → h'[k]? = h[k]?) ∧ isO h' 0 8 [.ref 1, .int (nI (fL tl)), .ref 2, .ref 23, .ref 50, .ref 51, .ref 52, .ref 58, .ref 59, .ref 60, .ref 61, .ref 62] ∧ (∃ ct', isB h' 1 1200 ct' ∧ ∀ p, p < 1200 → ct' p = fT tp tl p) ∧ SlV h' (fM mn wd) (fD mn wd) (fN mn wd nu)))
    (hm : ∀ h tp tl mn wd nu, WfS tp tl mn wd → MtV h tp tl mn wd nu → Sp (Rn 700) jm (.ref 71 :: As) h (fun r9 h' => r9 = some (.int (fA tp tl mn wd nu)) ∧ h'.length = h.length ∧ (∀ k, k ≠ 71 → k ≠ 75 → k ≠ 76 → k < 81 ∨ 85 ≤ k → h'[k]? = h[k]?) ∧ (∀ th sz at9 fr tk vl fk fp il up lo, isO h 71 9 (MoF th (nI tl) sz at9 fr tk vl fk fp il up lo) → isO h' 71 9 (MoF th (nI (fL tl)) sz at9 fr tk vl fk fp il up lo)) ∧ isB h' 75 1200 (fT tp tl) ∧ (∃ fv', isI h' 76 5 fv') ∧ isI h' 81 4 (fM mn wd) ∧ isI h' 82 4 (fD mn wd) ∧ isJ h' 83 240 (fN mn wd nu) ∧ ∃ mv', isJ h' 84 60 mv')) : CaseI Rq jx jm As := by
  intro h hR
  obtain ⟨w, tp, tl, im, hi, fk, fp, mn, wd, nu, g1, g2, HM, HC⟩ := id hR
  have X0 := HC.x0
  obtain ⟨ct, X1, X2⟩ := HC.x1
  obtain ⟨r1, h1, x1, rfl, l1, k1, Y0, ⟨ct', Y1, Y2⟩, SL⟩ := hx h tp tl mn wd nu ct g2 X0 X1 X2 HC.sl
  obtain ⟨HC1, F1⟩ := HC.ws l1 k1 Y0 Y1 Y2 SL
  have HM1 := HM.kp (h' := h1) (fun k p1 p2 => F1.2 k p1 p2)
  obtain ⟨r2, h2, x2, rfl, l2, k2, m0, m1, ⟨fv', m2⟩, m3, m4, m5, ⟨mv', m6⟩⟩ := hm h1 tp tl mn wd nu g2 HM1.mt
  obtain ⟨HM2, F2⟩ := HM1.ws l2 k2 m0 m1 m2 m3 m4 m5 m6
  have HC2 := HC1.kp (h' := h2) F2.2
  obtain ⟨th, tp9, sz, at9, fr, tk, vl, fk9, fp9, il, up, lo, q0, q1⟩ := HM1.mq.mh
  exact ⟨_, h1, h2, 0, 0, _, _, by decide, by decide, X0, x1, q0, x2, w, _, _, im, hi, fk, fp, _, _, _, g1, hW tp tl mn wd g2, HM2, HC2⟩
/-- one that only looks -/
theorem kase_k {jx jm : Nat} {As : List Value} (fA : (Nat → Int32) → Nat → (Nat → Int32) → Int32)
    (hx : ∀ h ls w tl mn wd nu, WfW w → XV h ls w → isO h 0 8 [.ref 1, .int (nI tl), .ref 2, .ref 23, .ref 50, .ref 51, .ref 52, .ref 58, .ref 59, .ref 60, .ref 61, .ref 62] → SlV h mn wd nu → Rn 700 jx (.ref 0 :: As) h (some (.int (fA w tl mn))) h 0 0)
    (hm : ∀ h w tp tl mn wd nu, WfW w → MH h w → MtV h tp tl mn wd nu → Rn 700 jm (.ref 71 :: As) h (some (.int (fA w tl mn))) h 0 0) : CaseI Rq jx jm As := by
  intro h hR
  obtain ⟨w, tp, tl, im, hi, fk, fp, mn, wd, nu, g1, g2, HM, HC⟩ := id hR
  obtain ⟨ls, V, R⟩ := HC.xv
  have X0 := HC.x0
  have x1 := hx h ls w tl mn wd nu g1.1 V X0 HC.sl
  have x2 := hm h w tp tl mn wd nu g1.1 HM.mq.mh HM.mt
  obtain ⟨th, tp9, sz, at9, fr, tk, vl, fk9, fp9, il, up, lo, q0, q1⟩ := HM.mq.mh
  exact ⟨_, h, h, 0, 0, _, _, by decide, by decide, X0, x1, q0, x2, hR⟩
/-! feed -/
def byO (x : Int32) (j : Nat) : Int32 := (x >>> (nI (24 - 8 * j) &&& 31)).toInt8.toInt32
def pbT (ct : Nat → Int32) (tl : Nat) (x : Int32) : Nat → Int32 := fun p => if tl ≤ p ∧ p < tl + 4 then byO x (p - tl) else ct p
theorem pb_eq (ct : Nat → Int32) (tl : Nat) (x : Int32) : upd (upd (upd (upd ct tl (byO x 0)) (tl + 1) (byO x 1)) (tl + 2) (byO x 2)) (tl + 3) (byO x 3) = pbT ct tl x := funext (fun p => by
  unfold pbT
  by_cases c : tl ≤ p ∧ p < tl + 4
  · rw [if_pos c]
    rcases (show p = tl ∨ p = tl + 1 ∨ p = tl + 2 ∨ p = tl + 3 by omega) with e | e | e | e
    · rw [e, pk_un (by omega), pk_un (by omega), pk_un (by omega), pk_us, show tl - tl = 0 by omega]
    · rw [e, pk_un (by omega), pk_un (by omega), pk_us, show tl + 1 - tl = 1 by omega]
    · rw [e, pk_un (by omega), pk_us, show tl + 2 - tl = 2 by omega]
    · rw [e, pk_us, show tl + 3 - tl = 3 by omega]
  · rw [if_neg c, pk_un (by omega), pk_un (by omega), pk_un (by omega), pk_un (by omega)])
def sel5 (a b c d e : Int32) (j : Nat) : Int32 := if j = 0 then a else if j = 1 then b else if j = 2 then c else if j = 3 then d else e
def fdK (tp : Nat → Int32) (tl : Nat) (s : Nat → Int32) (k : Nat) : Nat → Int32 := fun p => if tl ≤ p ∧ p < tl + k then byO (s ((p - tl) / 4)) ((p - tl) % 4) else tp p
theorem fdK_s {tp : Nat → Int32} {tl : Nat} {s : Nat → Int32} {k : Nat} {x : Int32} (hx : x = byO (s (k / 4)) (k % 4)) : upd (fdK tp tl s k) (tl + k) x = fdK tp tl s (k + 1) := funext (fun p => by
  unfold fdK
  by_cases c : p = tl + k
  · rw [c, pk_us, if_pos (by omega), hx, show tl + k - tl = k by omega]
  · rw [pk_un c]
    by_cases d : tl ≤ p ∧ p < tl + k
    · rw [if_pos d, if_pos (by omega)]
    · rw [if_neg d, if_neg (by omega)])
theorem fd_pb (tp : Nat → Int32) (tl : Nat) (a b c d e : Int32) (p : Nat) : pbT (pbT (pbT (pbT (pbT tp tl a) (tl + 4) b) (tl + 8) c) (tl + 12) d) (tl + 16) e p = fdK tp tl (sel5 a b c d e) 20 p := by
  unfold fdK pbT sel5
  by_cases c5 : tl + 16 ≤ p ∧ p < tl + 16 + 4
  · rw [if_pos c5, if_pos (by omega), show (p - tl) / 4 = 4 by omega, show (p - tl) % 4 = p - (tl + 16) by omega]; rfl
  · rw [if_neg c5]
    by_cases c4 : tl + 12 ≤ p ∧ p < tl + 12 + 4
    · rw [if_pos c4, if_pos (by omega), show (p - tl) / 4 = 3 by omega, show (p - tl) % 4 = p - (tl + 12) by omega]; rfl
    · rw [if_neg c4]
      by_cases c3 : tl + 8 ≤ p ∧ p < tl + 8 + 4
      · rw [if_pos c3, if_pos (by omega), show (p - tl) / 4 = 2 by omega, show (p - tl) % 4 = p - (tl + 8) by omega]; rfl
      · rw [if_neg c3]
        by_cases c2 : tl + 4 ≤ p ∧ p < tl + 4 + 4
        · rw [if_pos c2, if_pos (by omega), show (p - tl) / 4 = 1 by omega, show (p - tl) % 4 = p - (tl + 4) by omega]; rfl
        · rw [if_neg c2]
          by_cases c1 : tl ≤ p ∧ p < tl + 4
          · rw [if_pos c1, if_pos (by omega), show (p - tl) / 4 = 0 by omega, show (p - tl) % 4 = p - tl by omega]; rfl
          · rw [if_neg c1, if_neg (by omega)]
def feedL (tl : Nat) : Nat := if tl + 20 ≤ 1200 then tl + 20 else tl
def feedT (a b c d e : Int32) (tp : Nat → Int32) (tl : Nat) : Nat → Int32 := if tl + 20 ≤ 1200 then fdK tp tl (sel5 a b c d e) 20 else tp
def feedA (tl : Nat) : Int32 := if tl + 20 ≤ 1200 then nI (tl + 20) else -1
theorem by8 (x : Int32) (j : Nat) : (byO x j).toInt8.toInt32 = byO x j := by unfold byO; simp
theorem feed_w (a b c d e : Int32) {tp : Nat → Int32} {tl : Nat} {mn wd : Nat → Int32} (H : WfS tp tl mn wd) : WfS (feedT a b c d e tp tl) (feedL tl) mn wd := by
  obtain ⟨h1, h2, h3⟩ := H
  refine ⟨?_, fun p hp => ?_, h3⟩
  · unfold feedL; split <;> omega
  · unfold feedT
    split
    · unfold fdK
      split
      · exact by8 _ _
      · exact h2 p hp
    · exact h2 p hp
theorem x_putBytes (d : Nat) (h : aH) (tl : Nat) (ct : Nat → Int32) (x : Int32) (h4 : tl + 4 ≤ 1200) (o0 : isO h 0 8 [.ref 1, .int (nI tl), .ref 2, .ref 23, .ref 50, .ref 51, .ref 52, .ref 58, .ref 59, .ref 60, .ref 61, .ref 62]) (o1 : isB h 1 1200 ct) : Sp (Rn (d + 1)) 66 [.ref (0), .int (x)] h (fun r9 h9 => r9 = none ∧ Fr [0, 1] h h9 ∧ isO h9 0 8 [.ref 1, .int (nI (tl + 4)), .ref 2, .ref 23, .ref 50, .ref 51, .ref 52, .ref 58, .ref 59, .ref 60, .ref 61, .ref 62] ∧ isB h9 1 1200 (pbT ct tl x)) := by
  refine Sp_of (by decide) (Nat.le_of_ble_eq_true rfl) ?_
  show Wn _ _ 0 [(0, .ref (0)), (1, .int (x))] [] _ _
  refine wn_bp (pc' := 2) (w := nI 24) rfl rfl (by decide) ?_
  refine wn_st (pc' := 3) (q := 2) (kin := 0) (lv' := [(0, .ref (0)), (1, .int (x)), (2, .int (nI (24)))]) rfl (fun _ _ _ => rfl) rfl (Nat.le_of_ble_eq_true rfl) rfl ?_
  refine wn_ld (pc' := 4) (q := 2) (kin := 0) (v := .int (nI (24))) rfl (fun _ _ _ => rfl) rfl rfl ?_
  refine wn_ifN (t := 46) (f := 7) rfl rfl rfl (by omega) (fun c1 => ?_) (fun c1 => ?_)
  · have c1 : 24 < 0 := c1
    exact absurd c1 (by decide)
  · have c1 : 0 ≤ 24 := c1
    refine wn_ld (pc' := 8) (q := 0) (kin := 2) (v := .ref (0)) rfl (fun _ _ _ => rfl) rfl rfl ?_
    refine wn_get (pc' := 11) (v := .int (nI (tl))) rfl rfl o0 rfl ?_
    refine wn_sp (pc' := 14) (w := nI 1200) rfl rfl (by decide) ?_
    refine wn_icmpN (t := 46) (f := 17) rfl rfl rfl (by omega) (by omega) (fun c2 => ?_) (fun c2 => ?_)
    · have c2 : 1200 ≤ tl := c2
      exfalso; omega
    · have c2 : tl < 1200 := c2
      refine wn_ld (pc' := 18) (q := 0) (kin := 2) (v := .ref (0)) rfl (fun _ _ _ => rfl) rfl rfl ?_
      refine wn_get (pc' := 21) (v := .ref (1)) rfl rfl o0 rfl ?_
      refine wn_ld (pc' := 22) (q := 0) (kin := 2) (v := .ref (0)) rfl (fun _ _ _ => rfl) rfl rfl ?_
      refine wn_get (pc' := 25) (v := .int (nI (tl))) rfl rfl o0 rfl ?_
      refine wn_ld (pc' := 26) (q := 1) (kin := 0) (v := .int (x)) rfl (fun _ _ _ => rfl) rfl rfl ?_
      refine wn_ld (pc' := 27) (q := 2) (kin := 0) (v := .int (nI (24))) rfl (fun _ _ _ => rfl) rfl rfl ?_
      refine wn_pu (pc' := 28) (st' := [.int ((x) >>> ((nI (24)) &&& 31)), .int (nI (tl)), .ref (1)]) rfl (fun _ _ _ => rfl) rfl rfl ?_
      refine wn_pu (pc' := 29) (st' := [.int ((((x) >>> ((nI (24)) &&& 31))).toInt8.toInt32), .int (nI (tl)), .ref (1)]) rfl (fun _ _ _ => rfl) rfl rfl ?_
      refine wn_bastB (pc' := 30) (j := tl) rfl rfl o1 rfl (by omega) (by decide) ?_
      refine wn_ld (pc' := 31) (q := 0) (kin := 2) (v := .ref (0)) rfl (fun _ _ _ => rfl) rfl rfl ?_
      refine wn_pu (pc' := 32) (st' := [.ref (0), .ref (0)]) rfl (fun _ _ _ => rfl) rfl rfl ?_
      refine wn_get (pc' := 35) (v := .int (nI (tl))) rfl rfl (gs_ne (by decide) o0) rfl ?_
      refine wn_ic (pc' := 36) (w := nI 1) rfl rfl (by decide) ?_
      refine wn_addN (pc' := 37) rfl rfl ?_
      refine wn_put (pc' := 40) rfl rfl (gs_ne (by decide) o0) (Nat.le_of_ble_eq_true rfl) ⟨rfl, rfl⟩ ?_
      show Wn _ _ 40 _ [] ((h.set 1 (.inl (1, 1200, .inl (upd ct (tl) (vp_nar .byte ((((x) >>> ((nI (24)) &&& 31))).toInt8.toInt32)))))).set 0 (.inr (8, [.ref (1), .int (nI (tl + 1)), .ref (2), .ref (23), .ref (50), .ref (51), .ref (52), .ref (58), .ref (59), .ref (60), .ref (61), .ref (62)]))) _
      refine wn_incI (n := -8) (pc' := 43) (lv' := [(0, .ref (0)), (1, .int (x)), (2, .int (nI (16)))]) rfl rfl rfl (Nat.le_of_ble_eq_true rfl) rfl ?_
      refine wn_jp (pc' := 3) rfl rfl ?_
      refine wn_ld (pc' := 4) (q := 2) (kin := 0) (v := .int (nI (16))) rfl (fun _ _ _ => rfl) rfl rfl ?_
      refine wn_ifN (t := 46) (f := 7) rfl rfl rfl (by omega) (fun c3 => ?_) (fun c3 => ?_)
      · have c3 : 16 < 0 := c3
        exact absurd c3 (by decide)
      · have c3 : 0 ≤ 16 := c3
        refine wn_ld (pc' := 8) (q := 0) (kin := 2) (v := .ref (0)) rfl (fun _ _ _ => rfl) rfl rfl ?_
        refine wn_get (pc' := 11) (v := .int (nI (tl + 1))) rfl rfl (gs_self (gs_ne (by decide) o0)) rfl ?_
        refine wn_sp (pc' := 14) (w := nI 1200) rfl rfl (by decide) ?_
        refine wn_icmpN (t := 46) (f := 17) rfl rfl rfl (by omega) (by omega) (fun c4 => ?_) (fun c4 => ?_)
        · have c4 : 1200 ≤ (tl + 1) := c4
          exfalso; omega
        · have c4 : (tl + 1) < 1200 := c4
          refine wn_ld (pc' := 18) (q := 0) (kin := 2) (v := .ref (0)) rfl (fun _ _ _ => rfl) rfl rfl ?_
          refine wn_get (pc' := 21) (v := .ref (1)) rfl rfl (gs_self (gs_ne (by decide) o0)) rfl ?_
          refine wn_ld (pc' := 22) (q := 0) (kin := 2) (v := .ref (0)) rfl (fun _ _ _ => rfl) rfl rfl ?_
          refine wn_get (pc' := 25) (v := .int (nI (tl + 1))) rfl rfl (gs_self (gs_ne (by decide) o0)) rfl ?_
          refine wn_ld (pc' := 26) (q := 1) (kin := 0) (v := .int (x)) rfl (fun _ _ _ => rfl) rfl rfl ?_
          refine wn_ld (pc' := 27) (q := 2) (kin := 0) (v := .int (nI (16))) rfl (fun _ _ _ => rfl) rfl rfl ?_
          refine wn_pu (pc' := 28) (st' := [.int ((x) >>> ((nI (16)) &&& 31)), .int (nI (tl + 1)), .ref (1)]) rfl (fun _ _ _ => rfl) rfl rfl ?_
          refine wn_pu (pc' := 29) (st' := [.int ((((x) >>> ((nI (16)) &&& 31))).toInt8.toInt32), .int (nI (tl + 1)), .ref (1)]) rfl (fun _ _ _ => rfl) rfl rfl ?_
          refine wn_bastB (pc' := 30) (j := tl + 1) rfl rfl (gs_ne (by decide) (gs_self o1)) rfl (by omega) (by decide) ?_
          refine wn_ld (pc' := 31) (q := 0) (kin := 2) (v := .ref (0)) rfl (fun _ _ _ => rfl) rfl rfl ?_
          refine wn_pu (pc' := 32) (st' := [.ref (0), .ref (0)]) rfl (fun _ _ _ => rfl) rfl rfl ?_
          refine wn_get (pc' := 35) (v := .int (nI (tl + 1))) rfl rfl (gs_ne (by decide) (gs_self (gs_ne (by decide) o0))) rfl ?_
          refine wn_ic (pc' := 36) (w := nI 1) rfl rfl (by decide) ?_
          refine wn_addN (pc' := 37) rfl rfl ?_
          refine wn_put (pc' := 40) rfl rfl (gs_ne (by decide) (gs_self (gs_ne (by decide) o0))) (Nat.le_of_ble_eq_true rfl) ⟨rfl, rfl⟩ ?_
          show Wn _ _ 40 _ [] ((((h.set 1 (.inl (1, 1200, .inl (upd ct (tl) (vp_nar .byte ((((x) >>> ((nI (24)) &&& 31))).toInt8.toInt32)))))).set 0 (.inr (8, [.ref (1), .int (nI (tl + 1)), .ref (2), .ref (23), .ref (50), .ref (51), .ref (52), .ref (58), .ref (59), .ref (60), .ref (61), .ref (62)]))).set 1 (.inl (1, 1200, .inl (upd (upd ct (tl) (vp_nar .byte ((((x) >>> ((nI (24)) &&& 31))).toInt8.toInt32))) (tl + 1) (vp_nar .byte ((((x) >>> ((nI (16)) &&& 31))).toInt8.toInt32)))))).set 0 (.inr (8, [.ref (1), .int (nI ((tl + 1) + 1)), .ref (2), .ref (23), .ref (50), .ref (51), .ref (52), .ref (58), .ref (59), .ref (60), .ref (61), .ref (62)]))) _
          refine wn_incI (n := -8) (pc' := 43) (lv' := [(0, .ref (0)), (1, .int (x)), (2, .int (nI (8)))]) rfl rfl rfl (Nat.le_of_ble_eq_true rfl) rfl ?_
          refine wn_jp (pc' := 3) rfl rfl ?_
          refine wn_ld (pc' := 4) (q := 2) (kin := 0) (v := .int (nI (8))) rfl (fun _ _ _ => rfl) rfl rfl ?_
          refine wn_ifN (t := 46) (f := 7) rfl rfl rfl (by omega) (fun c5 => ?_) (fun c5 => ?_)
          · have c5 : 8 < 0 := c5
            exact absurd c5 (by decide)
          · have c5 : 0 ≤ 8 := c5
            refine wn_ld (pc' := 8) (q := 0) (kin := 2) (v := .ref (0)) rfl (fun _ _ _ => rfl) rfl rfl ?_
            refine wn_get (pc' := 11) (v := .int (nI ((tl + 1) + 1))) rfl rfl (gs_self (gs_ne (by decide) (gs_self (gs_ne (by decide) o0)))) rfl ?_
            refine wn_sp (pc' := 14) (w := nI 1200) rfl rfl (by decide) ?_
            refine wn_icmpN (t := 46) (f := 17) rfl rfl rfl (by omega) (by omega) (fun c6 => ?_) (fun c6 => ?_)
            · have c6 : 1200 ≤ ((tl + 1) + 1) := c6
              exfalso; omega
            · have c6 : ((tl + 1) + 1) < 1200 := c6
              refine wn_ld (pc' := 18) (q := 0) (kin := 2) (v := .ref (0)) rfl (fun _ _ _ => rfl) rfl rfl ?_
              refine wn_get (pc' := 21) (v := .ref (1)) rfl rfl (gs_self (gs_ne (by decide) (gs_self (gs_ne (by decide) o0)))) rfl ?_
              refine wn_ld (pc' := 22) (q := 0) (kin := 2) (v := .ref (0)) rfl (fun _ _ _ => rfl) rfl rfl ?_
              refine wn_get (pc' := 25) (v := .int (nI ((tl + 1) + 1))) rfl rfl (gs_self (gs_ne (by decide) (gs_self (gs_ne (by decide) o0)))) rfl ?_
              refine wn_ld (pc' := 26) (q := 1) (kin := 0) (v := .int (x)) rfl (fun _ _ _ => rfl) rfl rfl ?_
              refine wn_ld (pc' := 27) (q := 2) (kin := 0) (v := .int (nI (8))) rfl (fun _ _ _ => rfl) rfl rfl ?_
              refine wn_pu (pc' := 28) (st' := [.int ((x) >>> ((nI (8)) &&& 31)), .int (nI ((tl + 1) + 1)), .ref (1)]) rfl (fun _ _ _ => rfl) rfl rfl ?_
              refine wn_pu (pc' := 29) (st' := [.int ((((x) >>> ((nI (8)) &&& 31))).toInt8.toInt32), .int (nI ((tl + 1) + 1)), .ref (1)]) rfl (fun _ _ _ => rfl) rfl rfl ?_
              refine wn_bastB (pc' := 30) (j := (tl + 1) + 1) rfl rfl (gs_ne (by decide) (gs_self (gs_ne (by decide) (gs_self o1)))) rfl (by omega) (by decide) ?_
              refine wn_ld (pc' := 31) (q := 0) (kin := 2) (v := .ref (0)) rfl (fun _ _ _ => rfl) rfl rfl ?_
              refine wn_pu (pc' := 32) (st' := [.ref (0), .ref (0)]) rfl (fun _ _ _ => rfl) rfl rfl ?_
              refine wn_get (pc' := 35) (v := .int (nI ((tl + 1) + 1))) rfl rfl (gs_ne (by decide) (gs_self (gs_ne (by decide) (gs_self (gs_ne (by decide) o0))))) rfl ?_
              refine wn_ic (pc' := 36) (w := nI 1) rfl rfl (by decide) ?_
              refine wn_addN (pc' := 37) rfl rfl ?_
              refine wn_put (pc' := 40) rfl rfl (gs_ne (by decide) (gs_self (gs_ne (by decide) (gs_self (gs_ne (by decide) o0))))) (Nat.le_of_ble_eq_true rfl) ⟨rfl, rfl⟩ ?_
              show Wn _ _ 40 _ [] ((((((h.set 1 (.inl (1, 1200, .inl (upd ct (tl) (vp_nar .byte ((((x) >>> ((nI (24)) &&& 31))).toInt8.toInt32)))))).set 0 (.inr (8, [.ref (1), .int (nI (tl + 1)), .ref (2), .ref (23), .ref (50), .ref (51), .ref (52), .ref (58), .ref (59), .ref (60), .ref (61), .ref (62)]))).set 1 (.inl (1, 1200, .inl (upd (upd ct (tl) (vp_nar .byte ((((x) >>> ((nI (24)) &&& 31))).toInt8.toInt32))) (tl + 1) (vp_nar .byte ((((x) >>> ((nI (16)) &&& 31))).toInt8.toInt32)))))).set 0 (.inr (8, [.ref (1), .int (nI ((tl + 1) + 1)), .ref (2), .ref (23), .ref (50), .ref (51), .ref (52), .ref (58), .ref (59), .ref (60), .ref (61), .ref (62)]))).set 1 (.inl (1, 1200, .inl (upd (upd (upd ct (tl) (vp_nar .byte ((((x) >>> ((nI (24)) &&& 31))).toInt8.toInt32))) (tl + 1) (vp_nar .byte ((((x) >>> ((nI (16)) &&& 31))).toInt8.toInt32))) ((tl + 1) + 1) (vp_nar .byte ((((x) >>> ((nI (8)) &&& 31))).toInt8.toInt32)))))).set 0 (.inr (8, [.ref (1), .int (nI (((tl + 1) + 1) + 1)), .ref (2), .ref (23), .ref (50), .ref (51), .ref (52), .ref (58), .ref (59), .ref (60), .ref (61), .ref (62)]))) _
              refine wn_incI (n := -8) (pc' := 43) (lv' := [(0, .ref (0)), (1, .int (x)), (2, .int (nI (0)))]) rfl rfl rfl (Nat.le_of_ble_eq_true rfl) rfl ?_
              refine wn_jp (pc' := 3) rfl rfl ?_
              refine wn_ld (pc' := 4) (q := 2) (kin := 0) (v := .int (nI (0))) rfl (fun _ _ _ => rfl) rfl rfl ?_
              refine wn_ifN (t := 46) (f := 7) rfl rfl rfl (by omega) (fun c7 => ?_) (fun c7 => ?_)
              · have c7 : 0 < 0 := c7
                exact absurd c7 (by decide)
              · have c7 : 0 ≤ 0 := c7
                refine wn_ld (pc' := 8) (q := 0) (kin := 2) (v := .ref (0)) rfl (fun _ _ _ => rfl) rfl rfl ?_
                refine wn_get (pc' := 11) (v := .int (nI (((tl + 1) + 1) + 1))) rfl rfl (gs_self (gs_ne (by decide) (gs_self (gs_ne (by decide) (gs_self (gs_ne (by decide) o0)))))) rfl ?_
                refine wn_sp (pc' := 14) (w := nI 1200) rfl rfl (by decide) ?_
                refine wn_icmpN (t := 46) (f := 17) rfl rfl rfl (by omega) (by omega) (fun c8 => ?_) (fun c8 => ?_)
                · have c8 : 1200 ≤ (((tl + 1) + 1) + 1) := c8
                  exfalso; omega
                · have c8 : (((tl + 1) + 1) + 1) < 1200 := c8
                  refine wn_ld (pc' := 18) (q := 0) (kin := 2) (v := .ref (0)) rfl (fun _ _ _ => rfl) rfl rfl ?_
                  refine wn_get (pc' := 21) (v := .ref (1)) rfl rfl (gs_self (gs_ne (by decide) (gs_self (gs_ne (by decide) (gs_self (gs_ne (by decide) o0)))))) rfl ?_
                  refine wn_ld (pc' := 22) (q := 0) (kin := 2) (v := .ref (0)) rfl (fun _ _ _ => rfl) rfl rfl ?_
                  refine wn_get (pc' := 25) (v := .int (nI (((tl + 1) + 1) + 1))) rfl rfl (gs_self (gs_ne (by decide) (gs_self (gs_ne (by decide) (gs_self (gs_ne (by decide) o0)))))) rfl ?_
                  refine wn_ld (pc' := 26) (q := 1) (kin := 0) (v := .int (x)) rfl (fun _ _ _ => rfl) rfl rfl ?_
                  refine wn_ld (pc' := 27) (q := 2) (kin := 0) (v := .int (nI (0))) rfl (fun _ _ _ => rfl) rfl rfl ?_
                  refine wn_pu (pc' := 28) (st' := [.int ((x) >>> ((nI (0)) &&& 31)), .int (nI (((tl + 1) + 1) + 1)), .ref (1)]) rfl (fun _ _ _ => rfl) rfl rfl ?_
                  refine wn_pu (pc' := 29) (st' := [.int ((((x) >>> ((nI (0)) &&& 31))).toInt8.toInt32), .int (nI (((tl + 1) + 1) + 1)), .ref (1)]) rfl (fun _ _ _ => rfl) rfl rfl ?_
                  refine wn_bastB (pc' := 30) (j := ((tl + 1) + 1) + 1) rfl rfl (gs_ne (by decide) (gs_self (gs_ne (by decide) (gs_self (gs_ne (by decide) (gs_self o1)))))) rfl (by omega) (by decide) ?_
                  refine wn_ld (pc' := 31) (q := 0) (kin := 2) (v := .ref (0)) rfl (fun _ _ _ => rfl) rfl rfl ?_
                  refine wn_pu (pc' := 32) (st' := [.ref (0), .ref (0)]) rfl (fun _ _ _ => rfl) rfl rfl ?_
                  refine wn_get (pc' := 35) (v := .int (nI (((tl + 1) + 1) + 1))) rfl rfl (gs_ne (by decide) (gs_self (gs_ne (by decide) (gs_self (gs_ne (by decide) (gs_self (gs_ne (by decide) o0))))))) rfl ?_
                  refine wn_ic (pc' := 36) (w := nI 1) rfl rfl (by decide) ?_
                  refine wn_addN (pc' := 37) rfl rfl ?_
                  refine wn_put (pc' := 40) rfl rfl (gs_ne (by decide) (gs_self (gs_ne (by decide) (gs_self (gs_ne (by decide) (gs_self (gs_ne (by decide) o0))))))) (Nat.le_of_ble_eq_true rfl) ⟨rfl, rfl⟩ ?_
                  show Wn _ _ 40 _ [] ((((((((h.set 1 (.inl (1, 1200, .inl (upd ct (tl) (vp_nar .byte ((((x) >>> ((nI (24)) &&& 31))).toInt8.toInt32)))))).set 0 (.inr (8, [.ref (1), .int (nI (tl + 1)), .ref (2), .ref (23), .ref (50), .ref (51), .ref (52), .ref (58), .ref (59), .ref (60), .ref (61), .ref (62)]))).set 1 (.inl (1, 1200, .inl (upd (upd ct (tl) (vp_nar .byte ((((x) >>> ((nI (24)) &&& 31))).toInt8.toInt32))) (tl + 1) (vp_nar .byte ((((x) >>> ((nI (16)) &&& 31))).toInt8.toInt32)))))).set 0 (.inr (8, [.ref (1), .int (nI ((tl + 1) + 1)), .ref (2), .ref (23), .ref (50), .ref (51), .ref (52), .ref (58), .ref (59), .ref (60), .ref (61), .ref (62)]))).set 1 (.inl (1, 1200, .inl (upd (upd (upd ct (tl) (vp_nar .byte ((((x) >>> ((nI (24)) &&& 31))).toInt8.toInt32))) (tl + 1) (vp_nar .byte ((((x) >>> ((nI (16)) &&& 31))).toInt8.toInt32))) ((tl + 1) + 1) (vp_nar .byte ((((x) >>> ((nI (8)) &&& 31))).toInt8.toInt32)))))).set 0 (.inr (8, [.ref (1), .int (nI (((tl + 1) + 1) + 1)), .ref (2), .ref (23), .ref (50), .ref (51), .ref (52), .ref (58), .ref (59), .ref (60), .ref (61), .ref (62)]))).set 1 (.inl (1, 1200, .inl (upd (upd (upd (upd ct (tl) (vp_nar .byte ((((x) >>> ((nI (24)) &&& 31))).toInt8.toInt32))) (tl + 1) (vp_nar .byte ((((x) >>> ((nI (16)) &&& 31))).toInt8.toInt32))) ((tl + 1) + 1) (vp_nar .byte ((((x) >>> ((nI (8)) &&& 31))).toInt8.toInt32))) (((tl + 1) + 1) + 1) (vp_nar .byte ((((x) >>> ((nI (0)) &&& 31))).toInt8.toInt32)))))).set 0 (.inr (8, [.ref (1), .int (nI ((((tl + 1) + 1) + 1) + 1)), .ref (2), .ref (23), .ref (50), .ref (51), .ref (52), .ref (58), .ref (59), .ref (60), .ref (61), .ref (62)]))) _
                  refine wn_incI (n := -8) (pc' := 43) (lv' := [(0, .ref (0)), (1, .int (x)), (2, .int (-8))]) rfl rfl rfl (Nat.le_of_ble_eq_true rfl) rfl ?_
                  refine wn_jp (pc' := 3) rfl rfl ?_
                  refine wn_ld (pc' := 4) (q := 2) (kin := 0) (v := .int (-8)) rfl (fun _ _ _ => rfl) rfl rfl ?_
                  refine wn_ifc (t := 46) (f := 7) rfl rfl rfl (fun c9 => ?_) (fun c9 => ?_)
                  · have c9 : ((-8) : Int32) < 0 := c9
                    refine wn_vret rfl rfl ⟨rfl, (Fr.st (Fr.st (Fr.st (Fr.st (Fr.st (Fr.st (Fr.st (Fr.st (Fr.rfl' [0, 1] h) (by decide)) (by decide)) (by decide)) (by decide)) (by decide)) (by decide)) (by decide)) (by decide)), (gs_self (gs_ne (by decide) (gs_self (gs_ne (by decide) (gs_self (gs_ne (by decide) (gs_self (gs_ne (by decide) o0)))))))), ?_⟩
                    rw [← pb_eq]
                    refine Eq.trans (gs_ne (by decide) (gs_self (gs_ne (by decide) (gs_self (gs_ne (by decide) (gs_self (gs_ne (by decide) (gs_self o1)))))))) ?_
                    first | rfl | (simp only [pk_vb]; rfl) | simp only [pk_vb]
                  · have c9 : 0 ≤ ((-8) : Int32) := c9
                    exact absurd c9 (by decide)

theorem x_feed (d : Nat) (h : aH)  (tp : Nat → Int32) (tl : Nat) (mn wd : Nat → Int32) (nu : Nat → Int64) (ct : Nat → Int32) (hS : WfS tp tl mn wd) (o0 : isO h 0 8 [.ref 1, .int (nI tl), .ref 2, .ref 23, .ref 50, .ref 51, .ref 52, .ref 58, .ref 59, .ref 60, .ref 61, .ref 62]) (o1 : isB h 1 1200 ct) (o2 : ∀ p, p < 1200 → ct p = tp p) (SL : SlV h mn wd nu) (a0 a1 a2 a3 a4 : Int32) : Sp (Rn (d + 2)) 65 [.ref (0), .int (a0), .int (a1), .int (a2), .int (a3), .int (a4)] h (fun r9 h9 => r9 = some (.int (feedA tl)) ∧ h9.length = h.length ∧ (∀ k, 2 ≤ k → k < 51 ∨ 52 ≤ k → k < 63 ∨ 71 ≤ k → h9[k]? = h[k]?) ∧ isO h9 0 8 [.ref 1, .int (nI (feedL tl)), .ref 2, .ref 23, .ref 50, .ref 51, .ref 52, .ref 58, .ref 59, .ref 60, .ref 61, .ref 62] ∧ (∃ ct', isB h9 1 1200 ct' ∧ ∀ p, p < 1200 → ct' p = feedT a0 a1 a2 a3 a4 tp tl p) ∧ SlV h9 (mn) (wd) (nu)) := by
  have hT := hS.1
  refine Sp_of (by decide) (Nat.le_of_ble_eq_true rfl) ?_
  show Wn _ _ 0 [(0, .ref (0)), (1, .int (a0)), (2, .int (a1)), (3, .int (a2)), (4, .int (a3)), (5, .int (a4))] [] _ _
  refine wn_ld (pc' := 1) (q := 0) (kin := 2) (v := .ref (0)) rfl (fun _ _ _ => rfl) rfl rfl ?_
  refine wn_get (pc' := 4) (v := .int (nI (tl))) rfl rfl o0 rfl ?_
  refine wn_bp (pc' := 6) (w := nI 20) rfl rfl (by decide) ?_
  refine wn_addN (pc' := 7) rfl rfl ?_
  refine wn_sp (pc' := 10) (w := nI 1200) rfl rfl (by decide) ?_
  refine wn_icmpN (t := 15) (f := 13) rfl rfl rfl (by omega) (by omega) (fun c1 => ?_) (fun c1 => ?_)
  · have c1 : (tl + 20) ≤ 1200 := c1
    refine wn_ld (pc' := 16) (q := 0) (kin := 2) (v := .ref (0)) rfl (fun _ _ _ => rfl) rfl rfl ?_
    refine wn_ld (pc' := 17) (q := 1) (kin := 0) (v := .int (a0)) rfl (fun _ _ _ => rfl) rfl rfl ?_
    refine wn_virS (pc' := 20) rfl rfl (by decide) rfl rfl o0 (Nat.le_of_ble_eq_true rfl) (x_putBytes _ _ tl ct a0 (by omega) o0 o1) (fun r9 h2 e3 => ?_)
    obtain ⟨rfl, f_h2, o_h2, i_h2⟩ := e3
    show Wn _ _ 20 _ [] h2 _
    refine wn_ld (pc' := 21) (q := 0) (kin := 2) (v := .ref (0)) rfl (fun _ _ _ => rfl) rfl rfl ?_
    refine wn_ld (pc' := 22) (q := 2) (kin := 0) (v := .int (a1)) rfl (fun _ _ _ => rfl) rfl rfl ?_
    refine wn_virS (pc' := 25) rfl rfl (by decide) rfl rfl o_h2 (Nat.le_of_ble_eq_true rfl) (x_putBytes _ _ (tl + 4) (pbT ct tl a0) a1 (by omega) o_h2 i_h2) (fun r9 h4 e5 => ?_)
    obtain ⟨rfl, f_h4, o_h4, i_h4⟩ := e5
    show Wn _ _ 25 _ [] h4 _
    refine wn_ld (pc' := 26) (q := 0) (kin := 2) (v := .ref (0)) rfl (fun _ _ _ => rfl) rfl rfl ?_
    refine wn_ld (pc' := 27) (q := 3) (kin := 0) (v := .int (a2)) rfl (fun _ _ _ => rfl) rfl rfl ?_
    refine wn_virS (pc' := 30) rfl rfl (by decide) rfl rfl o_h4 (Nat.le_of_ble_eq_true rfl) (x_putBytes _ _ (tl + 8) (pbT (pbT ct tl a0) (tl + 4) a1) a2 (by omega) o_h4 i_h4) (fun r9 h6 e7 => ?_)
    obtain ⟨rfl, f_h6, o_h6, i_h6⟩ := e7
    show Wn _ _ 30 _ [] h6 _
    refine wn_ld (pc' := 31) (q := 0) (kin := 2) (v := .ref (0)) rfl (fun _ _ _ => rfl) rfl rfl ?_
    refine wn_ld (pc' := 33) (q := 4) (kin := 0) (v := .int (a3)) rfl (fun _ _ _ => rfl) rfl rfl ?_
    refine wn_virS (pc' := 36) rfl rfl (by decide) rfl rfl o_h6 (Nat.le_of_ble_eq_true rfl) (x_putBytes _ _ (tl + 12) (pbT (pbT (pbT ct tl a0) (tl + 4) a1) (tl + 8) a2) a3 (by omega) o_h6 i_h6) (fun r9 h8 e9 => ?_)
    obtain ⟨rfl, f_h8, o_h8, i_h8⟩ := e9
    show Wn _ _ 36 _ [] h8 _
    refine wn_ld (pc' := 37) (q := 0) (kin := 2) (v := .ref (0)) rfl (fun _ _ _ => rfl) rfl rfl ?_
    refine wn_ld (pc' := 39) (q := 5) (kin := 0) (v := .int (a4)) rfl (fun _ _ _ => rfl) rfl rfl ?_
    refine wn_virS (pc' := 42) rfl rfl (by decide) rfl rfl o_h8 (Nat.le_of_ble_eq_true rfl) (x_putBytes _ _ (tl + 16) (pbT (pbT (pbT (pbT ct tl a0) (tl + 4) a1) (tl + 8) a2) (tl + 12) a3) a4 (by omega) o_h8 i_h8) (fun r9 h10 e11 => ?_)
    obtain ⟨rfl, f_h10, o_h10, i_h10⟩ := e11
    show Wn _ _ 42 _ [] h10 _
    refine wn_ld (pc' := 43) (q := 0) (kin := 2) (v := .ref (0)) rfl (fun _ _ _ => rfl) rfl rfl ?_
    refine wn_get (pc' := 46) (v := .int (nI (tl + 20))) rfl rfl o_h10 rfl ?_
    refine wn_iret rfl rfl rfl ⟨congrArg (fun z => some (Value.int z)) ?_, (Fr.tr (Fr.tr (Fr.tr (Fr.tr (Fr.tr (Fr.rfl' [0, 1] h) f_h2 (fun _ q => q)) f_h4 (fun _ q => q)) f_h6 (fun _ q => q)) f_h8 (fun _ q => q)) f_h10 (fun _ q => q)).1, fun k p1 p2 p3 => (Fr.tr (Fr.tr (Fr.tr (Fr.tr (Fr.tr (Fr.rfl' [0, 1] h) f_h2 (fun _ q => q)) f_h4 (fun _ q => q)) f_h6 (fun _ q => q)) f_h8 (fun _ q => q)) f_h10 (fun _ q => q)).2 k (by simp only [List.mem_cons, List.not_mem_nil, or_false]; omega), ?_, ⟨_, i_h10, fun p hp => ?_⟩, SL.kp (fun k p => (Fr.tr (Fr.tr (Fr.tr (Fr.tr (Fr.tr (Fr.rfl' [0, 1] h) f_h2 (fun _ q => q)) f_h4 (fun _ q => q)) f_h6 (fun _ q => q)) f_h8 (fun _ q => q)) f_h10 (fun _ q => q)).2 k (by simp only [List.mem_cons, List.not_mem_nil, or_false]; omega))⟩
    · exact (if_pos (by omega)).symm
    · rw [show feedL tl = tl + 20 from if_pos (by omega)]; exact o_h10
    · rw [show feedT a0 a1 a2 a3 a4 tp tl = fdK tp tl (sel5 a0 a1 a2 a3 a4) 20 from if_pos (by omega), ← fd_pb]
      unfold pbT
      rw [o2 p hp]
  · have c1 : 1200 < (tl + 20) := c1
    refine wn_ic (pc' := 14) (w := -1) rfl rfl (by decide) ?_
    refine wn_iret rfl rfl rfl ⟨congrArg (fun z => some (Value.int z)) ?_, rfl, fun _ _ _ _ => rfl, ?_, ⟨_, o1, fun p hp => ?_⟩, SL⟩
    · exact (if_neg (by omega)).symm
    · rw [show feedL tl = tl from if_neg (by omega)]; exact o0
    · rw [show feedT a0 a1 a2 a3 a4 tp tl = tp from if_neg (by omega)]; exact o2 p hp

theorem m_feed (d : Nat) (h : aH)  (tp : Nat → Int32) (tl : Nat) (mn wd : Nat → Int32) (nu : Nat → Int64) (hS : WfS tp tl mn wd) (MT : MtV h tp tl mn wd nu) (a0 a1 a2 a3 a4 : Int32) : Sp (Rn (d + 1)) 155 [.ref (71), .int (a0), .int (a1), .int (a2), .int (a3), .int (a4)] h (fun r9 h9 => r9 = some (.int (feedA tl)) ∧ h9.length = h.length ∧ (∀ k, k ≠ 71 → k ≠ 75 → k ≠ 76 → k < 81 ∨ 85 ≤ k → h9[k]? = h[k]?) ∧ (∀ th sz at9 fr tk vl fk fp il up lo, isO h 71 9 (MoF th (nI tl) sz at9 fr tk vl fk fp il up lo) → isO h9 71 9 (MoF th (nI (feedL tl)) sz at9 fr tk vl fk fp il up lo)) ∧ isB h9 75 1200 (feedT a0 a1 a2 a3 a4 tp tl) ∧ (∃ fv', isI h9 76 5 fv') ∧ isI h9 81 4 (mn) ∧ isI h9 82 4 (wd) ∧ isJ h9 83 240 (nu) ∧ ∃ mv', isJ h9 84 60 mv') := by
  obtain ⟨th, sz, at9, fr, tk, vl, fk, fp, il, up, lo, fv, mv, q0, q1, q2, q3, q4, q5, q6⟩ := id MT
  have hT := hS.1
  refine Sp_of (by decide) (Nat.le_of_ble_eq_true rfl) ?_
  show Wn _ _ 0 [(0, .ref (71)), (1, .int (a0)), (2, .int (a1)), (3, .int (a2)), (4, .int (a3)), (5, .int (a4))] [] _ _
  refine wn_ld (pc' := 1) (q := 0) (kin := 2) (v := .ref (71)) rfl (fun _ _ _ => rfl) rfl rfl ?_
  refine wn_get (pc' := 4) (v := .int (nI (tl))) rfl rfl q0 rfl ?_
  refine wn_bp (pc' := 6) (w := nI 20) rfl rfl (by decide) ?_
  refine wn_addN (pc' := 7) rfl rfl ?_
  refine wn_sp (pc' := 10) (w := nI 1200) rfl rfl (by decide) ?_
  refine wn_icmpN (t := 15) (f := 13) rfl rfl rfl (by omega) (by omega) (fun c1 => ?_) (fun c1 => ?_)
  · have c1 : (tl + 20) ≤ 1200 := c1
    refine wn_ld (pc' := 16) (q := 0) (kin := 2) (v := .ref (71)) rfl (fun _ _ _ => rfl) rfl rfl ?_
    refine wn_get (pc' := 19) (v := .ref (76)) rfl rfl q0 rfl ?_
    refine wn_ic (pc' := 20) (w := nI 0) rfl rfl (by decide) ?_
    refine wn_ld (pc' := 21) (q := 1) (kin := 0) (v := .int (a0)) rfl (fun _ _ _ => rfl) rfl rfl ?_
    refine wn_iast (pc' := 22) (j := 0) rfl rfl q2 rfl (by omega) (by decide) ?_
    refine wn_ld (pc' := 23) (q := 0) (kin := 2) (v := .ref (71)) rfl (fun _ _ _ => rfl) rfl rfl ?_
    refine wn_get (pc' := 26) (v := .ref (76)) rfl rfl (gs_ne (by decide) q0) rfl ?_
    refine wn_ic (pc' := 27) (w := nI 1) rfl rfl (by decide) ?_
    refine wn_ld (pc' := 28) (q := 2) (kin := 0) (v := .int (a1)) rfl (fun _ _ _ => rfl) rfl rfl ?_
    refine wn_iast (pc' := 29) (j := 1) rfl rfl (gs_self q2) rfl (by omega) (by decide) ?_
    refine wn_ld (pc' := 30) (q := 0) (kin := 2) (v := .ref (71)) rfl (fun _ _ _ => rfl) rfl rfl ?_
    refine wn_get (pc' := 33) (v := .ref (76)) rfl rfl (gs_ne (by decide) (gs_ne (by decide) q0)) rfl ?_
    refine wn_ic (pc' := 34) (w := nI 2) rfl rfl (by decide) ?_
    refine wn_ld (pc' := 35) (q := 3) (kin := 0) (v := .int (a2)) rfl (fun _ _ _ => rfl) rfl rfl ?_
    refine wn_iast (pc' := 36) (j := 2) rfl rfl (gs_self (gs_self q2)) rfl (by omega) (by decide) ?_
    refine wn_ld (pc' := 37) (q := 0) (kin := 2) (v := .ref (71)) rfl (fun _ _ _ => rfl) rfl rfl ?_
    refine wn_get (pc' := 40) (v := .ref (76)) rfl rfl (gs_ne (by decide) (gs_ne (by decide) (gs_ne (by decide) q0))) rfl ?_
    refine wn_ic (pc' := 41) (w := nI 3) rfl rfl (by decide) ?_
    refine wn_ld (pc' := 43) (q := 4) (kin := 0) (v := .int (a3)) rfl (fun _ _ _ => rfl) rfl rfl ?_
    refine wn_iast (pc' := 44) (j := 3) rfl rfl (gs_self (gs_self (gs_self q2))) rfl (by omega) (by decide) ?_
    refine wn_ld (pc' := 45) (q := 0) (kin := 2) (v := .ref (71)) rfl (fun _ _ _ => rfl) rfl rfl ?_
    refine wn_get (pc' := 48) (v := .ref (76)) rfl rfl (gs_ne (by decide) (gs_ne (by decide) (gs_ne (by decide) (gs_ne (by decide) q0)))) rfl ?_
    refine wn_ic (pc' := 49) (w := nI 4) rfl rfl (by decide) ?_
    refine wn_ld (pc' := 51) (q := 5) (kin := 0) (v := .int (a4)) rfl (fun _ _ _ => rfl) rfl rfl ?_
    refine wn_iast (pc' := 52) (j := 4) rfl rfl (gs_self (gs_self (gs_self (gs_self q2)))) rfl (by omega) (by decide) ?_
    refine wn_ic (pc' := 53) (w := nI 0) rfl rfl (by decide) ?_
    refine wn_st (pc' := 55) (q := 6) (kin := 0) (lv' := [(0, .ref (71)), (1, .int (a0)), (2, .int (a1)), (3, .int (a2)), (4, .int (a3)), (5, .int (a4)), (6, .int (nI (0)))]) rfl (fun _ _ _ => rfl) rfl (Nat.le_of_ble_eq_true rfl) rfl ?_
    have h5 : ∀ j, j < 5 → (upd (upd (upd (upd (upd fv (0) ((a0))) (1) ((a1))) (2) ((a2))) (3) ((a3))) (4) ((a4))) j = sel5 a0 a1 a2 a3 a4 j := fun j hj => by rcases (show j = 0 ∨ j = 1 ∨ j = 2 ∨ j = 3 ∨ j = 4 by omega) with rfl | rfl | rfl | rfl | rfl <;> rfl
    have lp3 : ∀ (n_lp3 : Nat) (g2 : aH) (t1 : Nat → Int32) (k : Nat), 20 + 1 ≤ k + n_lp3 → Fr [71, 75, 76, 81, 82, 83, 84] h g2 → isO g2 71 9 [.int (th), .ref (72), .ref (73), .ref (74), .ref (75), .int (nI (tl)), .ref (76), .int (sz), .int (at9), .int (fr), .int (tk), .int (vl), .int (fk), .int (fp), .ref (77), .int (il), .ref (78), .ref (79), .ref (80), .long (up), .long (lo), .ref (81), .ref (82), .ref (83), .ref (84)] → isB g2 75 1200 t1 → isI g2 76 5 (upd (upd (upd (upd (upd fv (0) ((a0))) (1) ((a1))) (2) ((a2))) (3) ((a3))) (4) ((a4))) → isI g2 81 4 mn → isI g2 82 4 wd → isJ g2 83 240 nu → isJ g2 84 60 mv → k ≤ 20 → t1 = fdK tp tl (sel5 a0 a1 a2 a3 a4) k → Wn (Rn (d + 0)) 155 55 [(0, .ref (71)), (1, .int (a0)), (2, .int (a1)), (3, .int (a2)), (4, .int (a3)), (5, .int (a4)), (6, .int (nI (k)))] [] (g2) (fun r9 h9 => r9 = some (.int (feedA tl)) ∧ h9.length = h.length ∧ (∀ k, k ≠ 71 → k ≠ 75 → k ≠ 76 → k < 81 ∨ 85 ≤ k → h9[k]? = h[k]?) ∧ (∀ th sz at9 fr tk vl fk fp il up lo, isO h 71 9 (MoF th (nI tl) sz at9 fr tk vl fk fp il up lo) → isO h9 71 9 (MoF th (nI (feedL tl)) sz at9 fr tk vl fk fp il up lo)) ∧ isB h9 75 1200 (feedT a0 a1 a2 a3 a4 tp tl) ∧ (∃ fv', isI h9 76 5 fv') ∧ isI h9 81 4 (mn) ∧ isI h9 82 4 (wd) ∧ isJ h9 83 240 (nu) ∧ ∃ mv', isJ h9 84 60 mv') := by
      intro n_lp3
      induction n_lp3 with
      | zero => intro g2 t1 k hm_lp3 hf_g2 c_71_g2 c_75_g2 c_76_g2 c_81_g2 c_82_g2 c_83_g2 c_84_g2 hk hT1; exfalso; omega
      | succ n_lp3 ih_lp3 =>
        intro g2 t1 k hm_lp3 hf_g2 c_71_g2 c_75_g2 c_76_g2 c_81_g2 c_82_g2 c_83_g2 c_84_g2 hk hT1
        refine wn_ld (pc' := 57) (q := 6) (kin := 0) (v := .int (nI (k))) rfl (fun _ _ _ => rfl) rfl rfl ?_
        refine wn_bp (pc' := 59) (w := nI 20) rfl rfl (by decide) ?_
        refine wn_icmpN (t := 101) (f := 62) rfl rfl rfl (by omega) (by omega) (fun c4 => ?_) (fun c4 => ?_)
        · have c4 : 20 ≤ k := c4
          obtain rfl : k = 20 := by omega
          refine wn_ld (pc' := 102) (q := 0) (kin := 2) (v := .ref (71)) rfl (fun _ _ _ => rfl) rfl rfl ?_
          refine wn_pu (pc' := 103) (st' := [.ref (71), .ref (71)]) rfl (fun _ _ _ => rfl) rfl rfl ?_
          refine wn_get (pc' := 106) (v := .int (nI (tl))) rfl rfl c_71_g2 rfl ?_
          refine wn_bp (pc' := 108) (w := nI 20) rfl rfl (by decide) ?_
          refine wn_addN (pc' := 109) rfl rfl ?_
          refine wn_put (pc' := 112) rfl rfl c_71_g2 (Nat.le_of_ble_eq_true rfl) ⟨rfl, rfl⟩ ?_
          show Wn _ _ 112 _ [] (g2.set 71 (.inr (9, [.int (th), .ref (72), .ref (73), .ref (74), .ref (75), .int (nI (tl + 20)), .ref (76), .int (sz), .int (at9), .int (fr), .int (tk), .int (vl), .int (fk), .int (fp), .ref (77), .int (il), .ref (78), .ref (79), .ref (80), .long (up), .long (lo), .ref (81), .ref (82), .ref (83), .ref (84)]))) _
          refine wn_ld (pc' := 113) (q := 0) (kin := 2) (v := .ref (71)) rfl (fun _ _ _ => rfl) rfl rfl ?_
          refine wn_get (pc' := 116) (v := .int (nI (tl + 20))) rfl rfl (gs_self c_71_g2) rfl ?_
          refine wn_iret rfl rfl rfl ⟨congrArg (fun z => some (Value.int z)) ?_, (Fr.st hf_g2 (by decide)).1, fun k p1 p2 p3 p4 => (Fr.st hf_g2 (by decide)).2 k (by simp only [List.mem_cons, List.not_mem_nil, or_false]; omega), ?_, ?_, ⟨_, (gs_ne (by decide) c_76_g2)⟩, (gs_ne (by decide) c_81_g2), (gs_ne (by decide) c_82_g2), (gs_ne (by decide) c_83_g2), _, (gs_ne (by decide) c_84_g2)⟩
          · exact (if_pos (by omega)).symm
          · rw [show feedL tl = tl + 20 from if_pos (by omega)]
            intro th2 sz2 at2 fr2 tk2 vl2 fk2 fp2 il2 up2 lo2 q
            have e := isO_inj q q0
            unfold MoF at e
            simp only [List.cons.injEq, Value.int.injEq, Value.long.injEq, and_true, true_and] at e
            obtain ⟨rfl, rfl, rfl, rfl, rfl, rfl, rfl, rfl, rfl, rfl, rfl⟩ := e
            exact (gs_self c_71_g2)
          · rw [show feedT a0 a1 a2 a3 a4 tp tl = fdK tp tl (sel5 a0 a1 a2 a3 a4) 20 from if_pos (by omega), ← hT1]; exact (gs_ne (by decide) c_75_g2)
        · have c4 : k < 20 := c4
          refine wn_ld (pc' := 63) (q := 0) (kin := 2) (v := .ref (71)) rfl (fun _ _ _ => rfl) rfl rfl ?_
          refine wn_get (pc' := 66) (v := .ref (75)) rfl rfl c_71_g2 rfl ?_
          refine wn_ld (pc' := 67) (q := 0) (kin := 2) (v := .ref (71)) rfl (fun _ _ _ => rfl) rfl rfl ?_
          refine wn_get (pc' := 70) (v := .int (nI (tl))) rfl rfl c_71_g2 rfl ?_
          refine wn_ld (pc' := 72) (q := 6) (kin := 0) (v := .int (nI (k))) rfl (fun _ _ _ => rfl) rfl rfl ?_
          refine wn_addN (pc' := 73) rfl rfl ?_
          refine wn_ld (pc' := 74) (q := 0) (kin := 2) (v := .ref (71)) rfl (fun _ _ _ => rfl) rfl rfl ?_
          refine wn_get (pc' := 77) (v := .ref (76)) rfl rfl c_71_g2 rfl ?_
          refine wn_ld (pc' := 79) (q := 6) (kin := 0) (v := .int (nI (k))) rfl (fun _ _ _ => rfl) rfl rfl ?_
          refine wn_ic (pc' := 80) (w := nI 4) rfl rfl (by decide) ?_
          refine wn_idivN (pc' := 81) rfl rfl (by omega) (by omega) (by omega) ?_
          refine wn_ialdv (pc' := 82) (j := k / 4) (v := (sel5 a0 a1 a2 a3 a4 (k / 4))) rfl rfl c_76_g2 rfl (by omega) (by decide) (h5 (k / 4) (by omega)) ?_
          refine wn_bp (pc' := 84) (w := nI 24) rfl rfl (by decide) ?_
          refine wn_bp (pc' := 86) (w := nI 8) rfl rfl (by decide) ?_
          refine wn_ld (pc' := 88) (q := 6) (kin := 0) (v := .int (nI (k))) rfl (fun _ _ _ => rfl) rfl rfl ?_
          refine wn_ic (pc' := 89) (w := nI 4) rfl rfl (by decide) ?_
          refine wn_iremN (pc' := 90) rfl rfl (by omega) (by omega) (by omega) ?_
          refine wn_mulN (pc' := 91) rfl rfl ?_
          refine wn_subN (pc' := 92) rfl rfl (by omega) ?_
          refine wn_pu (pc' := 93) (st' := [.int ((sel5 a0 a1 a2 a3 a4 (k / 4)) >>> ((nI (24 - (8 * (k % 4)))) &&& 31)), .int (nI (tl + k)), .ref (75)]) rfl (fun _ _ _ => rfl) rfl rfl ?_
          refine wn_pu (pc' := 94) (st' := [.int ((((sel5 a0 a1 a2 a3 a4 (k / 4)) >>> ((nI (24 - (8 * (k % 4)))) &&& 31))).toInt8.toInt32), .int (nI (tl + k)), .ref (75)]) rfl (fun _ _ _ => rfl) rfl rfl ?_
          refine wn_bastB (pc' := 95) (j := tl + k) rfl rfl c_75_g2 rfl (by omega) (by decide) ?_
          refine wn_incN (n := 1) (pc' := 98) (lv' := [(0, .ref (71)), (1, .int (a0)), (2, .int (a1)), (3, .int (a2)), (4, .int (a3)), (5, .int (a4)), (6, .int (nI (k + 1)))]) rfl rfl rfl (Nat.le_of_ble_eq_true rfl) rfl (by decide) ?_
          refine wn_jp (pc' := 55) rfl rfl ?_
          refine wn_weak (lv' := [(0, .ref (71)), (1, .int (a0)), (2, .int (a1)), (3, .int (a2)), (4, .int (a3)), (5, .int (a4)), (6, .int (nI (k + 1)))]) (by simp) ?_
          have z9 := ih_lp3 (g2.set 75 (.inl (1, 1200, .inl (upd t1 (tl + k) (vp_nar .byte ((((sel5 a0 a1 a2 a3 a4 (k / 4)) >>> ((nI (24 - (8 * (k % 4)))) &&& 31))).toInt8.toInt32)))))) (upd t1 (tl + k) (vp_nar .byte ((((sel5 a0 a1 a2 a3 a4 (k / 4)) >>> ((nI (24 - (8 * (k % 4)))) &&& 31))).toInt8.toInt32))) (k + 1) (by omega) (Fr.st hf_g2 (by decide)) (gs_ne (by decide) c_71_g2) (gs_self c_75_g2) (gs_ne (by decide) c_76_g2) (gs_ne (by decide) c_81_g2) (gs_ne (by decide) c_82_g2) (gs_ne (by decide) c_83_g2) (gs_ne (by decide) c_84_g2) (by omega) (by rw [hT1, pk_vb]; exact fdK_s rfl)
          exact z9
    refine wn_weak (lv' := [(0, .ref (71)), (1, .int (a0)), (2, .int (a1)), (3, .int (a2)), (4, .int (a3)), (5, .int (a4)), (6, .int (nI (0)))]) (by simp) ?_
    have z9 := lp3 (20 + 1) (((((h.set 76 (.inl (0, 5, .inl (upd fv (0) ((a0)))))).set 76 (.inl (0, 5, .inl (upd (upd fv (0) ((a0))) (1) ((a1)))))).set 76 (.inl (0, 5, .inl (upd (upd (upd fv (0) ((a0))) (1) ((a1))) (2) ((a2)))))).set 76 (.inl (0, 5, .inl (upd (upd (upd (upd fv (0) ((a0))) (1) ((a1))) (2) ((a2))) (3) ((a3)))))).set 76 (.inl (0, 5, .inl (upd (upd (upd (upd (upd fv (0) ((a0))) (1) ((a1))) (2) ((a2))) (3) ((a3))) (4) ((a4)))))) tp 0 (by omega) (Fr.st (Fr.st (Fr.st (Fr.st (Fr.st (Fr.rfl' [71, 75, 76, 81, 82, 83, 84] h) (by decide)) (by decide)) (by decide)) (by decide)) (by decide)) (gs_ne (by decide) (gs_ne (by decide) (gs_ne (by decide) (gs_ne (by decide) (gs_ne (by decide) q0))))) (gs_ne (by decide) (gs_ne (by decide) (gs_ne (by decide) (gs_ne (by decide) (gs_ne (by decide) q1))))) (gs_self (gs_self (gs_self (gs_self (gs_self q2))))) (gs_ne (by decide) (gs_ne (by decide) (gs_ne (by decide) (gs_ne (by decide) (gs_ne (by decide) q3))))) (gs_ne (by decide) (gs_ne (by decide) (gs_ne (by decide) (gs_ne (by decide) (gs_ne (by decide) q4))))) (gs_ne (by decide) (gs_ne (by decide) (gs_ne (by decide) (gs_ne (by decide) (gs_ne (by decide) q5))))) (gs_ne (by decide) (gs_ne (by decide) (gs_ne (by decide) (gs_ne (by decide) (gs_ne (by decide) q6))))) (by omega) (funext (fun p => (if_neg (by omega)).symm))
    exact z9
  · have c1 : 1200 < (tl + 20) := c1
    refine wn_ic (pc' := 14) (w := -1) rfl rfl (by decide) ?_
    refine wn_iret rfl rfl rfl ⟨congrArg (fun z => some (Value.int z)) ?_, rfl, fun _ _ _ _ _ => rfl, ?_, ?_, ⟨_, q2⟩, q3, q4, q5, _, q6⟩
    · exact (if_neg (by omega)).symm
    · rw [show feedL tl = tl from if_neg (by omega)]; exact fun _ _ _ _ _ _ _ _ _ _ _ q => q
    · rw [show feedT a0 a1 a2 a3 a4 tp tl = tp from if_neg (by omega)]; exact q1

theorem kase_0 (a b c d e : Int32) : CaseI Rq 65 155 [.int a, .int b, .int c, .int d, .int e] := kase_s (fun _ tl _ _ _ => feedA tl) (feedT a b c d e) feedL (fun mn _ => mn) (fun _ wd => wd) (fun _ _ nu => nu) (fun tp tl mn wd H => feed_w a b c d e H) (fun h tp tl mn wd nu ct hS o0 o1 o2 SL => x_feed 698 h tp tl mn wd nu ct hS o0 o1 o2 SL a b c d e) (fun h tp tl mn wd nu hS MT => m_feed 699 h tp tl mn wd nu hS MT a b c d e)
noncomputable def rowsN (mn : Nat → Int32) : Nat := cntP (fun k => ¬ mn k = -1) 4
noncomputable def countA (w : Nat → Int32) (tl : Nat) (mn : Nat → Int32) (x : Int32) : Int32 := if x = nI 0 then w 0 else if x = nI 1 then w 1 else if x = nI 2 then w 2 else if x = nI 3 then w 3 else if x = nI 4 then w 4 else if x = nI 5 then nI tl else if x = nI 6 then nI (hdN w (ntW w)) else if x = nI 7 then nI (ntS w 1200) else if x = nI 8 then nI (rowsN mn) else -1
theorem x_countRows (d : Nat) (h : aH) (tl : Nat) (mn wd : Nat → Int32) (nu : Nat → Int64) (o0 : isO h 0 8 [.ref 1, .int (nI tl), .ref 2, .ref 23, .ref 50, .ref 51, .ref 52, .ref 58, .ref 59, .ref 60, .ref 61, .ref 62]) (SL : SlV h mn wd nu) : Rn (d + 1) 127 [.ref (0)] h (some (.int (nI (rowsN mn)))) h 0 0 := by
  obtain ⟨sg, sl1, sl2⟩ := id SL
  refine Rn_of (by decide) (Nat.le_of_ble_eq_true rfl) ?_
  show Wn _ _ 0 [(0, .ref (0))] [] _ _
  refine wn_ic (pc' := 1) (w := nI 0) rfl rfl (by decide) ?_
  refine wn_st (pc' := 2) (q := 1) (kin := 0) (lv' := [(0, .ref (0)), (1, .int (nI (0)))]) rfl (fun _ _ _ => rfl) rfl (Nat.le_of_ble_eq_true rfl) rfl ?_
  refine wn_ic (pc' := 3) (w := nI 0) rfl rfl (by decide) ?_
  refine wn_st (pc' := 4) (q := 2) (kin := 0) (lv' := [(0, .ref (0)), (1, .int (nI (0))), (2, .int (nI (0)))]) rfl (fun _ _ _ => rfl) rfl (Nat.le_of_ble_eq_true rfl) rfl ?_
  have lp1 : ∀ (n_lp1 : Nat) (k : Nat), 4 + 1 ≤ k + n_lp1 → k ≤ 4 → Wn (Rn (d + 0)) 127 4 [(0, .ref (0)), (1, .int (nI (cntP (fun x7 => ¬ (mn x7 = -1)) k))), (2, .int (nI (k)))] [] (h) (fun r9 h9 => r9 = (some (.int (nI (rowsN mn)))) ∧ h9 = h) := by
    intro n_lp1
    induction n_lp1 with
    | zero => intro k hm_lp1 hk_k; exfalso; omega
    | succ n_lp1 ih_lp1 =>
      intro k hm_lp1 hk_k
      have := cntP_le (fun x7 => ¬ (mn x7 = -1)) k
      refine wn_ld (pc' := 5) (q := 2) (kin := 0) (v := .int (nI (k))) rfl (fun _ _ _ => rfl) rfl rfl ?_
      refine wn_ic (pc' := 6) (w := nI 4) rfl rfl (by decide) ?_
      refine wn_icmpN (t := 31) (f := 9) rfl rfl rfl (by omega) (by omega) (fun c2 => ?_) (fun c2 => ?_)
      · have c2 : 4 ≤ k := c2
        obtain rfl : k = 4 := by omega
        refine wn_ld (pc' := 32) (q := 1) (kin := 0) (v := .int (nI (cntP (fun x7 => ¬ (mn x7 = -1)) 4))) rfl (fun _ _ _ => rfl) rfl rfl ?_
        refine wn_iret rfl rfl rfl ⟨?_, rfl⟩
        exact congrArg (fun z => some (Value.int z)) (rfl)
      · have c2 : k < 4 := c2
        refine wn_ld (pc' := 10) (q := 0) (kin := 2) (v := .ref (0)) rfl (fun _ _ _ => rfl) rfl rfl ?_
        refine wn_get (pc' := 13) (v := .ref (51)) rfl rfl o0 rfl ?_
        refine wn_ld (pc' := 14) (q := 2) (kin := 0) (v := .int (nI (k))) rfl (fun _ _ _ => rfl) rfl rfl ?_
        refine wn_aaldv (pc' := 15) (j := k) (v := .ref (63 + 2 * k)) rfl rfl (Or.inr rfl) sl1 rfl (by omega) (by decide) ((congrArg va_rf (sl2 k (by omega)).1)) ?_
        refine wn_get (pc' := 18) (v := .int (mn k)) rfl rfl (sl2 k (by omega)).2.1 rfl ?_
        refine wn_ic (pc' := 19) (w := -1) rfl rfl (by decide) ?_
        refine wn_icmp (t := 25) (f := 22) rfl rfl rfl (fun c3 => ?_) (fun c3 => ?_)
        · have c3 : ((mn k)) = ((-1)) := c3
          refine wn_incN (n := 1) (pc' := 28) (lv' := [(0, .ref (0)), (1, .int (nI (cntP (fun x7 => ¬ (mn x7 = -1)) k))), (2, .int (nI (k + 1)))]) rfl rfl rfl (Nat.le_of_ble_eq_true rfl) rfl (by decide) ?_
          refine wn_jp (pc' := 4) rfl rfl ?_
          refine wn_weak (lv' := [(0, .ref (0)), (1, .int (nI (cntP (fun x7 => ¬ (mn x7 = -1)) k))), (2, .int (nI (k + 1)))]) (by simp) ?_
          have z9 := ih_lp1 (k + 1) (by omega) (by omega)
          rw [show (nI (cntP (fun x7 => ¬ (mn x7 = -1)) (k + 1))) = (nI (cntP (fun x7 => ¬ (mn x7 = -1)) k)) from (by exact congrArg nI (cntP_f (p := fun x7 => ¬ (mn x7 = -1)) (fun q9 => q9 c3)))] at z9
          exact z9
        · have c3 : ¬ ((mn k)) = ((-1)) := c3
          refine wn_incN (n := 1) (pc' := 25) (lv' := [(0, .ref (0)), (1, .int (nI (cntP (fun x7 => ¬ (mn x7 = -1)) k + 1))), (2, .int (nI (k)))]) rfl rfl rfl (Nat.le_of_ble_eq_true rfl) rfl (by decide) ?_
          refine wn_incN (n := 1) (pc' := 28) (lv' := [(0, .ref (0)), (1, .int (nI (cntP (fun x7 => ¬ (mn x7 = -1)) k + 1))), (2, .int (nI (k + 1)))]) rfl rfl rfl (Nat.le_of_ble_eq_true rfl) rfl (by decide) ?_
          refine wn_jp (pc' := 4) rfl rfl ?_
          refine wn_weak (lv' := [(0, .ref (0)), (1, .int (nI (cntP (fun x7 => ¬ (mn x7 = -1)) k + 1))), (2, .int (nI (k + 1)))]) (by simp) ?_
          have z9 := ih_lp1 (k + 1) (by omega) (by omega)
          rw [show (nI (cntP (fun x7 => ¬ (mn x7 = -1)) (k + 1))) = (nI (cntP (fun x7 => ¬ (mn x7 = -1)) k + 1)) from (by exact congrArg nI (cntP_t (p := fun x7 => ¬ (mn x7 = -1)) c3))] at z9
          exact z9
  refine wn_weak (lv' := [(0, .ref (0)), (1, .int (nI (0))), (2, .int (nI (0)))]) (by simp) ?_
  have z9 := lp1 (4 + 1) 0 (by omega) (by omega)
  rw [show (nI (cntP (fun x7 => ¬ (mn x7 = -1)) 0)) = (nI (0)) from (by rfl)] at z9
  exact z9

theorem x_count (d : Nat) (h : aH) (ls : Nat) (w : Nat → Int32) (hWf : WfW w) (V : XV h ls w) (tn : Nat) (mn wd : Nat → Int32) (nu : Nat → Int64) (o0 : isO h 0 8 [.ref 1, .int (nI tn), .ref 2, .ref 23, .ref 50, .ref 51, .ref 52, .ref 58, .ref 59, .ref 60, .ref 61, .ref 62]) (SL : SlV h mn wd nu) (x : Int32) : Rn (d + 2) 126 [.ref (0), .int (x)] h (some (.int (countA w tn mn x))) h 0 0 := by
  obtain ⟨⟨e1, e2⟩, ⟨e3, e4⟩, ⟨e5, e6⟩⟩ := Wf_n hWf
  obtain ⟨⟨e7, e8⟩, ⟨e9, e10⟩⟩ := Wf_m hWf
  obtain ⟨v0, ⟨x9, v1⟩, ⟨v2, ⟨sz, rf, rt, rv, ag, vr, sd, tl, l0, l1, l2, l3, l4, l5, l6, l7, l8, g1, g2, g3, g4, g5⟩, ⟨sec, it, fi, se, sg, lst, rs, rp, pj, pk, pv, k0, k1, k2, k3, k4, k5, k6, k7, k8, k9, k10, k11, k12, k13⟩, ⟨hv, hc, y0, y1, y2, y3, y4⟩, ⟨an, wk, n0, n1, n2, n3, n4⟩⟩, v3⟩ := id V
  rw [e1, e3, e5] at l0
  rw [e7, e9] at k1
  refine Rn_of (by decide) (Nat.le_of_ble_eq_true rfl) ?_
  show Wn _ _ 0 [(0, .ref (0)), (1, .int (x))] [] _ _
  refine wn_ld (pc' := 1) (q := 1) (kin := 0) (v := .int (x)) rfl (fun _ _ _ => rfl) rfl rfl ?_
  by_cases c1 : (x) = nI 0
  · rw [c1]
    refine wn_sw (off := 51) (pc' := 52) rfl rfl (by decide) rfl ?_
    refine wn_ld (pc' := 53) (q := 0) (kin := 2) (v := .ref (0)) rfl (fun _ _ _ => rfl) rfl rfl ?_
    refine wn_get (pc' := 56) (v := .ref (23)) rfl rfl o0 rfl ?_
    refine wn_get (pc' := 59) (v := .ref (ls)) rfl rfl v2 rfl ?_
    refine wn_get (pc' := 62) (v := .int (w 0)) rfl rfl l0 rfl ?_
    refine wn_iret rfl rfl rfl ⟨congrArg (fun z => some (Value.int z)) ?_, rfl⟩
    unfold countA
    rw [if_pos rfl]
  by_cases c2 : (x) = nI 1
  · rw [c2]
    refine wn_sw (off := 62) (pc' := 63) rfl rfl (by decide) rfl ?_
    refine wn_ld (pc' := 64) (q := 0) (kin := 2) (v := .ref (0)) rfl (fun _ _ _ => rfl) rfl rfl ?_
    refine wn_get (pc' := 67) (v := .ref (23)) rfl rfl o0 rfl ?_
    refine wn_get (pc' := 70) (v := .ref (ls)) rfl rfl v2 rfl ?_
    refine wn_get (pc' := 73) (v := .int (nI (nvW w))) rfl rfl l0 rfl ?_
    refine wn_iret rfl rfl rfl ⟨congrArg (fun z => some (Value.int z)) ?_, rfl⟩
    unfold countA
    rw [if_neg (by decide), if_pos rfl]
    first | done | exact e1.symm | rfl
  by_cases c3 : (x) = nI 2
  · rw [c3]
    refine wn_sw (off := 73) (pc' := 74) rfl rfl (by decide) rfl ?_
    refine wn_ld (pc' := 75) (q := 0) (kin := 2) (v := .ref (0)) rfl (fun _ _ _ => rfl) rfl rfl ?_
    refine wn_get (pc' := 78) (v := .ref (23)) rfl rfl o0 rfl ?_
    refine wn_get (pc' := 81) (v := .ref (ls)) rfl rfl v2 rfl ?_
    refine wn_get (pc' := 84) (v := .int (nI (nrW w))) rfl rfl l0 rfl ?_
    refine wn_iret rfl rfl rfl ⟨congrArg (fun z => some (Value.int z)) ?_, rfl⟩
    unfold countA
    rw [if_neg (by decide), if_neg (by decide), if_pos rfl]
    first | done | exact e3.symm | rfl
  by_cases c4 : (x) = nI 3
  · rw [c4]
    refine wn_sw (off := 84) (pc' := 85) rfl rfl (by decide) rfl ?_
    refine wn_ld (pc' := 86) (q := 0) (kin := 2) (v := .ref (0)) rfl (fun _ _ _ => rfl) rfl rfl ?_
    refine wn_get (pc' := 89) (v := .ref (23)) rfl rfl o0 rfl ?_
    refine wn_get (pc' := 92) (v := .ref (ls)) rfl rfl v2 rfl ?_
    refine wn_get (pc' := 95) (v := .int (nI (ntW w))) rfl rfl l0 rfl ?_
    refine wn_iret rfl rfl rfl ⟨congrArg (fun z => some (Value.int z)) ?_, rfl⟩
    unfold countA
    rw [if_neg (by decide), if_neg (by decide), if_neg (by decide), if_pos rfl]
    first | done | exact e5.symm | rfl
  by_cases c5 : (x) = nI 4
  · rw [c5]
    refine wn_sw (off := 95) (pc' := 96) rfl rfl (by decide) rfl ?_
    refine wn_ld (pc' := 97) (q := 0) (kin := 2) (v := .ref (0)) rfl (fun _ _ _ => rfl) rfl rfl ?_
    refine wn_get (pc' := 100) (v := .ref (23)) rfl rfl o0 rfl ?_
    refine wn_get (pc' := 103) (v := .ref (ls)) rfl rfl v2 rfl ?_
    refine wn_get (pc' := 106) (v := .ref (ls + 9)) rfl rfl l0 rfl ?_
    refine wn_get (pc' := 109) (v := .int (nI (nlW w))) rfl rfl k1 rfl ?_
    refine wn_iret rfl rfl rfl ⟨congrArg (fun z => some (Value.int z)) ?_, rfl⟩
    unfold countA
    rw [if_neg (by decide), if_neg (by decide), if_neg (by decide), if_neg (by decide), if_pos rfl]
    first | done | exact e7.symm | rfl
  by_cases c6 : (x) = nI 5
  · rw [c6]
    refine wn_sw (off := 109) (pc' := 110) rfl rfl (by decide) rfl ?_
    refine wn_ld (pc' := 111) (q := 0) (kin := 2) (v := .ref (0)) rfl (fun _ _ _ => rfl) rfl rfl ?_
    refine wn_get (pc' := 114) (v := .int (nI (tn))) rfl rfl o0 rfl ?_
    refine wn_iret rfl rfl rfl ⟨congrArg (fun z => some (Value.int z)) ?_, rfl⟩
    unfold countA
    rw [if_neg (by decide), if_neg (by decide), if_neg (by decide), if_neg (by decide), if_neg (by decide), if_pos rfl]
  by_cases c7 : (x) = nI 6
  · rw [c7]
    refine wn_sw (off := 114) (pc' := 115) rfl rfl (by decide) rfl ?_
    refine wn_ld (pc' := 116) (q := 0) (kin := 2) (v := .ref (0)) rfl (fun _ _ _ => rfl) rfl rfl ?_
    refine wn_get (pc' := 119) (v := .ref (23)) rfl rfl o0 rfl ?_
    refine wn_get (pc' := 122) (v := .ref (44)) rfl rfl v2 rfl ?_
    refine wn_get (pc' := 125) (v := .int (nI (hdN w (ntW w)))) rfl rfl y0 rfl ?_
    refine wn_iret rfl rfl rfl ⟨congrArg (fun z => some (Value.int z)) ?_, rfl⟩
    unfold countA
    rw [if_neg (by decide), if_neg (by decide), if_neg (by decide), if_neg (by decide), if_neg (by decide), if_neg (by decide), if_pos rfl]
  by_cases c8 : (x) = nI 7
  · rw [c8]
    refine wn_sw (off := 125) (pc' := 126) rfl rfl (by decide) rfl ?_
    refine wn_ld (pc' := 127) (q := 0) (kin := 2) (v := .ref (0)) rfl (fun _ _ _ => rfl) rfl rfl ?_
    refine wn_get (pc' := 130) (v := .ref (23)) rfl rfl o0 rfl ?_
    refine wn_get (pc' := 133) (v := .ref (47)) rfl rfl v2 rfl ?_
    refine wn_get (pc' := 136) (v := .int (nI (ntS w 1200))) rfl rfl n0 rfl ?_
    refine wn_iret rfl rfl rfl ⟨congrArg (fun z => some (Value.int z)) ?_, rfl⟩
    unfold countA
    try rw [c8]
    rw [if_neg (by decide), if_neg (by decide), if_neg (by decide), if_neg (by decide), if_neg (by decide), if_neg (by decide), if_neg (by decide), if_pos rfl]
  by_cases c9 : (x) = nI 8
  · rw [c9]
    refine wn_sw (off := 136) (pc' := 137) rfl rfl (by decide) rfl ?_
    refine wn_ld (pc' := 138) (q := 0) (kin := 2) (v := .ref (0)) rfl (fun _ _ _ => rfl) rfl rfl ?_
    refine wn_virI (pc' := 141) rfl rfl (by decide) rfl rfl o0 (Nat.le_of_ble_eq_true rfl) (x_countRows _ _ tn mn wd nu o0 SL) ?_
    refine wn_iret rfl rfl rfl ⟨congrArg (fun z => some (Value.int z)) ?_, rfl⟩
    unfold countA
    try rw [c9]
    rw [if_neg (by decide), if_neg (by decide), if_neg (by decide), if_neg (by decide), if_neg (by decide), if_neg (by decide), if_neg (by decide), if_neg (by decide), if_pos rfl]
    all_goals rfl
  refine wn_sw (off := 141) (pc' := 142) rfl (sw_df 8 (by decide) (fun k hk => by rcases (show k = 0 ∨ k = 1 ∨ k = 2 ∨ k = 3 ∨ k = 4 ∨ k = 5 ∨ k = 6 ∨ k = 7 ∨ k = 8 by omega) with rfl | rfl | rfl | rfl | rfl | rfl | rfl | rfl | rfl <;> first | exact c1 | exact c2 | exact c3 | exact c4 | exact c5 | exact c6 | exact c7 | exact c8 | exact c9) (by rfl)) (by decide) rfl ?_
  refine wn_ic (pc' := 143) (w := -1) rfl rfl (by decide) ?_
  refine wn_iret rfl rfl rfl ⟨congrArg (fun z => some (Value.int z)) ?_, rfl⟩
  unfold countA
  rw [if_neg c1, if_neg c2, if_neg c3, if_neg c4, if_neg c5, if_neg c6, if_neg c7, if_neg c8, if_neg c9]

theorem ntS_le {w : Nat → Int32} (hWf : WfW w) {n : Nat} (h : n ≤ 1200) : ntS w n ≤ 9 * n := by
  induction n with
  | zero => exact Nat.le_refl _
  | succ n ih =>
    have := ih (by omega)
    have := wf_nsb hWf (show n < 1200 by omega)
    show ntS w n + nsW w n ≤ _
    omega
theorem m_count (d : Nat) (h : aH) (w : Nat → Int32) (hWf : WfW w) (HM : MH h w) (tp : Nat → Int32) (tl : Nat) (mn wd : Nat → Int32) (nu : Nat → Int64) (MT : MtV h tp tl mn wd nu) (x : Int32) : Rn (d + 4) 237 [.ref (71), .int (x)] h (some (.int (countA w tl mn x))) h 0 0 := by
  obtain ⟨⟨e1, e2⟩, ⟨e3, e4⟩, ⟨e5, e6⟩⟩ := Wf_n hWf
  obtain ⟨⟨e7, e8⟩, ⟨e9, e10⟩⟩ := Wf_m hWf
  have hW : h[72]? = some (.inl (0, 2676, .inl w)) := by obtain ⟨_, _, _, _, _, _, _, _, _, _, _, _, _, q⟩ := HM; exact q
  obtain ⟨th, sz, at9, fr, tk, vl, fk, fp, il, up, lo, fv, mv, q0, q1, q2, q3, q4, q5, q6⟩ := id MT
  refine Rn_of (by decide) (Nat.le_of_ble_eq_true rfl) ?_
  show Wn _ _ 0 [(0, .ref (71)), (1, .int (x))] [] _ _
  refine wn_ic (pc' := 1) (w := nI 0) rfl rfl (by decide) ?_
  refine wn_st (pc' := 2) (q := 2) (kin := 0) (lv' := [(0, .ref (71)), (1, .int (x)), (2, .int (nI (0)))]) rfl (fun _ _ _ => rfl) rfl (Nat.le_of_ble_eq_true rfl) rfl ?_
  refine wn_ld (pc' := 3) (q := 1) (kin := 0) (v := .int (x)) rfl (fun _ _ _ => rfl) rfl rfl ?_
  by_cases c1 : (x) = nI 0
  · rw [c1]
    refine wn_sw (off := 49) (pc' := 52) rfl rfl (by decide) rfl ?_
    refine wn_ld (pc' := 53) (q := 0) (kin := 2) (v := .ref (71)) rfl (fun _ _ _ => rfl) rfl rfl ?_
    refine wn_get (pc' := 56) (v := .ref (72)) rfl rfl q0 rfl ?_
    refine wn_ld (pc' := 57) (q := 1) (kin := 0) (v := .int (nI (0))) rfl (fun _ _ _ => rfl) rfl rfl ?_
    refine wn_ialdv (pc' := 58) (j := 0) (v := (w (0))) rfl rfl hW rfl (by omega) (by decide) (rfl) ?_
    refine wn_iret rfl rfl rfl ⟨congrArg (fun z => some (Value.int z)) ?_, rfl⟩
    unfold countA
    rw [if_pos rfl]
  by_cases c2 : (x) = nI 1
  · rw [c2]
    refine wn_sw (off := 49) (pc' := 52) rfl rfl (by decide) rfl ?_
    refine wn_ld (pc' := 53) (q := 0) (kin := 2) (v := .ref (71)) rfl (fun _ _ _ => rfl) rfl rfl ?_
    refine wn_get (pc' := 56) (v := .ref (72)) rfl rfl q0 rfl ?_
    refine wn_ld (pc' := 57) (q := 1) (kin := 0) (v := .int (nI (1))) rfl (fun _ _ _ => rfl) rfl rfl ?_
    refine wn_ialdv (pc' := 58) (j := 1) (v := (w (1))) rfl rfl hW rfl (by omega) (by decide) (rfl) ?_
    refine wn_iret rfl rfl rfl ⟨congrArg (fun z => some (Value.int z)) ?_, rfl⟩
    unfold countA
    rw [if_neg (by decide), if_pos rfl]
    first | done | exact e1.symm | rfl
  by_cases c3 : (x) = nI 2
  · rw [c3]
    refine wn_sw (off := 49) (pc' := 52) rfl rfl (by decide) rfl ?_
    refine wn_ld (pc' := 53) (q := 0) (kin := 2) (v := .ref (71)) rfl (fun _ _ _ => rfl) rfl rfl ?_
    refine wn_get (pc' := 56) (v := .ref (72)) rfl rfl q0 rfl ?_
    refine wn_ld (pc' := 57) (q := 1) (kin := 0) (v := .int (nI (2))) rfl (fun _ _ _ => rfl) rfl rfl ?_
    refine wn_ialdv (pc' := 58) (j := 2) (v := (w (2))) rfl rfl hW rfl (by omega) (by decide) (rfl) ?_
    refine wn_iret rfl rfl rfl ⟨congrArg (fun z => some (Value.int z)) ?_, rfl⟩
    unfold countA
    rw [if_neg (by decide), if_neg (by decide), if_pos rfl]
    first | done | exact e3.symm | rfl
  by_cases c4 : (x) = nI 3
  · rw [c4]
    refine wn_sw (off := 49) (pc' := 52) rfl rfl (by decide) rfl ?_
    refine wn_ld (pc' := 53) (q := 0) (kin := 2) (v := .ref (71)) rfl (fun _ _ _ => rfl) rfl rfl ?_
    refine wn_get (pc' := 56) (v := .ref (72)) rfl rfl q0 rfl ?_
    refine wn_ld (pc' := 57) (q := 1) (kin := 0) (v := .int (nI (3))) rfl (fun _ _ _ => rfl) rfl rfl ?_
    refine wn_ialdv (pc' := 58) (j := 3) (v := (w (3))) rfl rfl hW rfl (by omega) (by decide) (rfl) ?_
    refine wn_iret rfl rfl rfl ⟨congrArg (fun z => some (Value.int z)) ?_, rfl⟩
    unfold countA
    rw [if_neg (by decide), if_neg (by decide), if_neg (by decide), if_pos rfl]
    first | done | exact e5.symm | rfl
  by_cases c5 : (x) = nI 4
  · rw [c5]
    refine wn_sw (off := 49) (pc' := 52) rfl rfl (by decide) rfl ?_
    refine wn_ld (pc' := 53) (q := 0) (kin := 2) (v := .ref (71)) rfl (fun _ _ _ => rfl) rfl rfl ?_
    refine wn_get (pc' := 56) (v := .ref (72)) rfl rfl q0 rfl ?_
    refine wn_ld (pc' := 57) (q := 1) (kin := 0) (v := .int (nI (4))) rfl (fun _ _ _ => rfl) rfl rfl ?_
    refine wn_ialdv (pc' := 58) (j := 4) (v := (w (4))) rfl rfl hW rfl (by omega) (by decide) (rfl) ?_
    refine wn_iret rfl rfl rfl ⟨congrArg (fun z => some (Value.int z)) ?_, rfl⟩
    unfold countA
    rw [if_neg (by decide), if_neg (by decide), if_neg (by decide), if_neg (by decide), if_pos rfl]
    first | done | exact e7.symm | rfl
  by_cases c6 : (x) = nI 5
  · rw [c6]
    refine wn_sw (off := 56) (pc' := 59) rfl rfl (by decide) rfl ?_
    refine wn_ld (pc' := 60) (q := 0) (kin := 2) (v := .ref (71)) rfl (fun _ _ _ => rfl) rfl rfl ?_
    refine wn_get (pc' := 63) (v := .int (nI (tl))) rfl rfl q0 rfl ?_
    refine wn_iret rfl rfl rfl ⟨congrArg (fun z => some (Value.int z)) ?_, rfl⟩
    unfold countA
    rw [if_neg (by decide), if_neg (by decide), if_neg (by decide), if_neg (by decide), if_neg (by decide), if_pos rfl]
  by_cases c7 : (x) = nI 6
  · rw [c7]
    refine wn_sw (off := 61) (pc' := 64) rfl rfl (by decide) rfl ?_
    refine wn_ld (pc' := 65) (q := 0) (kin := 2) (v := .ref (71)) rfl (fun _ _ _ => rfl) rfl rfl ?_
    have := hdN_le w (ntW w)
    refine wn_virI (pc' := 68) rfl rfl (by decide) rfl rfl q0 (Nat.le_of_ble_eq_true rfl) (m_heardMany _ _ w HM e5 (by omega)) ?_
    refine wn_iret rfl rfl rfl ⟨congrArg (fun z => some (Value.int z)) ?_, rfl⟩
    unfold countA
    rw [if_neg (by decide), if_neg (by decide), if_neg (by decide), if_neg (by decide), if_neg (by decide), if_neg (by decide), if_pos rfl]
  by_cases c8 : (x) = nI 7
  · rw [c8]
    refine wn_sw (off := 66) (pc' := 69) rfl rfl (by decide) rfl ?_
    rw [← c8]
    refine wn_sp (pc' := 72) (w := nI 1476) rfl rfl (by decide) ?_
    refine wn_st (pc' := 73) (q := 3) (kin := 0) (lv' := [(0, .ref (71)), (1, .int (x)), (2, .int (nI (0))), (3, .int (nI (1476)))]) rfl (fun _ _ _ => rfl) rfl (Nat.le_of_ble_eq_true rfl) rfl ?_
    have lp9 : ∀ (n_lp9 : Nat) (k : Nat), 1200 + 1 ≤ k + n_lp9 → k ≤ 1200 → Wn (Rn (d + 3)) 237 73 [(0, .ref (71)), (1, .int (x)), (2, .int (nI (ntS w k))), (3, .int (nI (1476 + k)))] [] (h) (fun r9 h9 => r9 = (some (.int (countA w tl mn x))) ∧ h9 = h) := by
      intro n_lp9
      induction n_lp9 with
      | zero => intro k hm_lp9 hk; exfalso; omega
      | succ n_lp9 ih_lp9 =>
        intro k hm_lp9 hk
        have := ntS_le hWf hk
        refine wn_ld (pc' := 74) (q := 3) (kin := 0) (v := .int (nI (1476 + k))) rfl (fun _ _ _ => rfl) rfl rfl ?_
        refine wn_sp (pc' := 77) (w := nI 2676) rfl rfl (by decide) ?_
        refine wn_icmpN (t := 95) (f := 80) rfl rfl rfl (by omega) (by omega) (fun c10 => ?_) (fun c10 => ?_)
        · have c10 : 2676 ≤ (1476 + k) := c10
          obtain rfl : k = 1200 := by omega
          refine wn_ld (pc' := 96) (q := 2) (kin := 0) (v := .int (nI (ntS w 1200))) rfl (fun _ _ _ => rfl) rfl rfl ?_
          refine wn_iret rfl rfl rfl ⟨congrArg (fun z => some (Value.int z)) ?_, rfl⟩
          unfold countA
          try rw [c8]
          rw [if_neg (by decide), if_neg (by decide), if_neg (by decide), if_neg (by decide), if_neg (by decide), if_neg (by decide), if_neg (by decide), if_pos rfl]
        · have c10 : (1476 + k) < 2676 := c10
          refine wn_ld (pc' := 81) (q := 2) (kin := 0) (v := .int (nI (ntS w k))) rfl (fun _ _ _ => rfl) rfl rfl ?_
          refine wn_ld (pc' := 82) (q := 0) (kin := 2) (v := .ref (71)) rfl (fun _ _ _ => rfl) rfl rfl ?_
          refine wn_get (pc' := 85) (v := .ref (72)) rfl rfl q0 rfl ?_
          refine wn_ld (pc' := 86) (q := 3) (kin := 0) (v := .int (nI (1476 + k))) rfl (fun _ _ _ => rfl) rfl rfl ?_
          have := wf_nsb hWf (show k < 1200 by omega)
          refine wn_ialdv (pc' := 87) (j := 1476 + k) (v := (nI (nsW w k))) rfl rfl hW rfl (by omega) (by decide) (wf_ns hWf (by omega)) ?_
          refine wn_addN (pc' := 88) rfl rfl ?_
          refine wn_st (pc' := 89) (q := 2) (kin := 0) (lv' := [(0, .ref (71)), (1, .int (x)), (2, .int (nI ((ntS w k) + (nsW w k)))), (3, .int (nI (1476 + k)))]) rfl (fun _ _ _ => rfl) rfl (Nat.le_of_ble_eq_true rfl) rfl ?_
          refine wn_incN (n := 1) (pc' := 92) (lv' := [(0, .ref (71)), (1, .int (x)), (2, .int (nI ((ntS w k) + (nsW w k)))), (3, .int (nI (1476 + k + 1)))]) rfl rfl rfl (Nat.le_of_ble_eq_true rfl) rfl (by decide) ?_
          refine wn_jp (pc' := 73) rfl rfl ?_
          refine wn_weak (lv' := [(0, .ref (71)), (1, .int (x)), (2, .int (nI ((ntS w k) + (nsW w k)))), (3, .int (nI (1476 + k + 1)))]) (by simp) ?_
          have z9 := ih_lp9 (k + 1) (by omega) (by omega)
          rw [show (nI (ntS w (k + 1))) = (nI ((ntS w k) + (nsW w k))) from (by rfl)] at z9
          rw [show (nI (1476 + (k + 1))) = (nI (1476 + k + 1)) from (by rfl)] at z9
          exact z9
    refine wn_weak (lv' := [(0, .ref (71)), (1, .int (x)), (2, .int (nI (0))), (3, .int (nI (1476)))]) (by simp) ?_
    have z9 := lp9 (1200 + 1) 0 (by omega) (by omega)
    rw [show (nI (ntS w 0)) = (nI (0)) from (by rfl)] at z9
    rw [show (nI (1476 + 0)) = (nI (1476)) from (by rfl)] at z9
    exact z9
  by_cases c11 : (x) = nI 8
  · rw [c11]
    refine wn_sw (off := 94) (pc' := 97) rfl rfl (by decide) rfl ?_
    rw [← c11]
    refine wn_ic (pc' := 98) (w := nI 0) rfl rfl (by decide) ?_
    refine wn_st (pc' := 99) (q := 3) (kin := 0) (lv' := [(0, .ref (71)), (1, .int (x)), (2, .int (nI (0))), (3, .int (nI (0)))]) rfl (fun _ _ _ => rfl) rfl (Nat.le_of_ble_eq_true rfl) rfl ?_
    have lp12 : ∀ (n_lp12 : Nat) (k : Nat), 4 + 1 ≤ k + n_lp12 → k ≤ 4 → Wn (Rn (d + 3)) 237 99 [(0, .ref (71)), (1, .int (x)), (2, .int (nI (cntP (fun x7 => ¬ (mn x7 = -1)) k))), (3, .int (nI (k)))] [] (h) (fun r9 h9 => r9 = (some (.int (countA w tl mn x))) ∧ h9 = h) := by
      intro n_lp12
      induction n_lp12 with
      | zero => intro k hm_lp12 hk_k; exfalso; omega
      | succ n_lp12 ih_lp12 =>
        intro k hm_lp12 hk_k
        have := cntP_le (fun x7 => ¬ (mn x7 = -1)) k
        refine wn_ld (pc' := 100) (q := 3) (kin := 0) (v := .int (nI (k))) rfl (fun _ _ _ => rfl) rfl rfl ?_
        refine wn_ic (pc' := 101) (w := nI 4) rfl rfl (by decide) ?_
        refine wn_icmpN (t := 128) (f := 104) rfl rfl rfl (by omega) (by omega) (fun c13 => ?_) (fun c13 => ?_)
        · have c13 : 4 ≤ k := c13
          obtain rfl : k = 4 := by omega
          refine wn_ld (pc' := 129) (q := 2) (kin := 0) (v := .int (nI (cntP (fun x7 => ¬ (mn x7 = -1)) 4))) rfl (fun _ _ _ => rfl) rfl rfl ?_
          refine wn_iret rfl rfl rfl ⟨congrArg (fun z => some (Value.int z)) ?_, rfl⟩
          unfold countA
          try rw [c11]
          rw [if_neg (by decide), if_neg (by decide), if_neg (by decide), if_neg (by decide), if_neg (by decide), if_neg (by decide), if_neg (by decide), if_neg (by decide), if_pos rfl]
          all_goals rfl
        · have c13 : k < 4 := c13
          refine wn_ld (pc' := 105) (q := 2) (kin := 0) (v := .int (nI (cntP (fun x7 => ¬ (mn x7 = -1)) k))) rfl (fun _ _ _ => rfl) rfl rfl ?_
          refine wn_ld (pc' := 106) (q := 0) (kin := 2) (v := .ref (71)) rfl (fun _ _ _ => rfl) rfl rfl ?_
          refine wn_get (pc' := 109) (v := .ref (81)) rfl rfl q0 rfl ?_
          refine wn_ld (pc' := 110) (q := 3) (kin := 0) (v := .int (nI (k))) rfl (fun _ _ _ => rfl) rfl rfl ?_
          refine wn_ialdv (pc' := 111) (j := k) (v := (mn (k))) rfl rfl q3 rfl (by omega) (by decide) (rfl) ?_
          refine wn_ic (pc' := 112) (w := -1) rfl rfl (by decide) ?_
          refine wn_icmp (t := 119) (f := 115) rfl rfl rfl (fun c14 => ?_) (fun c14 => ?_)
          · have c14 : ¬ ((mn (k))) = ((-1)) := c14
            refine wn_ic (pc' := 120) (w := nI 1) rfl rfl (by decide) ?_
            refine wn_addN (pc' := 121) rfl rfl ?_
            refine wn_st (pc' := 122) (q := 2) (kin := 0) (lv' := [(0, .ref (71)), (1, .int (x)), (2, .int (nI ((cntP (fun x7 => ¬ (mn x7 = -1)) k) + 1))), (3, .int (nI (k)))]) rfl (fun _ _ _ => rfl) rfl (Nat.le_of_ble_eq_true rfl) rfl ?_
            refine wn_incN (n := 1) (pc' := 125) (lv' := [(0, .ref (71)), (1, .int (x)), (2, .int (nI ((cntP (fun x7 => ¬ (mn x7 = -1)) k) + 1))), (3, .int (nI (k + 1)))]) rfl rfl rfl (Nat.le_of_ble_eq_true rfl) rfl (by decide) ?_
            refine wn_jp (pc' := 99) rfl rfl ?_
            refine wn_weak (lv' := [(0, .ref (71)), (1, .int (x)), (2, .int (nI ((cntP (fun x7 => ¬ (mn x7 = -1)) k) + 1))), (3, .int (nI (k + 1)))]) (by simp) ?_
            have z9 := ih_lp12 (k + 1) (by omega) (by omega)
            rw [show (nI (cntP (fun x7 => ¬ (mn x7 = -1)) (k + 1))) = (nI ((cntP (fun x7 => ¬ (mn x7 = -1)) k) + 1)) from (by exact congrArg nI (cntP_t (p := fun x7 => ¬ (mn x7 = -1)) c14))] at z9
            exact z9
          · have c14 : ((mn (k))) = ((-1)) := c14
            refine wn_ic (pc' := 116) (w := nI 0) rfl rfl (by decide) ?_
            refine wn_jp (pc' := 120) rfl rfl ?_
            refine wn_addN (pc' := 121) rfl rfl ?_
            refine wn_st (pc' := 122) (q := 2) (kin := 0) (lv' := [(0, .ref (71)), (1, .int (x)), (2, .int (nI ((cntP (fun x7 => ¬ (mn x7 = -1)) k) + 0))), (3, .int (nI (k)))]) rfl (fun _ _ _ => rfl) rfl (Nat.le_of_ble_eq_true rfl) rfl ?_
            refine wn_incN (n := 1) (pc' := 125) (lv' := [(0, .ref (71)), (1, .int (x)), (2, .int (nI ((cntP (fun x7 => ¬ (mn x7 = -1)) k) + 0))), (3, .int (nI (k + 1)))]) rfl rfl rfl (Nat.le_of_ble_eq_true rfl) rfl (by decide) ?_
            refine wn_jp (pc' := 99) rfl rfl ?_
            refine wn_weak (lv' := [(0, .ref (71)), (1, .int (x)), (2, .int (nI ((cntP (fun x7 => ¬ (mn x7 = -1)) k) + 0))), (3, .int (nI (k + 1)))]) (by simp) ?_
            have z9 := ih_lp12 (k + 1) (by omega) (by omega)
            rw [show (nI (cntP (fun x7 => ¬ (mn x7 = -1)) (k + 1))) = (nI ((cntP (fun x7 => ¬ (mn x7 = -1)) k) + 0)) from (by exact congrArg nI (cntP_f (p := fun x7 => ¬ (mn x7 = -1)) (fun q9 => q9 c14)))] at z9
            exact z9
    refine wn_weak (lv' := [(0, .ref (71)), (1, .int (x)), (2, .int (nI (0))), (3, .int (nI (0)))]) (by simp) ?_
    have z9 := lp12 (4 + 1) 0 (by omega) (by omega)
    rw [show (nI (cntP (fun x7 => ¬ (mn x7 = -1)) 0)) = (nI (0)) from (by rfl)] at z9
    exact z9
  refine wn_sw (off := 127) (pc' := 130) rfl (sw_df 8 (by decide) (fun k hk => by rcases (show k = 0 ∨ k = 1 ∨ k = 2 ∨ k = 3 ∨ k = 4 ∨ k = 5 ∨ k = 6 ∨ k = 7 ∨ k = 8 by omega) with rfl | rfl | rfl | rfl | rfl | rfl | rfl | rfl | rfl <;> first | exact c1 | exact c2 | exact c3 | exact c4 | exact c5 | exact c6 | exact c7 | exact c8 | exact c11) (by rfl)) (by decide) rfl ?_
  refine wn_ic (pc' := 131) (w := -1) rfl rfl (by decide) ?_
  refine wn_iret rfl rfl rfl ⟨congrArg (fun z => some (Value.int z)) ?_, rfl⟩
  unfold countA
  rw [if_neg c1, if_neg c2, if_neg c3, if_neg c4, if_neg c5, if_neg c6, if_neg c7, if_neg c8, if_neg c11]

theorem kase_38 (x : Int32) : CaseI Rq 126 237 [.int x] := kase_k (fun w tl mn => countA w tl mn x) (fun h ls w tl mn wd nu g1 V o0 SL => x_count 698 h ls w g1 V tl mn wd nu o0 SL x) (fun h w tp tl mn wd nu g1 HM MT => m_count 696 h w g1 HM tp tl mn wd nu MT x)
