/-! fault, end -/
def fauA (fk fp a : Int32) : Int32 := if a = 0 then fk else if a = nI 1 then fp else -1
theorem x_fault (d : Nat) (h : aH) (w tp : Nat → Int32) (tl : Nat) (im hi : Nat → Int32) (fk fp : Int32) (mn wd : Nat → Int32) (nu : Nat → Int64) (HC : RepC h w tp tl im hi fk fp mn wd nu) (a : Int32) : Sp (Rn (d + 1)) 69 [.ref (0), .int (a)] h (fun r h' => r = some (.int (fauA fk fp a)) ∧ h' = h) := by
  obtain ⟨ls, lr, ct, bu, lb, ft, ta, un, ln, k9, s9, a9, n9, ig, sg, b0, b1, b2, b3, b4, b5, b6, b7, b8, b9, b10, b11, b12, b13, b14, b15, b16, b17⟩ := id HC
  refine Sp_of (by decide) (Nat.le_of_ble_eq_true rfl) ?_
  show Wn _ _ 0 [(0, .ref (0)), (1, .int (a))] [] _ _
  refine wn_ld (pc' := 1) (q := 1) (kin := 0) (v := .int (a)) rfl (fun _ _ _ => rfl) rfl rfl ?_
  refine wn_ifc (t := 12) (f := 4) rfl rfl rfl (fun c1 => ?_) (fun c1 => ?_)
  · have c1 : ¬ ((a)) = 0 := c1
    refine wn_ld (pc' := 13) (q := 1) (kin := 0) (v := .int (a)) rfl (fun _ _ _ => rfl) rfl rfl ?_
    refine wn_ic (pc' := 14) (w := nI 1) rfl rfl (by decide) ?_
    refine wn_icmp (t := 27) (f := 17) rfl rfl rfl (fun c2 => ?_) (fun c2 => ?_)
    · have c2 : ¬ ((a)) = ((nI (1))) := c2
      refine wn_ic (pc' := 28) (w := -1) rfl rfl (by decide) ?_
      refine wn_iret rfl rfl rfl ⟨?_, rfl⟩
      unfold fauA
      simp_all
    · have c2 : ((a)) = ((nI (1))) := c2
      refine wn_ld (pc' := 18) (q := 0) (kin := 2) (v := .ref (0)) rfl (fun _ _ _ => rfl) rfl rfl ?_
      refine wn_get (pc' := 21) (v := .ref (2)) rfl rfl b1 rfl ?_
      refine wn_get (pc' := 24) (v := .int (fp)) rfl rfl b4 rfl ?_
      refine wn_jp (pc' := 28) rfl rfl ?_
      refine wn_iret rfl rfl rfl ⟨?_, rfl⟩
      unfold fauA
      simp_all
  · have c1 : ((a)) = 0 := c1
    refine wn_ld (pc' := 5) (q := 0) (kin := 2) (v := .ref (0)) rfl (fun _ _ _ => rfl) rfl rfl ?_
    refine wn_get (pc' := 8) (v := .ref (2)) rfl rfl b1 rfl ?_
    refine wn_get (pc' := 11) (v := .int (fk)) rfl rfl b4 rfl ?_
    refine wn_iret rfl rfl rfl ⟨?_, rfl⟩
    unfold fauA
    simp_all
theorem m_fault (d : Nat) (h : aH) (w tp : Nat → Int32) (tl : Nat) (im hi : Nat → Int32) (fk fp : Int32) (mn wd : Nat → Int32) (nu : Nat → Int64) (HM : RepM h w tp tl im hi fk fp mn wd nu) (a : Int32) : Sp (Rn (d + 1)) 165 [.ref (71), .int (a)] h (fun r h' => r = some (.int (fauA fk fp a)) ∧ h' = h) := by
  obtain ⟨th, sz, at9, fr, tk, vl, il, up, lo, fv, fs, sa9, tn, le, mv, q0, q1, q2, q3, q4, q5, q6, q7, q8, q9, q10, q11, q12, q13, q14⟩ := id HM
  refine Sp_of (by decide) (Nat.le_of_ble_eq_true rfl) ?_
  show Wn _ _ 0 [(0, .ref (71)), (1, .int (a))] [] _ _
  refine wn_ld (pc' := 1) (q := 1) (kin := 0) (v := .int (a)) rfl (fun _ _ _ => rfl) rfl rfl ?_
  refine wn_ifc (t := 11) (f := 4) rfl rfl rfl (fun c1 => ?_) (fun c1 => ?_)
  · have c1 : ¬ ((a)) = 0 := c1
    refine wn_ld (pc' := 12) (q := 1) (kin := 0) (v := .int (a)) rfl (fun _ _ _ => rfl) rfl rfl ?_
    refine wn_ic (pc' := 13) (w := nI 1) rfl rfl (by decide) ?_
    refine wn_icmp (t := 23) (f := 16) rfl rfl rfl (fun c2 => ?_) (fun c2 => ?_)
    · have c2 : ¬ ((a)) = ((nI (1))) := c2
      refine wn_ic (pc' := 24) (w := -1) rfl rfl (by decide) ?_
      refine wn_iret rfl rfl rfl ⟨?_, rfl⟩
      unfold fauA
      simp_all
    · have c2 : ((a)) = ((nI (1))) := c2
      refine wn_ld (pc' := 17) (q := 0) (kin := 2) (v := .ref (71)) rfl (fun _ _ _ => rfl) rfl rfl ?_
      refine wn_get (pc' := 20) (v := .int (fp)) rfl rfl q0 rfl ?_
      refine wn_jp (pc' := 24) rfl rfl ?_
      refine wn_iret rfl rfl rfl ⟨?_, rfl⟩
      unfold fauA
      simp_all
  · have c1 : ((a)) = 0 := c1
    refine wn_ld (pc' := 5) (q := 0) (kin := 2) (v := .ref (71)) rfl (fun _ _ _ => rfl) rfl rfl ?_
    refine wn_get (pc' := 8) (v := .int (fk)) rfl rfl q0 rfl ?_
    refine wn_jp (pc' := 24) rfl rfl ?_
    refine wn_iret rfl rfl rfl ⟨?_, rfl⟩
    unfold fauA
    simp_all
theorem case_3 (a : Int32) : CaseI Rp 69 165 [.int a] := by
  intro h hR
  obtain ⟨w, tp, tl, im, hi, fk, fp, mn, wd, nu, g1, g2, HM, HC⟩ := id hR
  obtain ⟨r1, h1, x1, rfl, rfl⟩ := x_fault 699 h w tp tl im hi fk fp mn wd nu HC a
  obtain ⟨r2, h2, x2, rfl, rfl⟩ := m_fault 699 h1 w tp tl im hi fk fp mn wd nu HM a
  obtain ⟨ls, lr, ct, bu, lb, ft, ta, un, ln, k9, s9, a9, n9, ig, sg, b0, b1, b2, b3, b4, b5, b6, b7, b8, b9, b10, b11, b12, b13, b14, b15, b16, b17⟩ := id HC
  obtain ⟨th, sz, at9, fr, tk, vl, il, up, lo, fv, fs, sa9, tn, le, mv, q0, q1, q2, q3, q4, q5, q6, q7, q8, q9, q10, q11, q12, q13, q14⟩ := id HM
  exact ⟨_, _, _, 0, 0, _, _, by decide, by decide, b1, x1, q0, x2, hR⟩
def endA (tl : Nat) (a : Int32) : Int32 := if 0 ≤ a.toInt ∧ a.toInt ≤ (tl : Int) then a else -1
def endT (tl : Nat) (a : Int32) : Nat := if 0 ≤ a.toInt ∧ a.toInt ≤ (tl : Int) then a.toNatClampNeg else tl
theorem nI_back {a : Int32} (h : 0 ≤ a.toInt) : nI a.toNatClampNeg = a := by
  obtain ⟨j, hj, rfl⟩ := nI_of (x := a) (fun q => by have := Int32.lt_iff_toInt_lt.mp q; simp at this; omega)
  rw [nI_clamp hj]
theorem RepC.tl {h : aH} {w tp : Nat → Int32} {tl : Nat} {im hi : Nat → Int32} {fk fp : Int32} {mn wd : Nat → Int32} {nu : Nat → Int64} (HC : RepC h w tp tl im hi fk fp mn wd nu) (t : Nat) : RepC (h.set 0 (.inr (8, [.ref 1, .int (nI t), .ref 2, .ref 23, .ref 50, .ref 51, .ref 52, .ref 58, .ref 59, .ref 60, .ref 61, .ref 62]))) w tp t im hi fk fp mn wd nu := by
  obtain ⟨ls, lr, ct, bu, lb, ft, ta, un, ln, k9, s9, a9, n9, ig, sg, b0, b1, b2, b3, b4, b5, b6, b7, b8, b9, b10, b11, b12, b13, b14, b15, b16, b17⟩ := id HC
  have hk : ∀ k, 0 ≠ k → (h.set 0 (.inr (8, [.ref 1, .int (nI t), .ref 2, .ref 23, .ref 50, .ref 51, .ref 52, .ref 58, .ref 59, .ref 60, .ref 61, .ref 62])))[k]? = h[k]? := fun k p => List.getElem?_set_ne p
  refine ⟨ls, lr, ct, bu, lb, ft, ta, un, ln, k9, s9, a9, n9, ig, sg, b0, gs_self b1, b2.kp (hk _ (by omega)), b3, b4.kp (hk _ (by omega)), b5.kp (fun k p1 p2 => hk k (by omega)), b6.kp (hk _ (by omega)) (fun k p1 p2 => hk k (by omega)) (fun k p1 p2 => hk k (by omega)) (fun k p1 p2 => hk k (by omega)), b7.kp (fun k p1 p2 => hk k (by omega)), b8.kp (hk _ (by omega)), b9.kp (hk _ (by omega)), b10.kp (hk _ (by omega)), b11.kp (hk _ (by omega)), b12.kp (hk _ (by omega)), b13.kp (hk _ (by omega)), fun k p1 => ?_, b15, b16.kp (hk _ (by omega)), fun k p1 => ?_⟩
  · rcases b14 k p1 with c | ⟨c1, q, c2, c3, c4, c5⟩
    · exact Or.inl c
    · exact Or.inr ⟨c1, q, c2, c3, c4.kp (hk _ (by omega)) (fun k p1 p2 => hk k (by omega)) (fun k p1 p2 => hk k (by omega)) (fun k p1 p2 => hk k (by omega)), c5⟩
  · obtain ⟨c1, c2, nm, c3, c4⟩ := b17 k p1
    exact ⟨c1, c2.kp (hk _ (by omega)), nm, c3.kp (hk _ (by omega)), c4⟩
theorem x_end (d : Nat) (h : aH) (w tp : Nat → Int32) (tl : Nat) (im hi : Nat → Int32) (fk fp : Int32) (mn wd : Nat → Int32) (nu : Nat → Int64) (hS : WfS tp tl mn wd) (HC : RepC h w tp tl im hi fk fp mn wd nu) (a : Int32) : Sp (Rn (d + 1)) 67 [.ref (0), .int (a)] h (fun r h' => r = some (.int (endA tl a)) ∧ RepC h' w tp (endT tl a) im hi fk fp mn wd nu ∧ FrC h h') := by
  obtain ⟨ls, lr, ct, bu, lb, ft, ta, un, ln, k9, s9, a9, n9, ig, sg, b0, b1, b2, b3, b4, b5, b6, b7, b8, b9, b10, b11, b12, b13, b14, b15, b16, b17⟩ := id HC
  refine Sp_of (by decide) (Nat.le_of_ble_eq_true rfl) ?_
  show Wn _ _ 0 [(0, .ref (0)), (1, .int (a))] [] _ _
  refine wn_ld (pc' := 1) (q := 1) (kin := 0) (v := .int (a)) rfl (fun _ _ _ => rfl) rfl rfl ?_
  refine wn_ifc (t := 12) (f := 4) rfl rfl rfl (fun c1 => ?_) (fun c1 => ?_)
  · have c1 : ((a)) < 0 := c1
    refine wn_ic (pc' := 13) (w := -1) rfl rfl (by decide) ?_
    refine wn_iret rfl rfl rfl ?_
    have e0 : (nI tl).toInt = (tl : Int) := nI_toInt (by have := hS.1; omega)
    try simp only [Int32.lt_iff_toInt_lt, Int32.le_iff_toInt_le, e0, Int32.toInt_zero, i2l_int, nI_int, lN_int] at c1
    have ez : (lN 0).toInt = 0 := by decide
    have hc : ¬ (0 ≤ a.toInt ∧ a.toInt ≤ (tl : Int)) := by omega
    refine ⟨by unfold endA; rw [if_neg hc], ?_⟩
    have et : endT tl a = tl := by unfold endT; rw [if_neg hc]
    rw [et]
    exact ⟨HC, Nat.le_refl _, fun _ _ _ => rfl⟩
  · have c1 : 0 ≤ ((a)) := c1
    refine wn_ld (pc' := 5) (q := 1) (kin := 0) (v := .int (a)) rfl (fun _ _ _ => rfl) rfl rfl ?_
    refine wn_ld (pc' := 6) (q := 0) (kin := 2) (v := .ref (0)) rfl (fun _ _ _ => rfl) rfl rfl ?_
    refine wn_get (pc' := 9) (v := .int (nI tl)) rfl rfl b1 rfl ?_
    refine wn_icmp (t := 14) (f := 12) rfl rfl rfl (fun c2 => ?_) (fun c2 => ?_)
    · have c2 : ((a)) ≤ ((nI tl)) := c2
      refine wn_ld (pc' := 15) (q := 0) (kin := 2) (v := .ref (0)) rfl (fun _ _ _ => rfl) rfl rfl ?_
      refine wn_ld (pc' := 16) (q := 1) (kin := 0) (v := .int (a)) rfl (fun _ _ _ => rfl) rfl rfl ?_
      refine wn_put (pc' := 19) rfl rfl b1 (Nat.le_of_ble_eq_true rfl) ⟨rfl, rfl⟩ ?_
      show Wn _ _ 19 _ [] ((h).set 0 (.inr (8, [.ref (1), .int (a), .ref (2), .ref (23), .ref (50), .ref (51), .ref (52), .ref (58), .ref (59), .ref (60), .ref (61), .ref (62)]))) _
      refine wn_ld (pc' := 20) (q := 1) (kin := 0) (v := .int (a)) rfl (fun _ _ _ => rfl) rfl rfl ?_
      refine wn_iret rfl rfl rfl ?_
      have e0 : (nI tl).toInt = (tl : Int) := nI_toInt (by have := hS.1; omega)
      try simp only [Int32.lt_iff_toInt_lt, Int32.le_iff_toInt_le, e0, Int32.toInt_zero, i2l_int, nI_int, lN_int] at c1
      try simp only [Int32.lt_iff_toInt_lt, Int32.le_iff_toInt_le, e0, Int32.toInt_zero, i2l_int, nI_int, lN_int] at c2
      have ez : (lN 0).toInt = 0 := by decide
      have hc : 0 ≤ a.toInt ∧ a.toInt ≤ (tl : Int) := by omega
      refine ⟨by unfold endA; rw [if_pos hc], ?_⟩
      have et : endT tl a = a.toNatClampNeg := by unfold endT; rw [if_pos hc]
      rw [et, show Value.int a = Value.int (nI a.toNatClampNeg) by rw [nI_back hc.1]]
      exact ⟨RepC.tl HC _, by rw [List.length_set]; exact Nat.le_refl _, fun k p1 p2 => List.getElem?_set_ne (by omega)⟩
    · have c2 : ((nI tl)) < ((a)) := c2
      refine wn_ic (pc' := 13) (w := -1) rfl rfl (by decide) ?_
      refine wn_iret rfl rfl rfl ?_
      have e0 : (nI tl).toInt = (tl : Int) := nI_toInt (by have := hS.1; omega)
      try simp only [Int32.lt_iff_toInt_lt, Int32.le_iff_toInt_le, e0, Int32.toInt_zero, i2l_int, nI_int, lN_int] at c1
      try simp only [Int32.lt_iff_toInt_lt, Int32.le_iff_toInt_le, e0, Int32.toInt_zero, i2l_int, nI_int, lN_int] at c2
      have ez : (lN 0).toInt = 0 := by decide
      have hc : ¬ (0 ≤ a.toInt ∧ a.toInt ≤ (tl : Int)) := by omega
      refine ⟨by unfold endA; rw [if_neg hc], ?_⟩
      have et : endT tl a = tl := by unfold endT; rw [if_neg hc]
      rw [et]
      exact ⟨HC, Nat.le_refl _, fun _ _ _ => rfl⟩
theorem RepM.tl {h : aH} {w tp : Nat → Int32} {tl : Nat} {im hi : Nat → Int32} {fk fp : Int32} {mn wd : Nat → Int32} {nu : Nat → Int64} {th sz at9 fr tk vl il : Int32} {up lo : Int64} {fv fs sa9 tn le : Nat → Int32} {mv : Nat → Int64} (q0 : isO h 71 9 (MoF th (nI tl) sz at9 fr tk vl fk fp il up lo)) (q1 : isI h 72 2676 w) (q2 : isI h 73 8028 im) (q3 : isZ h 74 3 hi) (q4 : isB h 75 1200 tp) (q5 : isI h 76 5 fv) (q6 : isI h 77 2676 fs) (q7 : isI h 78 14640 sa9) (q8 : isI h 79 14400 tn) (q9 : isI h 80 24 le) (q10 : isI h 81 4 mn) (q11 : isI h 82 4 wd) (q12 : isJ h 83 240 nu) (q13 : isJ h 84 60 mv) (q14 : LaidM w il sa9 tn) (t : Nat) : RepM (h.set 71 (.inr (9, MoF th (nI t) sz at9 fr tk vl fk fp il up lo))) w tp t im hi fk fp mn wd nu := by
  have hk : ∀ k, 71 ≠ k → (h.set 71 (.inr (9, MoF th (nI t) sz at9 fr tk vl fk fp il up lo)))[k]? = h[k]? := fun k p => List.getElem?_set_ne p
  exact ⟨th, sz, at9, fr, tk, vl, il, up, lo, fv, fs, sa9, tn, le, mv, gs_self q0, q1.kp (hk _ (by decide)), q2.kp (hk _ (by decide)), q3.kp (hk _ (by decide)), q4.kp (hk _ (by decide)), q5.kp (hk _ (by decide)), q6.kp (hk _ (by decide)), q7.kp (hk _ (by decide)), q8.kp (hk _ (by decide)), q9.kp (hk _ (by decide)), q10.kp (hk _ (by decide)), q11.kp (hk _ (by decide)), q12.kp (hk _ (by decide)), q13.kp (hk _ (by decide)), q14⟩
theorem m_end (d : Nat) (h : aH) (w tp : Nat → Int32) (tl : Nat) (im hi : Nat → Int32) (fk fp : Int32) (mn wd : Nat → Int32) (nu : Nat → Int64) (hS : WfS tp tl mn wd) (HM : RepM h w tp tl im hi fk fp mn wd nu) (a : Int32) : Sp (Rn (d + 2)) 156 [.ref (71), .int (a)] h (fun r h' => r = some (.int (endA tl a)) ∧ RepM h' w tp (endT tl a) im hi fk fp mn wd nu ∧ FrM h h') := by
  obtain ⟨th, sz, at9, fr, tk, vl, il, up, lo, fv, fs, sa9, tn, le, mv, q0, q1, q2, q3, q4, q5, q6, q7, q8, q9, q10, q11, q12, q13, q14⟩ := id HM
  refine Sp_of (by decide) (Nat.le_of_ble_eq_true rfl) ?_
  show Wn _ _ 0 [(0, .ref (71)), (1, .int (a))] [] _ _
  refine wn_ld (pc' := 1) (q := 1) (kin := 0) (v := .int (a)) rfl (fun _ _ _ => rfl) rfl rfl ?_
  refine wn_pu (pc' := 2) (st' := [.long (Int32.toInt64 (a))]) rfl (fun _ _ _ => rfl) rfl rfl ?_
  refine wn_pu (pc' := 3) (st' := .long (lN 0) :: [.long (Int32.toInt64 (a))]) rfl (fun _ _ _ => rfl) rfl rfl ?_
  refine wn_ld (pc' := 4) (q := 0) (kin := 2) (v := .ref (71)) rfl (fun _ _ _ => rfl) rfl rfl ?_
  refine wn_get (pc' := 7) (v := .int (nI tl)) rfl rfl q0 rfl ?_
  refine wn_pu (pc' := 8) (st' := [.long (Int32.toInt64 (nI tl)), .long (lN 0), .long (Int32.toInt64 (a))]) rfl (fun _ _ _ => rfl) rfl rfl ?_
  refine wn_staI (pc' := 11) rfl rfl (by decide) rfl rfl (Nat.le_of_ble_eq_true rfl) (m_in _ _ _ _ _) ?_
  refine wn_ifneB (t := 16) (f := 14) rfl rfl rfl (fun c1 => ?_) (fun c1 => ?_)
  · have c1 : ((lN 0).toInt ≤ (Int32.toInt64 (a)).toInt ∧ (Int32.toInt64 (a)).toInt ≤ (Int32.toInt64 (nI tl)).toInt) := c1
    refine wn_ld (pc' := 17) (q := 0) (kin := 2) (v := .ref (71)) rfl (fun _ _ _ => rfl) rfl rfl ?_
    refine wn_ld (pc' := 18) (q := 1) (kin := 0) (v := .int (a)) rfl (fun _ _ _ => rfl) rfl rfl ?_
    refine wn_put (pc' := 21) rfl rfl q0 (Nat.le_of_ble_eq_true rfl) ⟨rfl, rfl⟩ ?_
    show Wn _ _ 21 _ [] ((h).set 71 (.inr (9, [.int (th), .ref (72), .ref (73), .ref (74), .ref (75), .int (a), .ref (76), .int (sz), .int (at9), .int (fr), .int (tk), .int (vl), .int (fk), .int (fp), .ref (77), .int (il), .ref (78), .ref (79), .ref (80), .long (up), .long (lo), .ref (81), .ref (82), .ref (83), .ref (84)]))) _
    refine wn_ld (pc' := 22) (q := 1) (kin := 0) (v := .int (a)) rfl (fun _ _ _ => rfl) rfl rfl ?_
    refine wn_iret rfl rfl rfl ?_
    have e0 : (nI tl).toInt = (tl : Int) := nI_toInt (by have := hS.1; omega)
    try simp only [Int32.lt_iff_toInt_lt, Int32.le_iff_toInt_le, e0, Int32.toInt_zero, i2l_int, nI_int, lN_int] at c1
    have ez : (lN 0).toInt = 0 := by decide
    have hc : 0 ≤ a.toInt ∧ a.toInt ≤ (tl : Int) := by omega
    refine ⟨by unfold endA; rw [if_pos hc], ?_⟩
    have et : endT tl a = a.toNatClampNeg := by unfold endT; rw [if_pos hc]
    rw [et, show Value.int a = Value.int (nI a.toNatClampNeg) by rw [nI_back hc.1]]
    exact ⟨RepM.tl q0 q1 q2 q3 q4 q5 q6 q7 q8 q9 q10 q11 q12 q13 q14 _, by rw [List.length_set], fun k p => List.getElem?_set_ne (by omega)⟩
  · have c1 : ¬ ((lN 0).toInt ≤ (Int32.toInt64 (a)).toInt ∧ (Int32.toInt64 (a)).toInt ≤ (Int32.toInt64 (nI tl)).toInt) := c1
    refine wn_ic (pc' := 15) (w := -1) rfl rfl (by decide) ?_
    refine wn_iret rfl rfl rfl ?_
    have e0 : (nI tl).toInt = (tl : Int) := nI_toInt (by have := hS.1; omega)
    try simp only [Int32.lt_iff_toInt_lt, Int32.le_iff_toInt_le, e0, Int32.toInt_zero, i2l_int, nI_int, lN_int] at c1
    have ez : (lN 0).toInt = 0 := by decide
    have hc : ¬ (0 ≤ a.toInt ∧ a.toInt ≤ (tl : Int)) := by omega
    refine ⟨by unfold endA; rw [if_neg hc], ?_⟩
    have et : endT tl a = tl := by unfold endT; rw [if_neg hc]
    rw [et]
    exact ⟨HM, rfl, fun _ _ => rfl⟩
theorem case_1 (a : Int32) : CaseI Rp 67 156 [.int a] := by
  intro h hR
  obtain ⟨w, tp, tl, im, hi, fk, fp, mn, wd, nu, g1, g2, HM, HC⟩ := id hR
  obtain ⟨ls, lr, ct, bu, lb, ft, ta, un, ln, k9, s9, a9, n9, ig, sg, b0, b1, b2, b3, b4, b5, b6, b7, b8, b9, b10, b11, b12, b13, b14, b15, b16, b17⟩ := id HC
  obtain ⟨r1, h1, x1, rfl, HC1, F1⟩ := x_end 699 h w tp tl im hi fk fp mn wd nu g2 HC a
  have HM1 := HM.kp (h' := h1) (fun k p1 p2 => F1.2 k p1 p2)
  obtain ⟨th, sz, at9, fr, tk, vl, il, up, lo, fv, fs, sa9, tn, le, mv, q0, q1, q2, q3, q4, q5, q6, q7, q8, q9, q10, q11, q12, q13, q14⟩ := id HM1
  obtain ⟨r2, h2, x2, rfl, HM2, F2⟩ := m_end 698 h1 w tp tl im hi fk fp mn wd nu g2 HM1 a
  have HC2 := HC1.kp (h' := h2) F2.2
  have ht : endT tl a ≤ 1200 := by
    have := g2.1
    unfold endT
    split
    · rename_i hc
      have e9 : ((a.toNatClampNeg : Nat) : Int) = a.toInt := Int.toNat_of_nonneg hc.1
      omega
    · exact this
  exact ⟨_, _, _, 0, 0, _, _, by decide, by decide, b1, x1, q0, x2, w, tp, endT tl a, im, hi, fk, fp, mn, wd, nu, g1, ⟨ht, g2.2⟩, HM2, HC2⟩
