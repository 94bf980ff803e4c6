/-! noted, and what asks for a village, an item, a variant -/
theorem iin_of {x : Int32} {n : Nat} (h : iin x n) : ∃ j, j < n ∧ x = nI j := by
  obtain ⟨h1, h2⟩ := h
  refine ⟨x.toNatClampNeg, ?_, (nI_back h1).symm⟩
  have : ((x.toNatClampNeg : Nat) : Int) = x.toInt := Int.toNat_of_nonneg h1
  omega
theorem iin_nI {j n : Nat} (h : j < n) (hn : n < 2 ^ 31) : iin (nI j) n := by
  have := nI_toInt (n := j) (by omega)
  exact ⟨by omega, by omega⟩
theorem MH_of {h : aH} {w tp : Nat → Int32} {tl : Nat} {im hi : Nat → Int32} {fk fp : Int32} {mn wd : Nat → Int32} {nu : Nat → Int64} (HM : RepM h w tp tl im hi fk fp mn wd nu) : MH h w := by
  obtain ⟨th, sz, at9, fr, tk, vl, il, up, lo, fv, fs, sa9, tn, le, mv, q0, q1, q2, q3, q4, q5, q6, q7, q8, q9, q10, q11, q12, q13, q14⟩ := id HM
  exact ⟨_, _, _, _, _, _, _, _, _, _, _, _, q0, q1⟩
theorem Wf_n {w : Nat → Int32} (hWf : WfW w) : (w 1 = nI (nvW w) ∧ nvW w ≤ 24) ∧ (w 2 = nI (nrW w) ∧ nrW w ≤ 40) ∧ (w 3 = nI (ntW w) ∧ ntW w ≤ 10) := ⟨hWf.1.2.1, hWf.1.2.2.1, hWf.1.2.2.2.1⟩
theorem m_isVariant (d : Nat) (h : aH) (w : Nat → Int32) (H : MH h w) (hWf : WfW w) (i a : Int32) : Rn (d + 3) 154 [.ref (71), .int (i), .int (a)] h (some (.int (bI (iin i (ntW w) ∧ iin a (vaW w i.toNatClampNeg))))) h 0 0 := by
  have HM := H
  obtain ⟨th, tp, sz, at9, fr, tk, vl, fk, fp, il, up, lo, hM, hW⟩ := H
  obtain ⟨⟨e1, e2⟩, ⟨e3, e4⟩, ⟨e5, e6⟩⟩ := Wf_n hWf
  refine Rn_of (by decide) (Nat.le_of_ble_eq_true rfl) ?_
  show Wn _ _ 0 [(0, .ref (71)), (1, .int (i)), (2, .int (a))] [] _ _
  refine wn_ld (pc' := 1) (q := 0) (kin := 2) (v := .ref (71)) rfl (fun _ _ _ => rfl) rfl rfl ?_
  refine wn_ld (pc' := 2) (q := 1) (kin := 0) (v := .int (i)) rfl (fun _ _ _ => rfl) rfl rfl ?_
  refine wn_virI (pc' := 5) rfl rfl (by decide) rfl rfl hM (Nat.le_of_ble_eq_true rfl) (m_isItem _ _ w HM _ e5 (by omega) _) ?_
  refine wn_ifeqB (t := 30) (f := 8) rfl rfl rfl (fun c1 => ?_) (fun c1 => ?_)
  · have c1 : ¬ (iin i (ntW w)) := c1
    refine wn_ic (pc' := 31) (w := nI 0) rfl rfl (by decide) ?_
    refine wn_iret rfl rfl (by decide) ⟨?_, rfl⟩
    exact congrArg (fun z => some (Value.int z)) (bI_f0 (fun q => c1 q.1))
  · have c1 : (iin i (ntW w)) := c1
    obtain ⟨i9, hi9, rfl⟩ := iin_of c1
    refine wn_ld (pc' := 9) (q := 2) (kin := 0) (v := .int (a)) rfl (fun _ _ _ => rfl) rfl rfl ?_
    refine wn_pu (pc' := 10) (st' := [.long (Int32.toInt64 (a))]) rfl (fun _ _ _ => rfl) rfl rfl ?_
    refine wn_pu (pc' := 11) (st' := .long (lN 0) :: [.long (Int32.toInt64 (a))]) rfl (fun _ _ _ => rfl) rfl rfl ?_
    refine wn_ld (pc' := 12) (q := 0) (kin := 2) (v := .ref (71)) rfl (fun _ _ _ => rfl) rfl rfl ?_
    refine wn_ld (pc' := 13) (q := 1) (kin := 0) (v := .int (nI (i9))) rfl (fun _ _ _ => rfl) rfl rfl ?_
    refine wn_ic (pc' := 14) (w := nI 0) rfl rfl (by decide) ?_
    refine wn_virI (pc' := 17) rfl rfl (by decide) rfl rfl hM (Nat.le_of_ble_eq_true rfl) (m_ofItem _ _ w HM i9 0 (by omega)) ?_
    rw [show 176 + 4 * i9 + 0 = 176 + 4 * i9 by omega]
    rw [(hWf.2.2.2.1 i9 hi9).1.1]
    refine wn_ic (pc' := 18) (w := nI 1) rfl rfl (by decide) ?_
    refine wn_pu (pc' := 19) (st' := [.int ((nI (vaW w i9)) - (nI (1))), .long (lN 0), .long (Int32.toInt64 (a))]) rfl (fun _ _ _ => rfl) rfl rfl ?_
    refine wn_pu (pc' := 20) (st' := [.long (Int32.toInt64 ((nI (vaW w i9)) - (nI (1)))), .long (lN 0), .long (Int32.toInt64 (a))]) rfl (fun _ _ _ => rfl) rfl rfl ?_
    refine wn_staI (pc' := 23) rfl rfl (by decide) rfl rfl (Nat.le_of_ble_eq_true rfl) (m_in _ _ _ _ _) ?_
    refine wn_ifeqB (t := 30) (f := 26) rfl rfl rfl (fun c2 => ?_) (fun c2 => ?_)
    · have c2 : ¬ ((lN 0).toInt ≤ (Int32.toInt64 (a)).toInt ∧ (Int32.toInt64 (a)).toInt ≤ (Int32.toInt64 ((nI (vaW w i9)) - (nI (1)))).toInt) := c2
      refine wn_ic (pc' := 31) (w := nI 0) rfl rfl (by decide) ?_
      refine wn_iret rfl rfl (by decide) ⟨?_, rfl⟩
      refine congrArg (fun z => some (Value.int z)) (bI_f0 ?_)
      rw [nI_clamp (by omega)]
      rw [i2l_int, i2l_int, pred_int (by have := (hWf.2.2.2.1 i9 hi9).1; omega)] at c2
      have e7 : (lN 0).toInt = 0 := by decide
      have e8 := iin_nI hi9 (by omega)
      unfold iin at *
      omega
    · have c2 : ((lN 0).toInt ≤ (Int32.toInt64 (a)).toInt ∧ (Int32.toInt64 (a)).toInt ≤ (Int32.toInt64 ((nI (vaW w i9)) - (nI (1)))).toInt) := c2
      refine wn_ic (pc' := 27) (w := nI 1) rfl rfl (by decide) ?_
      refine wn_jp (pc' := 31) rfl rfl ?_
      refine wn_iret rfl rfl (by decide) ⟨?_, rfl⟩
      refine congrArg (fun z => some (Value.int z)) (bI_t1 ?_)
      rw [nI_clamp (by omega)]
      rw [i2l_int, i2l_int, pred_int (by have := (hWf.2.2.2.1 i9 hi9).1; omega)] at c2
      have e7 : (lN 0).toInt = 0 := by decide
      have e8 := iin_nI hi9 (by omega)
      unfold iin at *
      omega
theorem m_notesOf (d : Nat) (h : aH) (w : Nat → Int32) (H : MH h w) (v i a : Nat) (hv : (v * 10 + i) * 5 + a < 1200) : Rn (d + 1) 218 [.ref (71), .int (nI (v)), .int (nI (i)), .int (nI (a))] h (some (.int (w (1476 + (v * 10 + i) * 5 + a)))) h 0 0 := by
  have HM := H
  obtain ⟨th, tp, sz, at9, fr, tk, vl, fk, fp, il, up, lo, hM, hW⟩ := H
  refine Rn_of (by decide) (Nat.le_of_ble_eq_true rfl) ?_
  show Wn _ _ 0 [(0, .ref (71)), (1, .int (nI (v))), (2, .int (nI (i))), (3, .int (nI (a)))] [] _ _
  refine wn_ld (pc' := 1) (q := 0) (kin := 2) (v := .ref (71)) rfl (fun _ _ _ => rfl) rfl rfl ?_
  refine wn_get (pc' := 4) (v := .ref (72)) rfl rfl hM rfl ?_
  refine wn_sp (pc' := 7) (w := nI 1476) rfl rfl (by decide) ?_
  refine wn_ld (pc' := 8) (q := 1) (kin := 0) (v := .int (nI (v))) rfl (fun _ _ _ => rfl) rfl rfl ?_
  refine wn_bp (pc' := 10) (w := nI 10) rfl rfl (by decide) ?_
  refine wn_mulN (pc' := 11) rfl rfl ?_
  refine wn_ld (pc' := 12) (q := 2) (kin := 0) (v := .int (nI (i))) rfl (fun _ _ _ => rfl) rfl rfl ?_
  refine wn_addN (pc' := 13) rfl rfl ?_
  refine wn_ic (pc' := 14) (w := nI 5) rfl rfl (by decide) ?_
  refine wn_mulN (pc' := 15) rfl rfl ?_
  refine wn_addN (pc' := 16) rfl rfl ?_
  refine wn_ld (pc' := 17) (q := 3) (kin := 0) (v := .int (nI (a))) rfl (fun _ _ _ => rfl) rfl rfl ?_
  refine wn_addN (pc' := 18) rfl rfl ?_
  refine wn_iald (pc' := 19) (j := (1476 + (((v * 10) + i) * 5)) + a) rfl rfl hW rfl (by omega) (by decide) ?_
  refine wn_iret rfl rfl rfl ⟨?_, rfl⟩
  rfl
noncomputable def ntdA (w : Nat → Int32) (v i a : Int32) : Int32 := @ite Int32 (iin v (nvW w) ∧ iin i (ntW w) ∧ iin a (vaW w i.toNatClampNeg)) (Classical.propDecidable _) (w (1476 + (v.toNatClampNeg * 10 + i.toNatClampNeg) * 5 + a.toNatClampNeg)) (-1)
theorem m_noted (d : Nat) (h : aH) (w : Nat → Int32) (H : MH h w) (hWf : WfW w) (v i a : Int32) : Rn (d + 4) 221 [.ref (71), .int (v), .int (i), .int (a)] h (some (.int (ntdA w v i a))) h 0 0 := by
  have HM := H
  obtain ⟨th, tp, sz, at9, fr, tk, vl, fk, fp, il, up, lo, hM, hW⟩ := H
  obtain ⟨⟨e1, e2⟩, ⟨e3, e4⟩, ⟨e5, e6⟩⟩ := Wf_n hWf
  have e7 : ∀ x, x < ntW w → vaW w x ≤ 5 := fun x hx => (hWf.2.2.2.1 x hx).1.2.2
  refine Rn_of (by decide) (Nat.le_of_ble_eq_true rfl) ?_
  show Wn _ _ 0 [(0, .ref (71)), (1, .int (v)), (2, .int (i)), (3, .int (a))] [] _ _
  refine wn_ld (pc' := 1) (q := 0) (kin := 2) (v := .ref (71)) rfl (fun _ _ _ => rfl) rfl rfl ?_
  refine wn_ld (pc' := 2) (q := 1) (kin := 0) (v := .int (v)) rfl (fun _ _ _ => rfl) rfl rfl ?_
  refine wn_virI (pc' := 5) rfl rfl (by decide) rfl rfl hM (Nat.le_of_ble_eq_true rfl) (m_isVillage _ _ w HM _ e1 (by omega) _) ?_
  refine wn_ifeqB (t := 27) (f := 8) rfl rfl rfl (fun c1 => ?_) (fun c1 => ?_)
  · have c1 : ¬ (iin v (nvW w)) := c1
    refine wn_ic (pc' := 28) (w := -1) rfl rfl (by decide) ?_
    refine wn_iret rfl rfl rfl ⟨?_, rfl⟩
    unfold ntdA
    rw [if_neg (fun q => c1 q.1)]
  · have c1 : (iin v (nvW w)) := c1
    obtain ⟨v9, hv9, rfl⟩ := iin_of c1
    refine wn_ld (pc' := 9) (q := 0) (kin := 2) (v := .ref (71)) rfl (fun _ _ _ => rfl) rfl rfl ?_
    refine wn_ld (pc' := 10) (q := 2) (kin := 0) (v := .int (i)) rfl (fun _ _ _ => rfl) rfl rfl ?_
    refine wn_ld (pc' := 11) (q := 3) (kin := 0) (v := .int (a)) rfl (fun _ _ _ => rfl) rfl rfl ?_
    refine wn_virI (pc' := 14) rfl rfl (by decide) rfl rfl hM (Nat.le_of_ble_eq_true rfl) (m_isVariant _ _ w HM hWf _ _) ?_
    refine wn_ifeqB (t := 27) (f := 17) rfl rfl rfl (fun c2 => ?_) (fun c2 => ?_)
    · have c2 : ¬ (iin i (ntW w) ∧ iin a (vaW w i.toNatClampNeg)) := c2
      refine wn_ic (pc' := 28) (w := -1) rfl rfl (by decide) ?_
      refine wn_iret rfl rfl rfl ⟨?_, rfl⟩
      unfold ntdA
      rw [if_neg (fun q => c2 q.2)]
    · have c2 : (iin i (ntW w) ∧ iin a (vaW w i.toNatClampNeg)) := c2
      obtain ⟨i9, hi9, rfl⟩ := iin_of c2.1
      obtain ⟨a9, ha9, rfl⟩ := iin_of (by simpa only [nI_clamp (show i9 < 2 ^ 31 by omega)] using c2.2)
      have e8 := e7 i9 hi9
      refine wn_ld (pc' := 18) (q := 0) (kin := 2) (v := .ref (71)) rfl (fun _ _ _ => rfl) rfl rfl ?_
      refine wn_ld (pc' := 19) (q := 1) (kin := 0) (v := .int (nI (v9))) rfl (fun _ _ _ => rfl) rfl rfl ?_
      refine wn_ld (pc' := 20) (q := 2) (kin := 0) (v := .int (nI (i9))) rfl (fun _ _ _ => rfl) rfl rfl ?_
      refine wn_ld (pc' := 21) (q := 3) (kin := 0) (v := .int (nI (a9))) rfl (fun _ _ _ => rfl) rfl rfl ?_
      refine wn_virI (pc' := 24) rfl rfl (by decide) rfl rfl hM (Nat.le_of_ble_eq_true rfl) (m_notesOf _ _ w HM v9 i9 a9 (by omega)) ?_
      refine wn_jp (pc' := 28) rfl rfl ?_
      refine wn_iret rfl rfl rfl ⟨?_, rfl⟩
      unfold ntdA
      rw [if_pos ⟨c1, c2⟩, nI_clamp (by omega), nI_clamp (by omega), nI_clamp (by omega)]
