/-! THE REFERENCE'S MAP: cell, otherBy, nearBy, partOf -/
theorem nI_m1 {n : Nat} (h : n < 2 ^ 31) : ¬ nI n = -1 := fun q => by
  have e := congrArg Int32.toInt q
  rw [nI_toInt h] at e
  have : (-1 : Int32).toInt = -1 := by decide
  omega
def SaY (h : aH) (w : Nat → Int32) (y : Nat) (S : Nat → Nat → Nat) : Prop := ∃ sa9 : Nat → Int32, isI h 78 14640 sa9 ∧ ∀ v i, v < nvW w → i < ntW w → sa9 ((y * 24 + v) * 10 + i) = nI (S v i)
theorem m_cell (d : Nat) (h : aH) (y v i : Nat) : Rn (d + 1) 174 [.int (nI (y)), .int (nI (v)), .int (nI (i))] h (some (.int (nI ((y * 24 + v) * 10 + i)))) h 0 0 := by
  refine Rn_of (by decide) (Nat.le_of_ble_eq_true rfl) ?_
  show Wn _ _ 0 [(0, .int (nI (y))), (1, .int (nI (v))), (2, .int (nI (i)))] [] _ _
  refine wn_ld (pc' := 1) (q := 0) (kin := 0) (v := .int (nI (y))) rfl (fun _ _ _ => rfl) rfl rfl ?_
  refine wn_bp (pc' := 3) (w := nI 24) rfl rfl (by decide) ?_
  refine wn_mulN (pc' := 4) rfl rfl ?_
  refine wn_ld (pc' := 5) (q := 1) (kin := 0) (v := .int (nI (v))) rfl (fun _ _ _ => rfl) rfl rfl ?_
  refine wn_addN (pc' := 6) rfl rfl ?_
  refine wn_bp (pc' := 8) (w := nI 10) rfl rfl (by decide) ?_
  refine wn_mulN (pc' := 9) rfl rfl ?_
  refine wn_ld (pc' := 10) (q := 2) (kin := 0) (v := .int (nI (i))) rfl (fun _ _ _ => rfl) rfl rfl ?_
  refine wn_addN (pc' := 11) rfl rfl ?_
  refine wn_iret rfl rfl rfl ⟨?_, rfl⟩
  exact congrArg (fun z => some (Value.int z)) (rfl)

theorem m_otherBy (d : Nat) (h : aH) (w : Nat → Int32) (hWf : WfW w) (HM : MH h w) (r v : Nat) (hr : r < nrW w) (hv : v < nvW w) : Rn (d + 2) 175 [.ref (71), .int (nI (r)), .int (nI (v))] h (some (.int (oI (othW w r v)))) h 0 0 := by
  obtain ⟨⟨e1, e2⟩, ⟨e3, e4⟩, ⟨e5, e6⟩⟩ := Wf_n hWf
  obtain ⟨⟨e7, e8⟩, ⟨e9, e10⟩⟩ := Wf_m hWf
  obtain ⟨th, tp, sz, at9, fr, tk, vl, fk, fp, il, up, lo, hM, hW⟩ := id HM
  refine Rn_of (by decide) (Nat.le_of_ble_eq_true rfl) ?_
  show Wn _ _ 0 [(0, .ref (71)), (1, .int (nI (r))), (2, .int (nI (v)))] [] _ _
  refine wn_ld (pc' := 1) (q := 0) (kin := 2) (v := .ref (71)) rfl (fun _ _ _ => rfl) rfl rfl ?_
  refine wn_ld (pc' := 2) (q := 1) (kin := 0) (v := .int (nI (r))) rfl (fun _ _ _ => rfl) rfl rfl ?_
  refine wn_ic (pc' := 3) (w := nI 0) rfl rfl (by decide) ?_
  have := wf_rdb hWf (show r < nrW w by omega)
  refine wn_virI (pc' := 6) rfl rfl (by decide) rfl rfl hM (Nat.le_of_ble_eq_true rfl) (m_ofRoad _ _ w HM r 0 (by omega)) ?_
  rw [show 56 + 3 * r + 0 = 56 + 3 * r by omega]
  rw [wf_rda hWf (show r < nrW w by omega)]
  refine wn_ld (pc' := 7) (q := 2) (kin := 0) (v := .int (nI (v))) rfl (fun _ _ _ => rfl) rfl rfl ?_
  refine wn_icmpN (t := 19) (f := 10) rfl rfl rfl (by omega) (by omega) (fun c1 => ?_) (fun c1 => ?_)
  · have c1 : ¬ (rdA w r) = v := c1
    refine wn_ld (pc' := 20) (q := 0) (kin := 2) (v := .ref (71)) rfl (fun _ _ _ => rfl) rfl rfl ?_
    refine wn_ld (pc' := 21) (q := 1) (kin := 0) (v := .int (nI (r))) rfl (fun _ _ _ => rfl) rfl rfl ?_
    refine wn_ic (pc' := 22) (w := nI 1) rfl rfl (by decide) ?_
    have := wf_rdb hWf (show r < nrW w by omega)
    refine wn_virI (pc' := 25) rfl rfl (by decide) rfl rfl hM (Nat.le_of_ble_eq_true rfl) (m_ofRoad _ _ w HM r 1 (by omega)) ?_
    rw [show 56 + 3 * r + 1 = 57 + 3 * r by omega]
    rw [wf_rdB hWf (show r < nrW w by omega)]
    refine wn_ld (pc' := 26) (q := 2) (kin := 0) (v := .int (nI (v))) rfl (fun _ _ _ => rfl) rfl rfl ?_
    refine wn_icmpN (t := 38) (f := 29) rfl rfl rfl (by omega) (by omega) (fun c2 => ?_) (fun c2 => ?_)
    · have c2 : ¬ (rdB w r) = v := c2
      refine wn_ic (pc' := 39) (w := -1) rfl rfl (by decide) ?_
      refine wn_iret rfl rfl rfl ⟨?_, rfl⟩
      refine congrArg (fun z => some (Value.int z)) ?_
      unfold othW
      rw [if_neg c1, if_neg c2]; rfl
    · have c2 : (rdB w r) = v := c2
      refine wn_ld (pc' := 30) (q := 0) (kin := 2) (v := .ref (71)) rfl (fun _ _ _ => rfl) rfl rfl ?_
      refine wn_ld (pc' := 31) (q := 1) (kin := 0) (v := .int (nI (r))) rfl (fun _ _ _ => rfl) rfl rfl ?_
      refine wn_ic (pc' := 32) (w := nI 0) rfl rfl (by decide) ?_
      have := wf_rdb hWf (show r < nrW w by omega)
      refine wn_virI (pc' := 35) rfl rfl (by decide) rfl rfl hM (Nat.le_of_ble_eq_true rfl) (m_ofRoad _ _ w HM r 0 (by omega)) ?_
      rw [show 56 + 3 * r + 0 = 56 + 3 * r by omega]
      rw [wf_rda hWf (show r < nrW w by omega)]
      refine wn_jp (pc' := 39) rfl rfl ?_
      refine wn_iret rfl rfl rfl ⟨?_, rfl⟩
      refine congrArg (fun z => some (Value.int z)) ?_
      unfold othW
      rw [if_neg c1, if_pos c2]; rfl
  · have c1 : (rdA w r) = v := c1
    refine wn_ld (pc' := 11) (q := 0) (kin := 2) (v := .ref (71)) rfl (fun _ _ _ => rfl) rfl rfl ?_
    refine wn_ld (pc' := 12) (q := 1) (kin := 0) (v := .int (nI (r))) rfl (fun _ _ _ => rfl) rfl rfl ?_
    refine wn_ic (pc' := 13) (w := nI 1) rfl rfl (by decide) ?_
    have := wf_rdb hWf (show r < nrW w by omega)
    refine wn_virI (pc' := 16) rfl rfl (by decide) rfl rfl hM (Nat.le_of_ble_eq_true rfl) (m_ofRoad _ _ w HM r 1 (by omega)) ?_
    rw [show 56 + 3 * r + 1 = 57 + 3 * r by omega]
    rw [wf_rdB hWf (show r < nrW w by omega)]
    refine wn_jp (pc' := 39) rfl rfl ?_
    refine wn_iret rfl rfl rfl ⟨?_, rfl⟩
    refine congrArg (fun z => some (Value.int z)) ?_
    unfold othW
    rw [if_pos c1]; rfl

theorem m_nearBy0 (d : Nat) (h : aH) (w : Nat → Int32) (hWf : WfW w) (HM : MH h w) (S : Nat → Nat → Nat) (y : Nat) (hy : y ≤ 60) (HS : SaY h w y S) (hS : ∀ v i, v < nvW w → i < ntW w → S v i < 5) (v i a : Nat) (hv : v < nvW w) (hi : i < ntW w) (ha : a < 5) : Rn (d + 3) 176 [.ref (71), .int (nI (v)), .int (nI (i)), .int (nI (y)), .int (nI (a)), .int (nI (0))] h (some (.int (nI (neW w S v i a (nrW w))))) h 0 0 := by
  obtain ⟨⟨e1, e2⟩, ⟨e3, e4⟩, ⟨e5, e6⟩⟩ := Wf_n hWf
  obtain ⟨⟨e7, e8⟩, ⟨e9, e10⟩⟩ := Wf_m hWf
  obtain ⟨th, tp, sz, at9, fr, tk, vl, fk, fp, il, up, lo, hM, hW⟩ := id HM
  obtain ⟨sa9, s1, s2⟩ := id HS
  refine Rn_of (by decide) (Nat.le_of_ble_eq_true rfl) ?_
  show Wn _ _ 0 [(0, .ref (71)), (1, .int (nI (v))), (2, .int (nI (i))), (3, .int (nI (y))), (4, .int (nI (a))), (5, .int (nI (0)))] [] _ _
  refine wn_ic (pc' := 1) (w := nI 0) rfl rfl (by decide) ?_
  refine wn_st (pc' := 3) (q := 6) (kin := 0) (lv' := [(0, .ref (71)), (1, .int (nI (v))), (2, .int (nI (i))), (3, .int (nI (y))), (4, .int (nI (a))), (5, .int (nI (0))), (6, .int (nI (0)))]) rfl (fun _ _ _ => rfl) rfl (Nat.le_of_ble_eq_true rfl) rfl ?_
  refine wn_ic (pc' := 4) (w := nI 0) rfl rfl (by decide) ?_
  refine wn_st (pc' := 6) (q := 7) (kin := 0) (lv' := [(0, .ref (71)), (1, .int (nI (v))), (2, .int (nI (i))), (3, .int (nI (y))), (4, .int (nI (a))), (5, .int (nI (0))), (6, .int (nI (0))), (7, .int (nI (0)))]) rfl (fun _ _ _ => rfl) rfl (Nat.le_of_ble_eq_true rfl) rfl ?_
  refine wn_ic (pc' := 7) (w := nI 0) rfl rfl (by decide) ?_
  refine wn_st (pc' := 9) (q := 8) (kin := 0) (lv' := [(0, .ref (71)), (1, .int (nI (v))), (2, .int (nI (i))), (3, .int (nI (y))), (4, .int (nI (a))), (5, .int (nI (0))), (6, .int (nI (0))), (7, .int (nI (0))), (8, .int (nI (0)))]) rfl (fun _ _ _ => rfl) rfl (Nat.le_of_ble_eq_true rfl) rfl ?_
  have lp1 : ∀ (n9 : Nat) (r : Nat) (hd : Int32), (nrW w) + 1 ≤ r + n9 → r ≤ nrW w → Wn (Rn (d + 2)) 176 9 [(0, .ref (71)), (1, .int (nI (v))), (2, .int (nI (i))), (3, .int (nI (y))), (4, .int (nI (a))), (5, .int (nI (0))), (6, .int (nI (neW w S v i a r))), (7, .int (hd)), (8, .int (nI (r)))] [] (h) (fun r9 h9 => r9 = (some (.int (nI (neW w S v i a (nrW w))))) ∧ h9 = h) := by
    intro n9
    induction n9 with
    | zero => intro r hd hm9 hr; exfalso; omega
    | succ n9 ih =>
      intro r hd hm9 hr
      have := neW_le w S v i a r
      refine wn_ld (pc' := 11) (q := 8) (kin := 0) (v := .int (nI (r))) rfl (fun _ _ _ => rfl) rfl rfl ?_
      refine wn_ld (pc' := 12) (q := 0) (kin := 2) (v := .ref (71)) rfl (fun _ _ _ => rfl) rfl rfl ?_
      refine wn_get (pc' := 15) (v := .ref (72)) rfl rfl hM rfl ?_
      refine wn_ic (pc' := 16) (w := nI 2) rfl rfl (by decide) ?_
      refine wn_ialdv (pc' := 17) (j := 2) (v := (nI (nrW w))) rfl rfl hW rfl (by omega) (by decide) (e3) ?_
      refine wn_icmpN (t := 103) (f := 20) rfl rfl rfl (by omega) (by omega) (fun c2 => ?_) (fun c2 => ?_)
      · have c2 : (nrW w) ≤ r := c2
        obtain rfl : r = nrW w := by omega
        refine wn_ld (pc' := 105) (q := 6) (kin := 0) (v := .int (nI (neW w S v i a (nrW w)))) rfl (fun _ _ _ => rfl) rfl rfl ?_
        refine wn_iret rfl rfl rfl ⟨?_, rfl⟩
        exact congrArg (fun z => some (Value.int z)) (rfl)
      · have c2 : r < (nrW w) := c2
        refine wn_ld (pc' := 21) (q := 0) (kin := 2) (v := .ref (71)) rfl (fun _ _ _ => rfl) rfl rfl ?_
        refine wn_ld (pc' := 23) (q := 8) (kin := 0) (v := .int (nI (r))) rfl (fun _ _ _ => rfl) rfl rfl ?_
        refine wn_ld (pc' := 24) (q := 1) (kin := 0) (v := .int (nI (v))) rfl (fun _ _ _ => rfl) rfl rfl ?_
        refine wn_virI (pc' := 27) rfl rfl (by decide) rfl rfl hM (Nat.le_of_ble_eq_true rfl) (m_otherBy _ _ w hWf HM r v (by omega) (by omega)) ?_
        cases ho9 : othW w r v with
        | none =>
          show Wn _ _ 27 _ [.int (-1)] _ _
          refine wn_st (pc' := 29) (q := 9) (kin := 0) (lv' := [(0, .ref (71)), (1, .int (nI (v))), (2, .int (nI (i))), (3, .int (nI (y))), (4, .int (nI (a))), (5, .int (nI (0))), (6, .int (nI (neW w S v i a r))), (7, .int (hd)), (8, .int (nI (r))), (9, .int (-1))]) rfl (fun _ _ _ => rfl) rfl (Nat.le_of_ble_eq_true rfl) rfl ?_
          refine wn_ld (pc' := 31) (q := 9) (kin := 0) (v := .int (-1)) rfl (fun _ _ _ => rfl) rfl rfl ?_
          refine wn_ic (pc' := 32) (w := -1) rfl rfl (by decide) ?_
          refine wn_icmp (t := 97) (f := 35) rfl rfl rfl (fun c3 => ?_) (fun c3 => ?_)
          · have c3 : ((-1) : Int32) = ((-1)) := c3
            refine wn_incN (n := 1) (pc' := 100) (lv' := [(0, .ref (71)), (1, .int (nI (v))), (2, .int (nI (i))), (3, .int (nI (y))), (4, .int (nI (a))), (5, .int (nI (0))), (6, .int (nI (neW w S v i a r))), (7, .int (hd)), (8, .int (nI (r + 1))), (9, .int (-1))]) rfl rfl rfl (Nat.le_of_ble_eq_true rfl) rfl (by decide) ?_
            refine wn_jp (pc' := 9) rfl rfl ?_
            refine wn_weak (lv' := [(0, .ref (71)), (1, .int (nI (v))), (2, .int (nI (i))), (3, .int (nI (y))), (4, .int (nI (a))), (5, .int (nI (0))), (6, .int (nI (neW w S v i a r))), (7, .int (hd)), (8, .int (nI (r + 1)))]) (by simp) ?_
            have z9 := ih ((r + 1)) hd (by omega) (by omega)
            rw [show (nI (neW w S v i a ((r + 1)))) = (nI (neW w S v i a r)) from (by exact congrArg nI (neW_n ho9))] at z9
            exact z9
          · have c3 : ¬ ((-1) : Int32) = ((-1)) := c3
            exact absurd rfl c3
        | some o =>
          have ho8 := oth_is hWf (show r < nrW w by omega) ho9
          show Wn _ _ 27 _ [.int (nI (o))] _ _
          refine wn_st (pc' := 29) (q := 9) (kin := 0) (lv' := [(0, .ref (71)), (1, .int (nI (v))), (2, .int (nI (i))), (3, .int (nI (y))), (4, .int (nI (a))), (5, .int (nI (0))), (6, .int (nI (neW w S v i a r))), (7, .int (hd)), (8, .int (nI (r))), (9, .int (nI (o)))]) rfl (fun _ _ _ => rfl) rfl (Nat.le_of_ble_eq_true rfl) rfl ?_
          refine wn_ld (pc' := 31) (q := 9) (kin := 0) (v := .int (nI (o))) rfl (fun _ _ _ => rfl) rfl rfl ?_
          refine wn_ic (pc' := 32) (w := -1) rfl rfl (by decide) ?_
          refine wn_icmp (t := 97) (f := 35) rfl rfl rfl (fun c4 => ?_) (fun c4 => ?_)
          · have c4 : ((nI (o))) = ((-1)) := c4
            exact absurd c4 (nI_m1 (by omega))
          · have c4 : ¬ ((nI (o))) = ((-1)) := c4
            refine wn_ld (pc' := 36) (q := 0) (kin := 2) (v := .ref (71)) rfl (fun _ _ _ => rfl) rfl rfl ?_
            refine wn_get (pc' := 39) (v := .ref (78)) rfl rfl hM rfl ?_
            refine wn_ld (pc' := 40) (q := 3) (kin := 0) (v := .int (nI (y))) rfl (fun _ _ _ => rfl) rfl rfl ?_
            refine wn_ld (pc' := 42) (q := 9) (kin := 0) (v := .int (nI (o))) rfl (fun _ _ _ => rfl) rfl rfl ?_
            refine wn_ld (pc' := 43) (q := 2) (kin := 0) (v := .int (nI (i))) rfl (fun _ _ _ => rfl) rfl rfl ?_
            refine wn_staI (pc' := 46) rfl rfl (by decide) rfl rfl (Nat.le_of_ble_eq_true rfl) (m_cell _ _ y o i) ?_
            have := hS o i (by omega) (by omega)
            refine wn_ialdv (pc' := 47) (j := (y * 24 + o) * 10 + i) (v := (nI (S o i))) rfl rfl s1 rfl (by omega) (by decide) (s2 o i (by omega) (by omega)) ?_
            refine wn_ld (pc' := 49) (q := 4) (kin := 0) (v := .int (nI (a))) rfl (fun _ _ _ => rfl) rfl rfl ?_
            refine wn_icmpN (t := 55) (f := 52) rfl rfl rfl (by omega) (by omega) (fun c5 => ?_) (fun c5 => ?_)
            · have c5 : (S o i) = a := c5
              refine wn_ld (pc' := 57) (q := 5) (kin := 0) (v := .int (nI (0))) rfl (fun _ _ _ => rfl) rfl rfl ?_
              refine wn_ifN (t := 66) (f := 60) rfl rfl rfl (by omega) (fun c6 => ?_) (fun c6 => ?_)
              · have c6 : ¬ 0 = 0 := c6
                exact absurd c6 (by decide)
              · have c6 : 0 = 0 := c6
                refine wn_incN (n := 1) (pc' := 63) (lv' := [(0, .ref (71)), (1, .int (nI (v))), (2, .int (nI (i))), (3, .int (nI (y))), (4, .int (nI (a))), (5, .int (nI (0))), (6, .int (nI (neW w S v i a r + 1))), (7, .int (hd)), (8, .int (nI (r))), (9, .int (nI (o)))]) rfl rfl rfl (Nat.le_of_ble_eq_true rfl) rfl (by decide) ?_
                refine wn_jp (pc' := 88) rfl rfl ?_
                refine wn_ld (pc' := 90) (q := 7) (kin := 0) (v := .int (hd)) rfl (fun _ _ _ => rfl) rfl rfl ?_
                refine wn_ic (pc' := 91) (w := nI 1) rfl rfl (by decide) ?_
                refine wn_ld (pc' := 93) (q := 9) (kin := 0) (v := .int (nI (o))) rfl (fun _ _ _ => rfl) rfl rfl ?_
                refine wn_pu (pc' := 94) (st' := [.int ((nI (1)) <<< ((nI (o)) &&& 31)), .int (hd)]) rfl (fun _ _ _ => rfl) rfl rfl ?_
                refine wn_pu (pc' := 95) (st' := [.int ((hd) ||| ((nI (1)) <<< ((nI (o)) &&& 31)))]) rfl (fun _ _ _ => rfl) rfl rfl ?_
                refine wn_st (pc' := 97) (q := 7) (kin := 0) (lv' := [(0, .ref (71)), (1, .int (nI (v))), (2, .int (nI (i))), (3, .int (nI (y))), (4, .int (nI (a))), (5, .int (nI (0))), (6, .int (nI (neW w S v i a r + 1))), (7, .int ((hd) ||| ((nI (1)) <<< ((nI (o)) &&& 31)))), (8, .int (nI (r))), (9, .int (nI (o)))]) rfl (fun _ _ _ => rfl) rfl (Nat.le_of_ble_eq_true rfl) rfl ?_
                refine wn_incN (n := 1) (pc' := 100) (lv' := [(0, .ref (71)), (1, .int (nI (v))), (2, .int (nI (i))), (3, .int (nI (y))), (4, .int (nI (a))), (5, .int (nI (0))), (6, .int (nI (neW w S v i a r + 1))), (7, .int ((hd) ||| ((nI (1)) <<< ((nI (o)) &&& 31)))), (8, .int (nI (r + 1))), (9, .int (nI (o)))]) rfl rfl rfl (Nat.le_of_ble_eq_true rfl) rfl (by decide) ?_
                refine wn_jp (pc' := 9) rfl rfl ?_
                refine wn_weak (lv' := [(0, .ref (71)), (1, .int (nI (v))), (2, .int (nI (i))), (3, .int (nI (y))), (4, .int (nI (a))), (5, .int (nI (0))), (6, .int (nI (neW w S v i a r + 1))), (7, .int ((hd) ||| ((nI (1)) <<< ((nI (o)) &&& 31)))), (8, .int (nI (r + 1)))]) (by simp) ?_
                have z9 := ih ((r + 1)) ((hd) ||| ((nI (1)) <<< ((nI (o)) &&& 31))) (by omega) (by omega)
                rw [show (nI (neW w S v i a ((r + 1)))) = (nI (neW w S v i a r + 1)) from (by exact congrArg nI (neW_t ho9 c5))] at z9
                exact z9
            · have c5 : ¬ (S o i) = a := c5
              refine wn_jp (pc' := 97) rfl rfl ?_
              refine wn_incN (n := 1) (pc' := 100) (lv' := [(0, .ref (71)), (1, .int (nI (v))), (2, .int (nI (i))), (3, .int (nI (y))), (4, .int (nI (a))), (5, .int (nI (0))), (6, .int (nI (neW w S v i a r))), (7, .int (hd)), (8, .int (nI (r + 1))), (9, .int (nI (o)))]) rfl rfl rfl (Nat.le_of_ble_eq_true rfl) rfl (by decide) ?_
              refine wn_jp (pc' := 9) rfl rfl ?_
              refine wn_weak (lv' := [(0, .ref (71)), (1, .int (nI (v))), (2, .int (nI (i))), (3, .int (nI (y))), (4, .int (nI (a))), (5, .int (nI (0))), (6, .int (nI (neW w S v i a r))), (7, .int (hd)), (8, .int (nI (r + 1)))]) (by simp) ?_
              have z9 := ih ((r + 1)) hd (by omega) (by omega)
              rw [show (nI (neW w S v i a ((r + 1)))) = (nI (neW w S v i a r)) from (by exact congrArg nI (neW_f ho9 c5))] at z9
              exact z9
  refine wn_weak (lv' := [(0, .ref (71)), (1, .int (nI (v))), (2, .int (nI (i))), (3, .int (nI (y))), (4, .int (nI (a))), (5, .int (nI (0))), (6, .int (nI (0))), (7, .int (nI (0))), (8, .int (nI (0)))]) (by simp) ?_
  have z9 := lp1 ((nrW w) + 1) 0 (nI 0) (by omega) (by omega)
  rw [show (nI (neW w S v i a 0)) = (nI (0)) from (by rfl)] at z9
  exact z9

theorem had_s {w : Nat → Int32} {S : Nat → Nat → Nat} {v i a r o : Nat} {hd : Int32} (ho : othW w r v = some o) (he : S o i = a) (h24 : o < 24) (hb : ∀ o, o < 24 → (bt hd o = true ↔ ∃ r9, r9 < r ∧ othW w r9 v = some o ∧ S o i = a)) : ∀ o9, o9 < 24 → (bt (hd ||| (nI 1 <<< (nI o &&& 31))) o9 = true ↔ ∃ r9, r9 < r + 1 ∧ othW w r9 v = some o9 ∧ S o9 i = a) := by
  intro o9 h9
  rw [b_or, bt_one (by omega) (by omega), Bool.or_eq_true, hb o9 h9, decide_eq_true_eq]
  constructor
  · rintro (⟨r9, h1, h2, h3⟩ | h)
    · exact ⟨r9, by omega, h2, h3⟩
    · subst h; exact ⟨r, by omega, ho, he⟩
  · rintro ⟨r9, h1, h2, h3⟩
    by_cases e : r9 = r
    · subst e; rw [ho] at h2; cases h2; exact Or.inr rfl
    · exact Or.inl ⟨r9, by omega, h2, h3⟩
theorem m_nearBy1 (d : Nat) (h : aH) (w : Nat → Int32) (hWf : WfW w) (HM : MH h w) (S : Nat → Nat → Nat) (y : Nat) (hy : y ≤ 60) (HS : SaY h w y S) (hS : ∀ v i, v < nvW w → i < ntW w → S v i < 5) (v i a : Nat) (hv : v < nvW w) (hi : i < ntW w) (ha : a < 5) : Rn (d + 3) 176 [.ref (71), .int (nI (v)), .int (nI (i)), .int (nI (y)), .int (nI (a)), .int (nI (1))] h (some (.int (nI (msW w S v i a (nrW w))))) h 0 0 := by
  obtain ⟨⟨e1, e2⟩, ⟨e3, e4⟩, ⟨e5, e6⟩⟩ := Wf_n hWf
  obtain ⟨⟨e7, e8⟩, ⟨e9, e10⟩⟩ := Wf_m hWf
  obtain ⟨th, tp, sz, at9, fr, tk, vl, fk, fp, il, up, lo, hM, hW⟩ := id HM
  obtain ⟨sa9, s1, s2⟩ := id HS
  refine Rn_of (by decide) (Nat.le_of_ble_eq_true rfl) ?_
  show Wn _ _ 0 [(0, .ref (71)), (1, .int (nI (v))), (2, .int (nI (i))), (3, .int (nI (y))), (4, .int (nI (a))), (5, .int (nI (1)))] [] _ _
  refine wn_ic (pc' := 1) (w := nI 0) rfl rfl (by decide) ?_
  refine wn_st (pc' := 3) (q := 6) (kin := 0) (lv' := [(0, .ref (71)), (1, .int (nI (v))), (2, .int (nI (i))), (3, .int (nI (y))), (4, .int (nI (a))), (5, .int (nI (1))), (6, .int (nI (0)))]) rfl (fun _ _ _ => rfl) rfl (Nat.le_of_ble_eq_true rfl) rfl ?_
  refine wn_ic (pc' := 4) (w := nI 0) rfl rfl (by decide) ?_
  refine wn_st (pc' := 6) (q := 7) (kin := 0) (lv' := [(0, .ref (71)), (1, .int (nI (v))), (2, .int (nI (i))), (3, .int (nI (y))), (4, .int (nI (a))), (5, .int (nI (1))), (6, .int (nI (0))), (7, .int (nI (0)))]) rfl (fun _ _ _ => rfl) rfl (Nat.le_of_ble_eq_true rfl) rfl ?_
  refine wn_ic (pc' := 7) (w := nI 0) rfl rfl (by decide) ?_
  refine wn_st (pc' := 9) (q := 8) (kin := 0) (lv' := [(0, .ref (71)), (1, .int (nI (v))), (2, .int (nI (i))), (3, .int (nI (y))), (4, .int (nI (a))), (5, .int (nI (1))), (6, .int (nI (0))), (7, .int (nI (0))), (8, .int (nI (0)))]) rfl (fun _ _ _ => rfl) rfl (Nat.le_of_ble_eq_true rfl) rfl ?_
  have lp1 : ∀ (n9 : Nat) (r : Nat) (hd : Int32), (nrW w) + 1 ≤ r + n9 → r ≤ nrW w → (∀ o, o < 24 → (bt hd o = true ↔ ∃ r9, r9 < r ∧ othW w r9 v = some o ∧ S o i = a)) → Wn (Rn (d + 2)) 176 9 [(0, .ref (71)), (1, .int (nI (v))), (2, .int (nI (i))), (3, .int (nI (y))), (4, .int (nI (a))), (5, .int (nI (1))), (6, .int (nI (msW w S v i a r))), (7, .int (hd)), (8, .int (nI (r)))] [] (h) (fun r9 h9 => r9 = (some (.int (nI (msW w S v i a (nrW w))))) ∧ h9 = h) := by
    intro n9
    induction n9 with
    | zero => intro r hd hm9 hr hb; exfalso; omega
    | succ n9 ih =>
      intro r hd hm9 hr hb
      have := msW_le hWf S v i a r hr
      refine wn_ld (pc' := 11) (q := 8) (kin := 0) (v := .int (nI (r))) rfl (fun _ _ _ => rfl) rfl rfl ?_
      refine wn_ld (pc' := 12) (q := 0) (kin := 2) (v := .ref (71)) rfl (fun _ _ _ => rfl) rfl rfl ?_
      refine wn_get (pc' := 15) (v := .ref (72)) rfl rfl hM rfl ?_
      refine wn_ic (pc' := 16) (w := nI 2) rfl rfl (by decide) ?_
      refine wn_ialdv (pc' := 17) (j := 2) (v := (nI (nrW w))) rfl rfl hW rfl (by omega) (by decide) (e3) ?_
      refine wn_icmpN (t := 103) (f := 20) rfl rfl rfl (by omega) (by omega) (fun c2 => ?_) (fun c2 => ?_)
      · have c2 : (nrW w) ≤ r := c2
        obtain rfl : r = nrW w := by omega
        refine wn_ld (pc' := 105) (q := 6) (kin := 0) (v := .int (nI (msW w S v i a (nrW w)))) rfl (fun _ _ _ => rfl) rfl rfl ?_
        refine wn_iret rfl rfl rfl ⟨?_, rfl⟩
        exact congrArg (fun z => some (Value.int z)) (rfl)
      · have c2 : r < (nrW w) := c2
        refine wn_ld (pc' := 21) (q := 0) (kin := 2) (v := .ref (71)) rfl (fun _ _ _ => rfl) rfl rfl ?_
        refine wn_ld (pc' := 23) (q := 8) (kin := 0) (v := .int (nI (r))) rfl (fun _ _ _ => rfl) rfl rfl ?_
        refine wn_ld (pc' := 24) (q := 1) (kin := 0) (v := .int (nI (v))) rfl (fun _ _ _ => rfl) rfl rfl ?_
        refine wn_virI (pc' := 27) rfl rfl (by decide) rfl rfl hM (Nat.le_of_ble_eq_true rfl) (m_otherBy _ _ w hWf HM r v (by omega) (by omega)) ?_
        cases ho9 : othW w r v with
        | none =>
          show Wn _ _ 27 _ [.int (-1)] _ _
          refine wn_st (pc' := 29) (q := 9) (kin := 0) (lv' := [(0, .ref (71)), (1, .int (nI (v))), (2, .int (nI (i))), (3, .int (nI (y))), (4, .int (nI (a))), (5, .int (nI (1))), (6, .int (nI (msW w S v i a r))), (7, .int (hd)), (8, .int (nI (r))), (9, .int (-1))]) rfl (fun _ _ _ => rfl) rfl (Nat.le_of_ble_eq_true rfl) rfl ?_
          refine wn_ld (pc' := 31) (q := 9) (kin := 0) (v := .int (-1)) rfl (fun _ _ _ => rfl) rfl rfl ?_
          refine wn_ic (pc' := 32) (w := -1) rfl rfl (by decide) ?_
          refine wn_icmp (t := 97) (f := 35) rfl rfl rfl (fun c3 => ?_) (fun c3 => ?_)
          · have c3 : ((-1) : Int32) = ((-1)) := c3
            refine wn_incN (n := 1) (pc' := 100) (lv' := [(0, .ref (71)), (1, .int (nI (v))), (2, .int (nI (i))), (3, .int (nI (y))), (4, .int (nI (a))), (5, .int (nI (1))), (6, .int (nI (msW w S v i a r))), (7, .int (hd)), (8, .int (nI (r + 1))), (9, .int (-1))]) rfl rfl rfl (Nat.le_of_ble_eq_true rfl) rfl (by decide) ?_
            refine wn_jp (pc' := 9) rfl rfl ?_
            refine wn_weak (lv' := [(0, .ref (71)), (1, .int (nI (v))), (2, .int (nI (i))), (3, .int (nI (y))), (4, .int (nI (a))), (5, .int (nI (1))), (6, .int (nI (msW w S v i a r))), (7, .int (hd)), (8, .int (nI (r + 1)))]) (by simp) ?_
            have z9 := ih ((r + 1)) hd (by omega) (by omega) (fun o9 h9 => (hb o9 h9).trans ⟨fun ⟨r9, h1, h2, h3⟩ => ⟨r9, by omega, h2, h3⟩, fun ⟨r9, h1, h2, h3⟩ => ⟨r9, by (by_cases e : r9 = r; (subst e; rw [ho9] at h2; cases h2); omega), h2, h3⟩⟩)
            rw [show (nI (msW w S v i a ((r + 1)))) = (nI (msW w S v i a r)) from (by exact congrArg nI (msW_n ho9))] at z9
            exact z9
          · have c3 : ¬ ((-1) : Int32) = ((-1)) := c3
            exact absurd rfl c3
        | some o =>
          have ho8 := oth_is hWf (show r < nrW w by omega) ho9
          show Wn _ _ 27 _ [.int (nI (o))] _ _
          refine wn_st (pc' := 29) (q := 9) (kin := 0) (lv' := [(0, .ref (71)), (1, .int (nI (v))), (2, .int (nI (i))), (3, .int (nI (y))), (4, .int (nI (a))), (5, .int (nI (1))), (6, .int (nI (msW w S v i a r))), (7, .int (hd)), (8, .int (nI (r))), (9, .int (nI (o)))]) rfl (fun _ _ _ => rfl) rfl (Nat.le_of_ble_eq_true rfl) rfl ?_
          refine wn_ld (pc' := 31) (q := 9) (kin := 0) (v := .int (nI (o))) rfl (fun _ _ _ => rfl) rfl rfl ?_
          refine wn_ic (pc' := 32) (w := -1) rfl rfl (by decide) ?_
          refine wn_icmp (t := 97) (f := 35) rfl rfl rfl (fun c4 => ?_) (fun c4 => ?_)
          · have c4 : ((nI (o))) = ((-1)) := c4
            exact absurd c4 (nI_m1 (by omega))
          · have c4 : ¬ ((nI (o))) = ((-1)) := c4
            refine wn_ld (pc' := 36) (q := 0) (kin := 2) (v := .ref (71)) rfl (fun _ _ _ => rfl) rfl rfl ?_
            refine wn_get (pc' := 39) (v := .ref (78)) rfl rfl hM rfl ?_
            refine wn_ld (pc' := 40) (q := 3) (kin := 0) (v := .int (nI (y))) rfl (fun _ _ _ => rfl) rfl rfl ?_
            refine wn_ld (pc' := 42) (q := 9) (kin := 0) (v := .int (nI (o))) rfl (fun _ _ _ => rfl) rfl rfl ?_
            refine wn_ld (pc' := 43) (q := 2) (kin := 0) (v := .int (nI (i))) rfl (fun _ _ _ => rfl) rfl rfl ?_
            refine wn_staI (pc' := 46) rfl rfl (by decide) rfl rfl (Nat.le_of_ble_eq_true rfl) (m_cell _ _ y o i) ?_
            have := hS o i (by omega) (by omega)
            refine wn_ialdv (pc' := 47) (j := (y * 24 + o) * 10 + i) (v := (nI (S o i))) rfl rfl s1 rfl (by omega) (by decide) (s2 o i (by omega) (by omega)) ?_
            refine wn_ld (pc' := 49) (q := 4) (kin := 0) (v := .int (nI (a))) rfl (fun _ _ _ => rfl) rfl rfl ?_
            refine wn_icmpN (t := 55) (f := 52) rfl rfl rfl (by omega) (by omega) (fun c5 => ?_) (fun c5 => ?_)
            · have c5 : (S o i) = a := c5
              refine wn_ld (pc' := 57) (q := 5) (kin := 0) (v := .int (nI (1))) rfl (fun _ _ _ => rfl) rfl rfl ?_
              refine wn_ifN (t := 66) (f := 60) rfl rfl rfl (by omega) (fun c6 => ?_) (fun c6 => ?_)
              · have c6 : ¬ 1 = 0 := c6
                refine wn_ld (pc' := 68) (q := 7) (kin := 0) (v := .int (hd)) rfl (fun _ _ _ => rfl) rfl rfl ?_
                refine wn_ld (pc' := 70) (q := 9) (kin := 0) (v := .int (nI (o))) rfl (fun _ _ _ => rfl) rfl rfl ?_
                refine wn_pu (pc' := 71) (st' := [.int ((hd) >>> ((nI (o)) &&& 31))]) rfl (fun _ _ _ => rfl) rfl rfl ?_
                refine wn_ic (pc' := 72) (w := nI 1) rfl rfl (by decide) ?_
                refine wn_pu (pc' := 73) (st' := [.int (((hd) >>> ((nI (o)) &&& 31)) &&& (nI (1)))]) rfl (fun _ _ _ => rfl) rfl rfl ?_
                refine wn_ifc (t := 88) (f := 76) rfl rfl rfl (fun c7 => ?_) (fun c7 => ?_)
                · have c7 : ¬ ((((hd) >>> ((nI (o)) &&& 31)) &&& (nI (1)))) = 0 := c7
                  refine wn_ld (pc' := 90) (q := 7) (kin := 0) (v := .int (hd)) rfl (fun _ _ _ => rfl) rfl rfl ?_
                  refine wn_ic (pc' := 91) (w := nI 1) rfl rfl (by decide) ?_
                  refine wn_ld (pc' := 93) (q := 9) (kin := 0) (v := .int (nI (o))) rfl (fun _ _ _ => rfl) rfl rfl ?_
                  refine wn_pu (pc' := 94) (st' := [.int ((nI (1)) <<< ((nI (o)) &&& 31)), .int (hd)]) rfl (fun _ _ _ => rfl) rfl rfl ?_
                  refine wn_pu (pc' := 95) (st' := [.int ((hd) ||| ((nI (1)) <<< ((nI (o)) &&& 31)))]) rfl (fun _ _ _ => rfl) rfl rfl ?_
                  refine wn_st (pc' := 97) (q := 7) (kin := 0) (lv' := [(0, .ref (71)), (1, .int (nI (v))), (2, .int (nI (i))), (3, .int (nI (y))), (4, .int (nI (a))), (5, .int (nI (1))), (6, .int (nI (msW w S v i a r))), (7, .int ((hd) ||| ((nI (1)) <<< ((nI (o)) &&& 31)))), (8, .int (nI (r))), (9, .int (nI (o)))]) rfl (fun _ _ _ => rfl) rfl (Nat.le_of_ble_eq_true rfl) rfl ?_
                  refine wn_incN (n := 1) (pc' := 100) (lv' := [(0, .ref (71)), (1, .int (nI (v))), (2, .int (nI (i))), (3, .int (nI (y))), (4, .int (nI (a))), (5, .int (nI (1))), (6, .int (nI (msW w S v i a r))), (7, .int ((hd) ||| ((nI (1)) <<< ((nI (o)) &&& 31)))), (8, .int (nI (r + 1))), (9, .int (nI (o)))]) rfl rfl rfl (Nat.le_of_ble_eq_true rfl) rfl (by decide) ?_
                  refine wn_jp (pc' := 9) rfl rfl ?_
                  refine wn_weak (lv' := [(0, .ref (71)), (1, .int (nI (v))), (2, .int (nI (i))), (3, .int (nI (y))), (4, .int (nI (a))), (5, .int (nI (1))), (6, .int (nI (msW w S v i a r))), (7, .int ((hd) ||| ((nI (1)) <<< ((nI (o)) &&& 31)))), (8, .int (nI (r + 1)))]) (by simp) ?_
                  have z9 := ih ((r + 1)) ((hd) ||| ((nI (1)) <<< ((nI (o)) &&& 31))) (by omega) (by omega) (had_s ho9 c5 (by omega) hb)
                  rw [show (nI (msW w S v i a ((r + 1)))) = (nI (msW w S v i a r)) from (by exact congrArg nI (msW_f ho9 (fun q => by have h0 : bt hd o = true := Classical.not_not.mp (fun q2 => c7 ((tst_0 (show o < 31 by omega)).mpr q2)); obtain ⟨r9, h1, h2, h3⟩ := (hb o (by omega)).mp h0; exact q.2 r9 h1 h2)))] at z9
                  exact z9
                · have c7 : ((((hd) >>> ((nI (o)) &&& 31)) &&& (nI (1)))) = 0 := c7
                  refine wn_ld (pc' := 78) (q := 6) (kin := 0) (v := .int (nI (msW w S v i a r))) rfl (fun _ _ _ => rfl) rfl rfl ?_
                  refine wn_ld (pc' := 79) (q := 0) (kin := 2) (v := .ref (71)) rfl (fun _ _ _ => rfl) rfl rfl ?_
                  refine wn_ld (pc' := 81) (q := 9) (kin := 0) (v := .int (nI (o))) rfl (fun _ _ _ => rfl) rfl rfl ?_
                  refine wn_ic (pc' := 82) (w := nI 0) rfl rfl (by decide) ?_
                  have := wf_szb hWf (show o < nvW w by omega)
                  refine wn_virI (pc' := 85) rfl rfl (by decide) rfl rfl hM (Nat.le_of_ble_eq_true rfl) (m_ofVillage _ _ w HM o 0 (by omega)) ?_
                  rw [show 8 + 2 * o + 0 = 8 + 2 * o by omega]
                  rw [wf_sz hWf (show o < nvW w by omega)]
                  refine wn_addN (pc' := 86) rfl rfl ?_
                  refine wn_st (pc' := 88) (q := 6) (kin := 0) (lv' := [(0, .ref (71)), (1, .int (nI (v))), (2, .int (nI (i))), (3, .int (nI (y))), (4, .int (nI (a))), (5, .int (nI (1))), (6, .int (nI ((msW w S v i a r) + (szW w o)))), (7, .int (hd)), (8, .int (nI (r))), (9, .int (nI (o)))]) rfl (fun _ _ _ => rfl) rfl (Nat.le_of_ble_eq_true rfl) rfl ?_
                  refine wn_ld (pc' := 90) (q := 7) (kin := 0) (v := .int (hd)) rfl (fun _ _ _ => rfl) rfl rfl ?_
                  refine wn_ic (pc' := 91) (w := nI 1) rfl rfl (by decide) ?_
                  refine wn_ld (pc' := 93) (q := 9) (kin := 0) (v := .int (nI (o))) rfl (fun _ _ _ => rfl) rfl rfl ?_
                  refine wn_pu (pc' := 94) (st' := [.int ((nI (1)) <<< ((nI (o)) &&& 31)), .int (hd)]) rfl (fun _ _ _ => rfl) rfl rfl ?_
                  refine wn_pu (pc' := 95) (st' := [.int ((hd) ||| ((nI (1)) <<< ((nI (o)) &&& 31)))]) rfl (fun _ _ _ => rfl) rfl rfl ?_
                  refine wn_st (pc' := 97) (q := 7) (kin := 0) (lv' := [(0, .ref (71)), (1, .int (nI (v))), (2, .int (nI (i))), (3, .int (nI (y))), (4, .int (nI (a))), (5, .int (nI (1))), (6, .int (nI ((msW w S v i a r) + (szW w o)))), (7, .int ((hd) ||| ((nI (1)) <<< ((nI (o)) &&& 31)))), (8, .int (nI (r))), (9, .int (nI (o)))]) rfl (fun _ _ _ => rfl) rfl (Nat.le_of_ble_eq_true rfl) rfl ?_
                  refine wn_incN (n := 1) (pc' := 100) (lv' := [(0, .ref (71)), (1, .int (nI (v))), (2, .int (nI (i))), (3, .int (nI (y))), (4, .int (nI (a))), (5, .int (nI (1))), (6, .int (nI ((msW w S v i a r) + (szW w o)))), (7, .int ((hd) ||| ((nI (1)) <<< ((nI (o)) &&& 31)))), (8, .int (nI (r + 1))), (9, .int (nI (o)))]) rfl rfl rfl (Nat.le_of_ble_eq_true rfl) rfl (by decide) ?_
                  refine wn_jp (pc' := 9) rfl rfl ?_
                  refine wn_weak (lv' := [(0, .ref (71)), (1, .int (nI (v))), (2, .int (nI (i))), (3, .int (nI (y))), (4, .int (nI (a))), (5, .int (nI (1))), (6, .int (nI ((msW w S v i a r) + (szW w o)))), (7, .int ((hd) ||| ((nI (1)) <<< ((nI (o)) &&& 31)))), (8, .int (nI (r + 1)))]) (by simp) ?_
                  have z9 := ih ((r + 1)) ((hd) ||| ((nI (1)) <<< ((nI (o)) &&& 31))) (by omega) (by omega) (had_s ho9 c5 (by omega) hb)
                  rw [show (nI (msW w S v i a ((r + 1)))) = (nI ((msW w S v i a r) + (szW w o))) from (by exact congrArg nI (msW_t ho9 ⟨c5, fun r9 h1 h2 => ((tst_0 (show o < 31 by omega)).mp c7) ((hb o (by omega)).mpr ⟨r9, h1, h2, c5⟩)⟩))] at z9
                  exact z9
              · have c6 : 1 = 0 := c6
                exact absurd c6 (by decide)
            · have c5 : ¬ (S o i) = a := c5
              refine wn_jp (pc' := 97) rfl rfl ?_
              refine wn_incN (n := 1) (pc' := 100) (lv' := [(0, .ref (71)), (1, .int (nI (v))), (2, .int (nI (i))), (3, .int (nI (y))), (4, .int (nI (a))), (5, .int (nI (1))), (6, .int (nI (msW w S v i a r))), (7, .int (hd)), (8, .int (nI (r + 1))), (9, .int (nI (o)))]) rfl rfl rfl (Nat.le_of_ble_eq_true rfl) rfl (by decide) ?_
              refine wn_jp (pc' := 9) rfl rfl ?_
              refine wn_weak (lv' := [(0, .ref (71)), (1, .int (nI (v))), (2, .int (nI (i))), (3, .int (nI (y))), (4, .int (nI (a))), (5, .int (nI (1))), (6, .int (nI (msW w S v i a r))), (7, .int (hd)), (8, .int (nI (r + 1)))]) (by simp) ?_
              have z9 := ih ((r + 1)) hd (by omega) (by omega) (fun o9 h9 => (hb o9 h9).trans ⟨fun ⟨r9, h1, h2, h3⟩ => ⟨r9, by omega, h2, h3⟩, fun ⟨r9, h1, h2, h3⟩ => ⟨r9, by (by_cases e : r9 = r; (subst e; rw [ho9] at h2; cases h2; exact absurd h3 c5); omega), h2, h3⟩⟩)
              rw [show (nI (msW w S v i a ((r + 1)))) = (nI (msW w S v i a r)) from (by exact congrArg nI (msW_f ho9 (fun q => c5 q.1)))] at z9
              exact z9
  refine wn_weak (lv' := [(0, .ref (71)), (1, .int (nI (v))), (2, .int (nI (i))), (3, .int (nI (y))), (4, .int (nI (a))), (5, .int (nI (1))), (6, .int (nI (0))), (7, .int (nI (0))), (8, .int (nI (0)))]) (by simp) ?_
  have z9 := lp1 ((nrW w) + 1) 0 (nI 0) (by omega) (by omega) (fun o h9 => by rw [nI_0, b_0]; simp)
  rw [show (nI (msW w S v i a 0)) = (nI (0)) from (by rfl)] at z9
  exact z9

theorem m_partOf (d : Nat) (h : aH) (w : Nat → Int32) (hWf : WfW w) (HM : MH h w) (S : Nat → Nat → Nat) (y : Nat) (hy : y ≤ 60) (HS : SaY h w y S) (hS : ∀ v i, v < nvW w → i < ntW w → S v i < 5) (k v i : Nat) (hk : k < npW w) (hv : v < nvW w) (hi : i < ntW w) : Rn (d + 4) 177 [.ref (71), .int (nI (k)), .int (nI (v)), .int (nI (i)), .int (nI (y))] h (some (.long (lN (ptW w S y v i k)))) h 0 0 := by
  obtain ⟨⟨e1, e2⟩, ⟨e3, e4⟩, ⟨e5, e6⟩⟩ := Wf_n hWf
  obtain ⟨⟨e7, e8⟩, ⟨e9, e10⟩⟩ := Wf_m hWf
  obtain ⟨th, tp, sz, at9, fr, tk, vl, fk, fp, il, up, lo, hM, hW⟩ := id HM
  obtain ⟨sa9, s1, s2⟩ := id HS
  obtain ⟨⟨a1, ha1, ea1⟩, n1, hn1, en1, hn5⟩ := hWf.2.2.2.2.2.2 k hk
  have hn5 : (w (577 + 3 * k) = 1 ∨ w (577 + 3 * k) = 2) → n1 < 5 := hn5
  refine Rn_of (by decide) (Nat.le_of_ble_eq_true rfl) ?_
  show Wn _ _ 0 [(0, .ref (71)), (1, .int (nI (k))), (2, .int (nI (v))), (3, .int (nI (i))), (4, .int (nI (y)))] [] _ _
  refine wn_ld (pc' := 1) (q := 0) (kin := 2) (v := .ref (71)) rfl (fun _ _ _ => rfl) rfl rfl ?_
  refine wn_get (pc' := 4) (v := .ref (72)) rfl rfl hM rfl ?_
  refine wn_sp (pc' := 7) (w := nI 576) rfl rfl (by decide) ?_
  refine wn_ic (pc' := 8) (w := nI 3) rfl rfl (by decide) ?_
  refine wn_ld (pc' := 9) (q := 1) (kin := 0) (v := .int (nI (k))) rfl (fun _ _ _ => rfl) rfl rfl ?_
  refine wn_mulN (pc' := 10) rfl rfl ?_
  refine wn_addN (pc' := 11) rfl rfl ?_
  refine wn_ic (pc' := 12) (w := nI 2) rfl rfl (by decide) ?_
  refine wn_addN (pc' := 13) rfl rfl ?_
  refine wn_ialdv (pc' := 14) (j := (576 + (3 * k)) + 2) (v := (nI (n1))) rfl rfl hW rfl (by omega) (by decide) ((congrArg w (by omega)).trans en1) ?_
  refine wn_st (pc' := 16) (q := 5) (kin := 0) (lv' := [(0, .ref (71)), (1, .int (nI (k))), (2, .int (nI (v))), (3, .int (nI (i))), (4, .int (nI (y))), (5, .int (nI (n1)))]) rfl (fun _ _ _ => rfl) rfl (Nat.le_of_ble_eq_true rfl) rfl ?_
  refine wn_ld (pc' := 17) (q := 0) (kin := 2) (v := .ref (71)) rfl (fun _ _ _ => rfl) rfl rfl ?_
  refine wn_get (pc' := 20) (v := .ref (72)) rfl rfl hM rfl ?_
  refine wn_sp (pc' := 23) (w := nI 576) rfl rfl (by decide) ?_
  refine wn_ic (pc' := 24) (w := nI 3) rfl rfl (by decide) ?_
  refine wn_ld (pc' := 25) (q := 1) (kin := 0) (v := .int (nI (k))) rfl (fun _ _ _ => rfl) rfl rfl ?_
  refine wn_mulN (pc' := 26) rfl rfl ?_
  refine wn_addN (pc' := 27) rfl rfl ?_
  refine wn_ic (pc' := 28) (w := nI 1) rfl rfl (by decide) ?_
  refine wn_addN (pc' := 29) rfl rfl ?_
  refine wn_ialdv (pc' := 30) (j := (576 + (3 * k)) + 1) (v := (nI (a1))) rfl rfl hW rfl (by omega) (by decide) ((congrArg w (by omega)).trans ea1) ?_
  rcases (show a1 = 0 ∨ a1 = 1 ∨ a1 = 2 ∨ a1 = 3 ∨ a1 = 4 by omega) with rfl | rfl | rfl | rfl | rfl
  · refine wn_sw (off := 30) (pc' := 60) rfl rfl (by decide) rfl ?_
    refine wn_ld (pc' := 62) (q := 5) (kin := 0) (v := .int (nI (n1))) rfl (fun _ _ _ => rfl) rfl rfl ?_
    refine wn_i2lN (pc' := 63) rfl rfl (by omega) ?_
    refine wn_lret rfl rfl ⟨?_, rfl⟩
    rw [ptW_k ea1 (by decide) en1 hn1]; rfl
  · have hn6 : n1 < 5 := hn5 (by rw [ea1]; decide)
    refine wn_sw (off := 34) (pc' := 64) rfl rfl (by decide) rfl ?_
    refine wn_ld (pc' := 65) (q := 0) (kin := 2) (v := .ref (71)) rfl (fun _ _ _ => rfl) rfl rfl ?_
    refine wn_ld (pc' := 66) (q := 2) (kin := 0) (v := .int (nI (v))) rfl (fun _ _ _ => rfl) rfl rfl ?_
    refine wn_ld (pc' := 67) (q := 3) (kin := 0) (v := .int (nI (i))) rfl (fun _ _ _ => rfl) rfl rfl ?_
    refine wn_ld (pc' := 69) (q := 4) (kin := 0) (v := .int (nI (y))) rfl (fun _ _ _ => rfl) rfl rfl ?_
    refine wn_ld (pc' := 71) (q := 5) (kin := 0) (v := .int (nI (n1))) rfl (fun _ _ _ => rfl) rfl rfl ?_
    refine wn_ic (pc' := 72) (w := nI 0) rfl rfl (by decide) ?_
    have := neW_le w S v i n1 (nrW w)
    refine wn_virI (pc' := 75) rfl rfl (by decide) rfl rfl hM (Nat.le_of_ble_eq_true rfl) (m_nearBy0 _ _ w hWf HM S y (by omega) HS hS v i n1 (by omega) (by omega) (by omega)) ?_
    refine wn_i2lN (pc' := 76) rfl rfl (by omega) ?_
    refine wn_lret rfl rfl ⟨?_, rfl⟩
    rw [ptW_k ea1 (by decide) en1 hn1]; rfl
  · have hn6 : n1 < 5 := hn5 (by rw [ea1]; decide)
    refine wn_sw (off := 47) (pc' := 77) rfl rfl (by decide) rfl ?_
    refine wn_ld (pc' := 78) (q := 0) (kin := 2) (v := .ref (71)) rfl (fun _ _ _ => rfl) rfl rfl ?_
    refine wn_ld (pc' := 79) (q := 2) (kin := 0) (v := .int (nI (v))) rfl (fun _ _ _ => rfl) rfl rfl ?_
    refine wn_ld (pc' := 80) (q := 3) (kin := 0) (v := .int (nI (i))) rfl (fun _ _ _ => rfl) rfl rfl ?_
    refine wn_ld (pc' := 82) (q := 4) (kin := 0) (v := .int (nI (y))) rfl (fun _ _ _ => rfl) rfl rfl ?_
    refine wn_ld (pc' := 84) (q := 5) (kin := 0) (v := .int (nI (n1))) rfl (fun _ _ _ => rfl) rfl rfl ?_
    refine wn_ic (pc' := 85) (w := nI 1) rfl rfl (by decide) ?_
    have := msW_le hWf S v i n1 (nrW w) (Nat.le_refl _)
    refine wn_virI (pc' := 88) rfl rfl (by decide) rfl rfl hM (Nat.le_of_ble_eq_true rfl) (m_nearBy1 _ _ w hWf HM S y (by omega) HS hS v i n1 (by omega) (by omega) (by omega)) ?_
    refine wn_i2lN (pc' := 89) rfl rfl (by omega) ?_
    refine wn_lret rfl rfl ⟨?_, rfl⟩
    rw [ptW_k ea1 (by decide) en1 hn1]; rfl
  · refine wn_sw (off := 60) (pc' := 90) rfl rfl (by decide) rfl ?_
    refine wn_ld (pc' := 91) (q := 0) (kin := 2) (v := .ref (71)) rfl (fun _ _ _ => rfl) rfl rfl ?_
    refine wn_ld (pc' := 92) (q := 2) (kin := 0) (v := .int (nI (v))) rfl (fun _ _ _ => rfl) rfl rfl ?_
    refine wn_ic (pc' := 93) (w := nI 0) rfl rfl (by decide) ?_
    have := wf_szb hWf (show v < nvW w by omega)
    refine wn_virI (pc' := 96) rfl rfl (by decide) rfl rfl hM (Nat.le_of_ble_eq_true rfl) (m_ofVillage _ _ w HM v 0 (by omega)) ?_
    rw [show 8 + 2 * v + 0 = 8 + 2 * v by omega]
    rw [wf_sz hWf (show v < nvW w by omega)]
    refine wn_i2lN (pc' := 97) rfl rfl (by omega) ?_
    refine wn_lret rfl rfl ⟨?_, rfl⟩
    rw [ptW_k ea1 (by decide) en1 hn1]; rfl
  · refine wn_sw (off := 68) (pc' := 98) rfl rfl (by decide) rfl ?_
    refine wn_ld (pc' := 100) (q := 4) (kin := 0) (v := .int (nI (y))) rfl (fun _ _ _ => rfl) rfl rfl ?_
    refine wn_i2lN (pc' := 101) rfl rfl (by omega) ?_
    refine wn_lret rfl rfl ⟨?_, rfl⟩
    rw [ptW_k ea1 (by decide) en1 hn1]; rfl

