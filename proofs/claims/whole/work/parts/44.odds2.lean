/-! ODDS: the reference's and the class's; cases -/
theorem m_notesAll (d : Nat) (h : aH) (w : Nat → Int32) (hWf : WfW w) (HM : MH h w) (v i : Nat) (hv : v < nvW w) (hi : i < ntW w) : Rn (d + 2) 219 [.ref (71), .int (nI (v)), .int (nI (i))] h (some (.int (nI (naN w v i 5)))) h 0 0 := by
  obtain ⟨⟨e1, e2⟩, ⟨e3, e4⟩, ⟨e5, e6⟩⟩ := Wf_n hWf
  obtain ⟨⟨e7, e8⟩, ⟨e9, e10⟩⟩ := Wf_m hWf
  obtain ⟨th, tp, sz, at9, fr, tk, vl, fk, fp, il, up, lo, hM, hW⟩ := id HM
  refine Rn_of (by decide) (Nat.le_of_ble_eq_true rfl) ?_
  show Wn _ _ 0 [(0, .ref (71)), (1, .int (nI (v))), (2, .int (nI (i)))] [] _ _
  refine wn_ic (pc' := 1) (w := nI 0) rfl rfl (by decide) ?_
  refine wn_st (pc' := 2) (q := 3) (kin := 0) (lv' := [(0, .ref (71)), (1, .int (nI (v))), (2, .int (nI (i))), (3, .int (nI (0)))]) rfl (fun _ _ _ => rfl) rfl (Nat.le_of_ble_eq_true rfl) rfl ?_
  refine wn_ic (pc' := 3) (w := nI 0) rfl rfl (by decide) ?_
  refine wn_st (pc' := 5) (q := 4) (kin := 0) (lv' := [(0, .ref (71)), (1, .int (nI (v))), (2, .int (nI (i))), (3, .int (nI (0))), (4, .int (nI (0)))]) rfl (fun _ _ _ => rfl) rfl (Nat.le_of_ble_eq_true rfl) rfl ?_
  have lp1 : ∀ (n_lp1 : Nat) (a : Nat), 5 + 1 ≤ a + n_lp1 → a ≤ 5 → Wn (Rn (d + 1)) 219 5 [(0, .ref (71)), (1, .int (nI (v))), (2, .int (nI (i))), (3, .int (nI (naN w v i a))), (4, .int (nI (a)))] [] (h) (fun r9 h9 => r9 = (some (.int (nI (naN w v i 5)))) ∧ h9 = h) := by
    intro n_lp1
    induction n_lp1 with
    | zero => intro a hm_lp1 ha; exfalso; omega
    | succ n_lp1 ih_lp1 =>
      intro a hm_lp1 ha
      have := naN_le hWf hv hi ha
      refine wn_ld (pc' := 7) (q := 4) (kin := 0) (v := .int (nI (a))) rfl (fun _ _ _ => rfl) rfl rfl ?_
      refine wn_ic (pc' := 8) (w := nI 5) rfl rfl (by decide) ?_
      refine wn_icmpN (t := 28) (f := 11) rfl rfl rfl (by omega) (by omega) (fun c2 => ?_) (fun c2 => ?_)
      · have c2 : 5 ≤ a := c2
        obtain rfl : a = 5 := by omega
        refine wn_ld (pc' := 29) (q := 3) (kin := 0) (v := .int (nI (naN w v i 5))) rfl (fun _ _ _ => rfl) rfl rfl ?_
        refine wn_iret rfl rfl rfl ⟨?_, rfl⟩
        exact congrArg (fun z => some (Value.int z)) (rfl)
      · have c2 : a < 5 := c2
        refine wn_ld (pc' := 12) (q := 3) (kin := 0) (v := .int (nI (naN w v i a))) rfl (fun _ _ _ => rfl) rfl rfl ?_
        refine wn_ld (pc' := 13) (q := 0) (kin := 2) (v := .ref (71)) rfl (fun _ _ _ => rfl) rfl rfl ?_
        refine wn_ld (pc' := 14) (q := 1) (kin := 0) (v := .int (nI (v))) rfl (fun _ _ _ => rfl) rfl rfl ?_
        refine wn_ld (pc' := 15) (q := 2) (kin := 0) (v := .int (nI (i))) rfl (fun _ _ _ => rfl) rfl rfl ?_
        refine wn_ld (pc' := 17) (q := 4) (kin := 0) (v := .int (nI (a))) rfl (fun _ _ _ => rfl) rfl rfl ?_
        have := nsF_b hWf (show v < nvW w by omega) (show i < ntW w by omega) (show a < 5 by omega)
        refine wn_virI (pc' := 20) rfl rfl (by decide) rfl rfl hM (Nat.le_of_ble_eq_true rfl) (m_notesOf _ _ w HM v i a (by omega)) ?_
        rw [show 1476 + (v * 10 + i) * 5 + a = 1476 + ((v * 10 + i) * 5 + a) by omega, wf_ns hWf (show (v * 10 + i) * 5 + a < 1200 by omega)]
        show Wn _ _ _ _ (.int (nI (nsF w v i a)) :: _) _ _
        refine wn_addN (pc' := 21) rfl rfl ?_
        refine wn_st (pc' := 22) (q := 3) (kin := 0) (lv' := [(0, .ref (71)), (1, .int (nI (v))), (2, .int (nI (i))), (3, .int (nI ((naN w v i a) + (nsF w v i a)))), (4, .int (nI (a)))]) rfl (fun _ _ _ => rfl) rfl (Nat.le_of_ble_eq_true rfl) rfl ?_
        refine wn_incN (n := 1) (pc' := 25) (lv' := [(0, .ref (71)), (1, .int (nI (v))), (2, .int (nI (i))), (3, .int (nI ((naN w v i a) + (nsF w v i a)))), (4, .int (nI (a + 1)))]) rfl rfl rfl (Nat.le_of_ble_eq_true rfl) rfl (by decide) ?_
        refine wn_jp (pc' := 5) rfl rfl ?_
        refine wn_weak (lv' := [(0, .ref (71)), (1, .int (nI (v))), (2, .int (nI (i))), (3, .int (nI ((naN w v i a) + (nsF w v i a)))), (4, .int (nI (a + 1)))]) (by simp) ?_
        have z9 := ih_lp1 (a + 1) (by omega) (by omega)
        rw [show (nI (naN w v i (a + 1))) = (nI ((naN w v i a) + (nsF w v i a))) from (by rfl)] at z9
        exact z9
  refine wn_weak (lv' := [(0, .ref (71)), (1, .int (nI (v))), (2, .int (nI (i))), (3, .int (nI (0))), (4, .int (nI (0)))]) (by simp) ?_
  have z9 := lp1 (5 + 1) 0 (by omega) (by omega)
  rw [show (nI (naN w v i 0)) = (nI (0)) from (by rfl)] at z9
  exact z9

theorem x_answersFor (d : Nat) (h : aH) (ls : Nat) (w : Nat → Int32) (hWf : WfW w) (V : XV h ls w) (v i : Nat) (hv9 : v < nvW w) (hi : i < ntW w) : Rn (d + 2) 20 [.ref (47), .int (nI (v)), .int (nI (i))] h (some (.int (nI (naN w v i 5)))) h 0 0 := by
  obtain ⟨⟨e1, e2⟩, ⟨e3, e4⟩, ⟨e5, e6⟩⟩ := Wf_n hWf
  obtain ⟨⟨e7, e8⟩, ⟨e9, e10⟩⟩ := Wf_m hWf
  obtain ⟨v0, ⟨x9, v1⟩, ⟨v2, ⟨sz, rf, rt, rv, ag, vr, sd, tl, l0, l1, l2, l3, l4, l5, l6, l7, l8, g1, g2, g3, g4, g5⟩, ⟨sec, it, fi, se, sg, lst, rs, rp, pj, pk, pv, k0, k1, k2, k3, k4, k5, k6, k7, k8, k9, k10, k11, k12, k13⟩, ⟨hv, hc, y0, y1, y2, y3, y4⟩, ⟨an, wk, n0, n1, n2, n3, n4⟩⟩, v3⟩ := id V
  rw [e1, e3, e5] at l0
  rw [e7, e9] at k1
  refine Rn_of (by decide) (Nat.le_of_ble_eq_true rfl) ?_
  show Wn _ _ 0 [(0, .ref (47)), (1, .int (nI (v))), (2, .int (nI (i)))] [] _ _
  refine wn_ic (pc' := 1) (w := nI 0) rfl rfl (by decide) ?_
  refine wn_st (pc' := 2) (q := 3) (kin := 0) (lv' := [(0, .ref (47)), (1, .int (nI (v))), (2, .int (nI (i))), (3, .int (nI (0)))]) rfl (fun _ _ _ => rfl) rfl (Nat.le_of_ble_eq_true rfl) rfl ?_
  refine wn_ic (pc' := 3) (w := nI 0) rfl rfl (by decide) ?_
  refine wn_st (pc' := 5) (q := 4) (kin := 0) (lv' := [(0, .ref (47)), (1, .int (nI (v))), (2, .int (nI (i))), (3, .int (nI (0))), (4, .int (nI (0)))]) rfl (fun _ _ _ => rfl) rfl (Nat.le_of_ble_eq_true rfl) rfl ?_
  have lp1 : ∀ (n_lp1 : Nat) (a : Nat), 5 + 1 ≤ a + n_lp1 → a ≤ 5 → Wn (Rn (d + 1)) 20 5 [(0, .ref (47)), (1, .int (nI (v))), (2, .int (nI (i))), (3, .int (nI (naN w v i a))), (4, .int (nI (a)))] [] (h) (fun r9 h9 => r9 = (some (.int (nI (naN w v i 5)))) ∧ h9 = h) := by
    intro n_lp1
    induction n_lp1 with
    | zero => intro a hm_lp1 ha; exfalso; omega
    | succ n_lp1 ih_lp1 =>
      intro a hm_lp1 ha
      have := naN_le hWf hv9 hi ha
      refine wn_ld (pc' := 7) (q := 4) (kin := 0) (v := .int (nI (a))) rfl (fun _ _ _ => rfl) rfl rfl ?_
      refine wn_ic (pc' := 8) (w := nI 5) rfl rfl (by decide) ?_
      refine wn_icmpN (t := 32) (f := 11) rfl rfl rfl (by omega) (by omega) (fun c2 => ?_) (fun c2 => ?_)
      · have c2 : 5 ≤ a := c2
        obtain rfl : a = 5 := by omega
        refine wn_ld (pc' := 33) (q := 3) (kin := 0) (v := .int (nI (naN w v i 5))) rfl (fun _ _ _ => rfl) rfl rfl ?_
        refine wn_iret rfl rfl rfl ⟨?_, rfl⟩
        exact congrArg (fun z => some (Value.int z)) (rfl)
      · have c2 : a < 5 := c2
        refine wn_ld (pc' := 12) (q := 3) (kin := 0) (v := .int (nI (naN w v i a))) rfl (fun _ _ _ => rfl) rfl rfl ?_
        refine wn_ld (pc' := 13) (q := 0) (kin := 2) (v := .ref (47)) rfl (fun _ _ _ => rfl) rfl rfl ?_
        refine wn_get (pc' := 16) (v := .ref (48)) rfl rfl n0 rfl ?_
        refine wn_ld (pc' := 17) (q := 1) (kin := 0) (v := .int (nI (v))) rfl (fun _ _ _ => rfl) rfl rfl ?_
        refine wn_ld (pc' := 18) (q := 2) (kin := 0) (v := .int (nI (i))) rfl (fun _ _ _ => rfl) rfl rfl ?_
        refine wn_ld (pc' := 20) (q := 4) (kin := 0) (v := .int (nI (a))) rfl (fun _ _ _ => rfl) rfl rfl ?_
        refine wn_staI (pc' := 23) rfl rfl (by decide) rfl rfl (Nat.le_of_ble_eq_true rfl) (x_place _ _ v i a) ?_
        have := nsF_b hWf (show v < nvW w by omega) (show i < ntW w by omega) (show a < 5 by omega)
        refine wn_ialdv (pc' := 24) (j := (v * 10 + i) * 5 + a) (v := (nI (nsF w v i a))) rfl rfl n1 rfl (by omega) (by decide) ((n3 _ (by omega)).trans (wf_ns hWf (by omega))) ?_
        refine wn_addN (pc' := 25) rfl rfl ?_
        refine wn_st (pc' := 26) (q := 3) (kin := 0) (lv' := [(0, .ref (47)), (1, .int (nI (v))), (2, .int (nI (i))), (3, .int (nI ((naN w v i a) + (nsF w v i a)))), (4, .int (nI (a)))]) rfl (fun _ _ _ => rfl) rfl (Nat.le_of_ble_eq_true rfl) rfl ?_
        refine wn_incN (n := 1) (pc' := 29) (lv' := [(0, .ref (47)), (1, .int (nI (v))), (2, .int (nI (i))), (3, .int (nI ((naN w v i a) + (nsF w v i a)))), (4, .int (nI (a + 1)))]) rfl rfl rfl (Nat.le_of_ble_eq_true rfl) rfl (by decide) ?_
        refine wn_jp (pc' := 5) rfl rfl ?_
        refine wn_weak (lv' := [(0, .ref (47)), (1, .int (nI (v))), (2, .int (nI (i))), (3, .int (nI ((naN w v i a) + (nsF w v i a)))), (4, .int (nI (a + 1)))]) (by simp) ?_
        have z9 := ih_lp1 (a + 1) (by omega) (by omega)
        rw [show (nI (naN w v i (a + 1))) = (nI ((naN w v i a) + (nsF w v i a))) from (by rfl)] at z9
        exact z9
  refine wn_weak (lv' := [(0, .ref (47)), (1, .int (nI (v))), (2, .int (nI (i))), (3, .int (nI (0))), (4, .int (nI (0)))]) (by simp) ?_
  have z9 := lp1 (5 + 1) 0 (by omega) (by omega)
  rw [show (nI (naN w v i 0)) = (nI (0)) from (by rfl)] at z9
  exact z9

theorem x_upperOdds (d : Nat) (h : aH) (ls : Nat) (w : Nat → Int32) (hWf : WfW w) (V : XV h ls w) (v : Nat) (hv9 : v < nvW w) : Rn (d + 2) 114 [.ref (0), .int (nI (v))] h (some (.long (lN (upN w v (ntW w))))) h 0 0 := by
  obtain ⟨⟨e1, e2⟩, ⟨e3, e4⟩, ⟨e5, e6⟩⟩ := Wf_n hWf
  obtain ⟨⟨e7, e8⟩, ⟨e9, e10⟩⟩ := Wf_m hWf
  obtain ⟨v0, ⟨x9, v1⟩, ⟨v2, ⟨sz, rf, rt, rv, ag, vr, sd, tl, l0, l1, l2, l3, l4, l5, l6, l7, l8, g1, g2, g3, g4, g5⟩, ⟨sec, it, fi, se, sg, lst, rs, rp, pj, pk, pv, k0, k1, k2, k3, k4, k5, k6, k7, k8, k9, k10, k11, k12, k13⟩, ⟨hv, hc, y0, y1, y2, y3, y4⟩, ⟨an, wk, n0, n1, n2, n3, n4⟩⟩, v3⟩ := id V
  rw [e1, e3, e5] at l0
  rw [e7, e9] at k1
  refine Rn_of (by decide) (Nat.le_of_ble_eq_true rfl) ?_
  show Wn _ _ 0 [(0, .ref (0)), (1, .int (nI (v)))] [] _ _
  refine wn_pu (pc' := 1) (st' := .long (lN 1) :: []) rfl (fun _ _ _ => rfl) rfl rfl ?_
  refine wn_st (pc' := 2) (q := 2) (kin := 1) (lv' := [(0, .ref (0)), (1, .int (nI (v))), (2, .long (lN 1))]) rfl (fun _ _ _ => rfl) rfl (Nat.le_of_ble_eq_true rfl) rfl ?_
  refine wn_ic (pc' := 3) (w := nI 0) rfl rfl (by decide) ?_
  refine wn_st (pc' := 5) (q := 4) (kin := 0) (lv' := [(0, .ref (0)), (1, .int (nI (v))), (2, .long (lN 1)), (4, .int (nI (0)))]) rfl (fun _ _ _ => rfl) rfl (Nat.le_of_ble_eq_true rfl) rfl ?_
  have lp1 : ∀ (n_lp1 : Nat) (i : Nat), (ntW w) + 1 ≤ i + n_lp1 → i ≤ ntW w → Wn (Rn (d + 1)) 114 5 [(0, .ref (0)), (1, .int (nI (v))), (2, .long (lN (upN w v i))), (4, .int (nI (i)))] [] (h) (fun r9 h9 => r9 = (some (.long (lN (upN w v (ntW w))))) ∧ h9 = h) := by
    intro n_lp1
    induction n_lp1 with
    | zero => intro i hm_lp1 hi; exfalso; omega
    | succ n_lp1 ih_lp1 =>
      intro i hm_lp1 hi
      have := upN_B hWf hv9 hi
      refine wn_ld (pc' := 7) (q := 4) (kin := 0) (v := .int (nI (i))) rfl (fun _ _ _ => rfl) rfl rfl ?_
      refine wn_ld (pc' := 8) (q := 0) (kin := 2) (v := .ref (0)) rfl (fun _ _ _ => rfl) rfl rfl ?_
      refine wn_get (pc' := 11) (v := .ref (23)) rfl rfl v1 rfl ?_
      refine wn_get (pc' := 14) (v := .ref (ls)) rfl rfl v2 rfl ?_
      refine wn_get (pc' := 17) (v := .int (nI (ntW w))) rfl rfl l0 rfl ?_
      refine wn_icmpN (t := 72) (f := 20) rfl rfl rfl (by omega) (by omega) (fun c2 => ?_) (fun c2 => ?_)
      · have c2 : (ntW w) ≤ i := c2
        obtain rfl : i = ntW w := by omega
        refine wn_ld (pc' := 73) (q := 2) (kin := 1) (v := .long (lN (upN w v (ntW w)))) rfl (fun _ _ _ => rfl) rfl rfl ?_
        exact wn_lret rfl rfl ⟨rfl, rfl⟩
      · have c2 : i < (ntW w) := c2
        refine wn_ld (pc' := 21) (q := 0) (kin := 2) (v := .ref (0)) rfl (fun _ _ _ => rfl) rfl rfl ?_
        refine wn_get (pc' := 24) (v := .ref (23)) rfl rfl v1 rfl ?_
        refine wn_get (pc' := 27) (v := .ref (44)) rfl rfl v2 rfl ?_
        refine wn_get (pc' := 30) (v := .ref (45)) rfl rfl y0 rfl ?_
        refine wn_ld (pc' := 32) (q := 4) (kin := 0) (v := .int (nI (i))) rfl (fun _ _ _ => rfl) rfl rfl ?_
        refine wn_ialdv (pc' := 33) (j := i) (v := (w (178 + 4 * i))) rfl rfl y1 rfl (by omega) (by decide) ((y3 i (by omega)).1.trans (if_pos (by omega))) ?_
        refine wn_st (pc' := 35) (q := 5) (kin := 0) (lv' := [(0, .ref (0)), (1, .int (nI (v))), (2, .long (lN (upN w v i))), (4, .int (nI (i))), (5, .int (w (178 + 4 * i)))]) rfl (fun _ _ _ => rfl) rfl (Nat.le_of_ble_eq_true rfl) rfl ?_
        refine wn_ld (pc' := 37) (q := 5) (kin := 0) (v := .int (w (178 + 4 * i))) rfl (fun _ _ _ => rfl) rfl rfl ?_
        refine wn_ic (pc' := 38) (w := -1) rfl rfl (by decide) ?_
        refine wn_icmp (t := 66) (f := 41) rfl rfl rfl (fun c3 => ?_) (fun c3 => ?_)
        · have c3 : ((w (178 + 4 * i))) = ((-1)) := c3
          refine wn_incN (n := 1) (pc' := 69) (lv' := [(0, .ref (0)), (1, .int (nI (v))), (2, .long (lN (upN w v i))), (4, .int (nI (i + 1))), (5, .int (w (178 + 4 * i)))]) rfl rfl rfl (Nat.le_of_ble_eq_true rfl) rfl (by decide) ?_
          refine wn_jp (pc' := 5) rfl rfl ?_
          refine wn_weak (lv' := [(0, .ref (0)), (1, .int (nI (v))), (2, .long (lN (upN w v i))), (4, .int (nI (i + 1)))]) (by simp) ?_
          have z9 := ih_lp1 (i + 1) (by omega) (by omega)
          rw [show (lN (upN w v (i + 1))) = (lN (upN w v i)) from (by rw [upN_f c3])] at z9
          exact z9
        · have c3 : ¬ ((w (178 + 4 * i))) = ((-1)) := c3
          obtain ⟨ea, ha⟩ := hvA_e hWf (show i < ntW w by omega) c3
          rw [ea]
          refine wn_ld (pc' := 42) (q := 2) (kin := 1) (v := .long (lN (upN w v i))) rfl (fun _ _ _ => rfl) rfl rfl ?_
          refine wn_ld (pc' := 43) (q := 0) (kin := 2) (v := .ref (0)) rfl (fun _ _ _ => rfl) rfl rfl ?_
          refine wn_get (pc' := 46) (v := .ref (23)) rfl rfl v1 rfl ?_
          refine wn_get (pc' := 49) (v := .ref (47)) rfl rfl v2 rfl ?_
          refine wn_get (pc' := 52) (v := .ref (48)) rfl rfl n0 rfl ?_
          refine wn_ld (pc' := 53) (q := 1) (kin := 0) (v := .int (nI (v))) rfl (fun _ _ _ => rfl) rfl rfl ?_
          refine wn_ld (pc' := 55) (q := 4) (kin := 0) (v := .int (nI (i))) rfl (fun _ _ _ => rfl) rfl rfl ?_
          refine wn_ld (pc' := 57) (q := 5) (kin := 0) (v := .int (nI (hvA w i))) rfl (fun _ _ _ => rfl) rfl rfl ?_
          refine wn_staI (pc' := 60) rfl rfl (by decide) rfl rfl (Nat.le_of_ble_eq_true rfl) (x_place _ _ v i (hvA w i)) ?_
          have := nsF_b hWf (show v < nvW w by omega) (show i < ntW w by omega) (show (hvA w i) < 5 by omega)
          refine wn_ialdv (pc' := 61) (j := (v * 10 + i) * 5 + (hvA w i)) (v := (nI (nsF w v i (hvA w i)))) rfl rfl n1 rfl (by omega) (by decide) ((n3 _ (by omega)).trans (wf_ns hWf (by omega))) ?_
          refine wn_ic (pc' := 62) (w := nI 1) rfl rfl (by decide) ?_
          refine wn_addN (pc' := 63) rfl rfl ?_
          refine wn_i2lN (pc' := 64) rfl rfl (by omega) ?_
          refine wn_lmulN (pc' := 65) rfl rfl ?_
          refine wn_st (pc' := 66) (q := 2) (kin := 1) (lv' := [(0, .ref (0)), (1, .int (nI (v))), (2, .long (lN (((upN w v i)) * (((nsF w v i (hvA w i)) + 1))))), (4, .int (nI (i))), (5, .int (nI (hvA w i)))]) rfl (fun _ _ _ => rfl) rfl (Nat.le_of_ble_eq_true rfl) rfl ?_
          refine wn_incN (n := 1) (pc' := 69) (lv' := [(0, .ref (0)), (1, .int (nI (v))), (2, .long (lN (((upN w v i)) * (((nsF w v i (hvA w i)) + 1))))), (4, .int (nI (i + 1))), (5, .int (nI (hvA w i)))]) rfl rfl rfl (Nat.le_of_ble_eq_true rfl) rfl (by decide) ?_
          refine wn_jp (pc' := 5) rfl rfl ?_
          refine wn_weak (lv' := [(0, .ref (0)), (1, .int (nI (v))), (2, .long (lN (((upN w v i)) * (((nsF w v i (hvA w i)) + 1))))), (4, .int (nI (i + 1)))]) (by simp) ?_
          have z9 := ih_lp1 (i + 1) (by omega) (by omega)
          rw [show (lN (upN w v (i + 1))) = (lN (((upN w v i)) * (((nsF w v i (hvA w i)) + 1)))) from (by rw [upN_t c3])] at z9
          exact z9
  refine wn_weak (lv' := [(0, .ref (0)), (1, .int (nI (v))), (2, .long (lN 1)), (4, .int (nI (0)))]) (by simp) ?_
  have z9 := lp1 ((ntW w) + 1) 0 (by omega) (by omega)
  rw [show (lN (upN w v 0)) = (lN 1) from (by rfl)] at z9
  exact z9

theorem x_lowerOdds (d : Nat) (h : aH) (ls : Nat) (w : Nat → Int32) (hWf : WfW w) (V : XV h ls w) (v : Nat) (hv9 : v < nvW w) : Rn (d + 3) 115 [.ref (0), .int (nI (v))] h (some (.long (lN (loN w v (ntW w))))) h 0 0 := by
  obtain ⟨⟨e1, e2⟩, ⟨e3, e4⟩, ⟨e5, e6⟩⟩ := Wf_n hWf
  obtain ⟨⟨e7, e8⟩, ⟨e9, e10⟩⟩ := Wf_m hWf
  obtain ⟨v0, ⟨x9, v1⟩, ⟨v2, ⟨sz, rf, rt, rv, ag, vr, sd, tl, l0, l1, l2, l3, l4, l5, l6, l7, l8, g1, g2, g3, g4, g5⟩, ⟨sec, it, fi, se, sg, lst, rs, rp, pj, pk, pv, k0, k1, k2, k3, k4, k5, k6, k7, k8, k9, k10, k11, k12, k13⟩, ⟨hv, hc, y0, y1, y2, y3, y4⟩, ⟨an, wk, n0, n1, n2, n3, n4⟩⟩, v3⟩ := id V
  rw [e1, e3, e5] at l0
  rw [e7, e9] at k1
  refine Rn_of (by decide) (Nat.le_of_ble_eq_true rfl) ?_
  show Wn _ _ 0 [(0, .ref (0)), (1, .int (nI (v)))] [] _ _
  refine wn_pu (pc' := 1) (st' := .long (lN 1) :: []) rfl (fun _ _ _ => rfl) rfl rfl ?_
  refine wn_st (pc' := 2) (q := 2) (kin := 1) (lv' := [(0, .ref (0)), (1, .int (nI (v))), (2, .long (lN 1))]) rfl (fun _ _ _ => rfl) rfl (Nat.le_of_ble_eq_true rfl) rfl ?_
  refine wn_ic (pc' := 3) (w := nI 0) rfl rfl (by decide) ?_
  refine wn_st (pc' := 5) (q := 4) (kin := 0) (lv' := [(0, .ref (0)), (1, .int (nI (v))), (2, .long (lN 1)), (4, .int (nI (0)))]) rfl (fun _ _ _ => rfl) rfl (Nat.le_of_ble_eq_true rfl) rfl ?_
  have lp1 : ∀ (n_lp1 : Nat) (i : Nat), (ntW w) + 1 ≤ i + n_lp1 → i ≤ ntW w → Wn (Rn (d + 2)) 115 5 [(0, .ref (0)), (1, .int (nI (v))), (2, .long (lN (loN w v i))), (4, .int (nI (i)))] [] (h) (fun r9 h9 => r9 = (some (.long (lN (loN w v (ntW w))))) ∧ h9 = h) := by
    intro n_lp1
    induction n_lp1 with
    | zero => intro i hm_lp1 hi; exfalso; omega
    | succ n_lp1 ih_lp1 =>
      intro i hm_lp1 hi
      have := loN_B hWf hv9 hi
      refine wn_ld (pc' := 7) (q := 4) (kin := 0) (v := .int (nI (i))) rfl (fun _ _ _ => rfl) rfl rfl ?_
      refine wn_ld (pc' := 8) (q := 0) (kin := 2) (v := .ref (0)) rfl (fun _ _ _ => rfl) rfl rfl ?_
      refine wn_get (pc' := 11) (v := .ref (23)) rfl rfl v1 rfl ?_
      refine wn_get (pc' := 14) (v := .ref (ls)) rfl rfl v2 rfl ?_
      refine wn_get (pc' := 17) (v := .int (nI (ntW w))) rfl rfl l0 rfl ?_
      refine wn_icmpN (t := 74) (f := 20) rfl rfl rfl (by omega) (by omega) (fun c2 => ?_) (fun c2 => ?_)
      · have c2 : (ntW w) ≤ i := c2
        obtain rfl : i = ntW w := by omega
        refine wn_ld (pc' := 75) (q := 2) (kin := 1) (v := .long (lN (loN w v (ntW w)))) rfl (fun _ _ _ => rfl) rfl rfl ?_
        exact wn_lret rfl rfl ⟨rfl, rfl⟩
      · have c2 : i < (ntW w) := c2
        refine wn_ld (pc' := 21) (q := 0) (kin := 2) (v := .ref (0)) rfl (fun _ _ _ => rfl) rfl rfl ?_
        refine wn_get (pc' := 24) (v := .ref (23)) rfl rfl v1 rfl ?_
        refine wn_get (pc' := 27) (v := .ref (44)) rfl rfl v2 rfl ?_
        refine wn_get (pc' := 30) (v := .ref (45)) rfl rfl y0 rfl ?_
        refine wn_ld (pc' := 32) (q := 4) (kin := 0) (v := .int (nI (i))) rfl (fun _ _ _ => rfl) rfl rfl ?_
        refine wn_ialdv (pc' := 33) (j := i) (v := (w (178 + 4 * i))) rfl rfl y1 rfl (by omega) (by decide) ((y3 i (by omega)).1.trans (if_pos (by omega))) ?_
        refine wn_ic (pc' := 34) (w := -1) rfl rfl (by decide) ?_
        refine wn_icmp (t := 68) (f := 37) rfl rfl rfl (fun c3 => ?_) (fun c3 => ?_)
        · have c3 : ((w (178 + 4 * i))) = ((-1)) := c3
          refine wn_incN (n := 1) (pc' := 71) (lv' := [(0, .ref (0)), (1, .int (nI (v))), (2, .long (lN (loN w v i))), (4, .int (nI (i + 1)))]) rfl rfl rfl (Nat.le_of_ble_eq_true rfl) rfl (by decide) ?_
          refine wn_jp (pc' := 5) rfl rfl ?_
          refine wn_weak (lv' := [(0, .ref (0)), (1, .int (nI (v))), (2, .long (lN (loN w v i))), (4, .int (nI (i + 1)))]) (by simp) ?_
          have z9 := ih_lp1 (i + 1) (by omega) (by omega)
          rw [show (lN (loN w v (i + 1))) = (lN (loN w v i)) from (by rw [loN_f c3])] at z9
          exact z9
        · have c3 : ¬ ((w (178 + 4 * i))) = ((-1)) := c3
          refine wn_ld (pc' := 38) (q := 2) (kin := 1) (v := .long (lN (loN w v i))) rfl (fun _ _ _ => rfl) rfl rfl ?_
          refine wn_ld (pc' := 39) (q := 0) (kin := 2) (v := .ref (0)) rfl (fun _ _ _ => rfl) rfl rfl ?_
          refine wn_get (pc' := 42) (v := .ref (23)) rfl rfl v1 rfl ?_
          refine wn_get (pc' := 45) (v := .ref (47)) rfl rfl v2 rfl ?_
          refine wn_ld (pc' := 46) (q := 1) (kin := 0) (v := .int (nI (v))) rfl (fun _ _ _ => rfl) rfl rfl ?_
          refine wn_ld (pc' := 48) (q := 4) (kin := 0) (v := .int (nI (i))) rfl (fun _ _ _ => rfl) rfl rfl ?_
          have := naN_le hWf (show v < nvW w by omega) (show i < ntW w by omega) (a := 5) (by omega)
          refine wn_virI (pc' := 51) rfl rfl (by decide) rfl rfl n0 (Nat.le_of_ble_eq_true rfl) (x_answersFor _ _ ls w hWf V v i (by omega) (by omega)) ?_
          refine wn_ld (pc' := 52) (q := 0) (kin := 2) (v := .ref (0)) rfl (fun _ _ _ => rfl) rfl rfl ?_
          refine wn_get (pc' := 55) (v := .ref (23)) rfl rfl v1 rfl ?_
          refine wn_get (pc' := 58) (v := .ref (ls)) rfl rfl v2 rfl ?_
          refine wn_get (pc' := 61) (v := .ref (ls + 6)) rfl rfl l0 rfl ?_
          refine wn_ld (pc' := 63) (q := 4) (kin := 0) (v := .int (nI (i))) rfl (fun _ _ _ => rfl) rfl rfl ?_
          have := wf_vab hWf (show i < ntW w by omega)
          refine wn_ialdv (pc' := 64) (j := i) (v := (nI (vaW w i))) rfl rfl l6 rfl (by omega) (by decide) ((g4 i (by omega)).1.trans (wf_va hWf (by omega))) ?_
          refine wn_addN (pc' := 65) rfl rfl ?_
          refine wn_i2lN (pc' := 66) rfl rfl (by omega) ?_
          refine wn_lmulN (pc' := 67) rfl rfl ?_
          refine wn_st (pc' := 68) (q := 2) (kin := 1) (lv' := [(0, .ref (0)), (1, .int (nI (v))), (2, .long (lN (((loN w v i)) * (((naN w v i 5) + (vaW w i)))))), (4, .int (nI (i)))]) rfl (fun _ _ _ => rfl) rfl (Nat.le_of_ble_eq_true rfl) rfl ?_
          refine wn_incN (n := 1) (pc' := 71) (lv' := [(0, .ref (0)), (1, .int (nI (v))), (2, .long (lN (((loN w v i)) * (((naN w v i 5) + (vaW w i)))))), (4, .int (nI (i + 1)))]) rfl rfl rfl (Nat.le_of_ble_eq_true rfl) rfl (by decide) ?_
          refine wn_jp (pc' := 5) rfl rfl ?_
          refine wn_weak (lv' := [(0, .ref (0)), (1, .int (nI (v))), (2, .long (lN (((loN w v i)) * (((naN w v i 5) + (vaW w i)))))), (4, .int (nI (i + 1)))]) (by simp) ?_
          have z9 := ih_lp1 (i + 1) (by omega) (by omega)
          rw [show (lN (loN w v (i + 1))) = (lN (((loN w v i)) * (((naN w v i 5) + (vaW w i))))) from (by rw [loN_t c3])] at z9
          exact z9
  refine wn_weak (lv' := [(0, .ref (0)), (1, .int (nI (v))), (2, .long (lN 1)), (4, .int (nI (0)))]) (by simp) ?_
  have z9 := lp1 ((ntW w) + 1) 0 (by omega) (by omega)
  rw [show (lN (loN w v 0)) = (lN 1) from (by rfl)] at z9
  exact z9

theorem x_commonPart (d : Nat) (h : aH) (a b : Nat) (ha : a < 2 ^ 63) (hb : b < 2 ^ 63) (hab : a * b ≤ 2 ^ 91) : Rn (d + 1) 116 [.long (lN (a)), .long (lN (b))] h (some (.long (lN (Nat.gcd a b)))) h 0 0 := by
  refine Rn_of (by decide) (Nat.le_of_ble_eq_true rfl) ?_
  show Wn _ _ 0 [(0, .long (lN (a))), (2, .long (lN (b)))] [] _ _
  refine wn_ld (pc' := 1) (q := 0) (kin := 1) (v := .long (lN (a))) rfl (fun _ _ _ => rfl) rfl rfl ?_
  refine wn_st (pc' := 3) (q := 4) (kin := 1) (lv' := [(0, .long (lN (a))), (2, .long (lN (b))), (4, .long (lN (a)))]) rfl (fun _ _ _ => rfl) rfl (Nat.le_of_ble_eq_true rfl) rfl ?_
  refine wn_ld (pc' := 4) (q := 2) (kin := 1) (v := .long (lN (b))) rfl (fun _ _ _ => rfl) rfl rfl ?_
  refine wn_st (pc' := 6) (q := 6) (kin := 1) (lv' := [(0, .long (lN (a))), (2, .long (lN (b))), (4, .long (lN (a))), (6, .long (lN (b)))]) rfl (fun _ _ _ => rfl) rfl (Nat.le_of_ble_eq_true rfl) rfl ?_
  refine wn_ic (pc' := 7) (w := nI 0) rfl rfl (by decide) ?_
  refine wn_st (pc' := 9) (q := 8) (kin := 0) (lv' := [(0, .long (lN (a))), (2, .long (lN (b))), (4, .long (lN (a))), (6, .long (lN (b))), (8, .int (nI (0)))]) rfl (fun _ _ _ => rfl) rfl (Nat.le_of_ble_eq_true rfl) rfl ?_
  have lp1 : ∀ (n_lp1 : Nat) (x : Nat) (y : Nat) (s : Nat), 200 + 1 ≤ s + n_lp1 → s ≤ 200 → x < 2 ^ 63 → y < 2 ^ 63 → Nat.gcd x y = Nat.gcd a b → EuM x y s → Wn (Rn (d + 0)) 116 9 [(0, .long (lN (a))), (2, .long (lN (b))), (4, .long (lN (x))), (6, .long (lN (y))), (8, .int (nI (s)))] [] (h) (fun r9 h9 => r9 = (some (.long (lN (Nat.gcd a b)))) ∧ h9 = h) := by
    intro n_lp1
    induction n_lp1 with
    | zero => intro x y s hm_lp1 hs hx hy hg hE; exfalso; omega
    | succ n_lp1 ih_lp1 =>
      intro x y s hm_lp1 hs hx hy hg hE
      refine wn_ld (pc' := 11) (q := 8) (kin := 0) (v := .int (nI (s))) rfl (fun _ _ _ => rfl) rfl rfl ?_
      refine wn_sp (pc' := 14) (w := nI 200) rfl rfl (by decide) ?_
      refine wn_icmpN (t := 45) (f := 17) rfl rfl rfl (by omega) (by omega) (fun c2 => ?_) (fun c2 => ?_)
      · have c2 : 200 ≤ s := c2
        refine wn_ld (pc' := 47) (q := 4) (kin := 1) (v := .long (lN (x))) rfl (fun _ _ _ => rfl) rfl rfl ?_
        have y0 : y = 0 := EuM_e hE (by omega)
        exact wn_lret rfl rfl ⟨congrArg (fun z => some (Value.long (lN z))) (by rw [← hg, y0, Nat.gcd_zero_right]), rfl⟩
      · have c2 : s < 200 := c2
        refine wn_ld (pc' := 19) (q := 6) (kin := 1) (v := .long (lN (y))) rfl (fun _ _ _ => rfl) rfl rfl ?_
        refine wn_pu (pc' := 20) (st' := .long (lN 0) :: [.long (lN (y))]) rfl (fun _ _ _ => rfl) rfl rfl ?_
        refine wn_pu (pc' := 21) (st' := [.int (lg_cmp (lN (y)) (lN 0))]) rfl (fun _ _ _ => rfl) rfl rfl ?_
        refine wn_lc (t := 45) (f := 24) rfl rfl rfl (fun c3 => ?_) (fun c3 => ?_)
        · have c3 : (lN (y)).toInt = (lN 0).toInt := c3
          rw [lN_big (n := (y)) (by omega), lN_big (n := 0) (by omega)] at c3
          refine wn_ld (pc' := 47) (q := 4) (kin := 1) (v := .long (lN (x))) rfl (fun _ _ _ => rfl) rfl rfl ?_
          have y0 : y = 0 := by omega
          exact wn_lret rfl rfl ⟨congrArg (fun z => some (Value.long (lN z))) (by rw [← hg, y0, Nat.gcd_zero_right]), rfl⟩
        · have c3 : ¬ ((lN (y)).toInt = (lN 0).toInt) := c3
          rw [lN_big (n := (y)) (by omega), lN_big (n := 0) (by omega)] at c3
          refine wn_ld (pc' := 26) (q := 4) (kin := 1) (v := .long (lN (x))) rfl (fun _ _ _ => rfl) rfl rfl ?_
          refine wn_ld (pc' := 28) (q := 6) (kin := 1) (v := .long (lN (y))) rfl (fun _ _ _ => rfl) rfl rfl ?_
          have := Nat.div_le_self ((x)) ((y))
          have := Nat.mod_lt ((x)) (show 0 < (y) by omega)
          refine wn_lremN (pc' := 29) rfl rfl (by omega) (by omega) (by omega) ?_
          refine wn_st (pc' := 31) (q := 9) (kin := 1) (lv' := [(0, .long (lN (a))), (2, .long (lN (b))), (4, .long (lN (x))), (6, .long (lN (y))), (8, .int (nI (s))), (9, .long (lN (((x)) % ((y)))))]) rfl (fun _ _ _ => rfl) rfl (Nat.le_of_ble_eq_true rfl) rfl ?_
          refine wn_ld (pc' := 33) (q := 6) (kin := 1) (v := .long (lN (y))) rfl (fun _ _ _ => rfl) rfl rfl ?_
          refine wn_st (pc' := 35) (q := 4) (kin := 1) (lv' := [(0, .long (lN (a))), (2, .long (lN (b))), (4, .long (lN (y))), (6, .long (lN (y))), (8, .int (nI (s))), (9, .long (lN (((x)) % ((y)))))]) rfl (fun _ _ _ => rfl) rfl (Nat.le_of_ble_eq_true rfl) rfl ?_
          refine wn_ld (pc' := 37) (q := 9) (kin := 1) (v := .long (lN (((x)) % ((y))))) rfl (fun _ _ _ => rfl) rfl rfl ?_
          refine wn_st (pc' := 39) (q := 6) (kin := 1) (lv' := [(0, .long (lN (a))), (2, .long (lN (b))), (4, .long (lN (y))), (6, .long (lN (((x)) % ((y))))), (8, .int (nI (s))), (9, .long (lN (((x)) % ((y)))))]) rfl (fun _ _ _ => rfl) rfl (Nat.le_of_ble_eq_true rfl) rfl ?_
          refine wn_incN (n := 1) (pc' := 42) (lv' := [(0, .long (lN (a))), (2, .long (lN (b))), (4, .long (lN (y))), (6, .long (lN (((x)) % ((y))))), (8, .int (nI (s + 1))), (9, .long (lN (((x)) % ((y)))))]) rfl rfl rfl (Nat.le_of_ble_eq_true rfl) rfl (by decide) ?_
          refine wn_jp (pc' := 9) rfl rfl ?_
          refine wn_weak (lv' := [(0, .long (lN (a))), (2, .long (lN (b))), (4, .long (lN (y))), (6, .long (lN (((x)) % ((y))))), (8, .int (nI (s + 1)))]) (by simp) ?_
          have z9 := ih_lp1 y (x % y) (s + 1) (by omega) (by omega) (by omega) (by omega) (gcd_st.symm.trans hg) (EuM_s hE (by omega))
          exact z9
  refine wn_weak (lv' := [(0, .long (lN (a))), (2, .long (lN (b))), (4, .long (lN (a))), (6, .long (lN (b))), (8, .int (nI (0)))]) (by simp) ?_
  have z9 := lp1 (200 + 1) a b 0 (by omega) (by omega) ha hb rfl (Or.inl ⟨rfl, hab⟩)
  exact z9

noncomputable def oddsA (w : Nat → Int32) (v : Int32) (b : Prop) : Int64 := qL (iin v (nvW w)) (qL b (lN (rlW w v.toNatClampNeg)) (lN (ruW w v.toNatClampNeg))) (-1)
theorem x_odds (d : Nat) (h : aH) (ls : Nat) (w : Nat → Int32) (hWf : WfW w) (V : XV h ls w) (R0 : RX h h ls w) (v : Int32) (b : Prop) : Sp (Rn (d + 4)) 113 [.ref (0), .int (v), .int (bI (b))] h (fun r9 h9 => r9 = some (.long (oddsA w v b)) ∧ RX h h9 ls w) := by
  obtain ⟨⟨e1, e2⟩, ⟨e3, e4⟩, ⟨e5, e6⟩⟩ := Wf_n hWf
  obtain ⟨⟨e7, e8⟩, ⟨e9, e10⟩⟩ := Wf_m hWf
  obtain ⟨v0, ⟨x9, v1⟩, ⟨v2, ⟨sz, rf, rt, rv, ag, vr, sd, tl, l0, l1, l2, l3, l4, l5, l6, l7, l8, g1, g2, g3, g4, g5⟩, ⟨sec, it, fi, se, sg, lst, rs, rp, pj, pk, pv, k0, k1, k2, k3, k4, k5, k6, k7, k8, k9, k10, k11, k12, k13⟩, ⟨hv, hc, y0, y1, y2, y3, y4⟩, ⟨an, wk, n0, n1, n2, n3, n4⟩⟩, v3⟩ := id V
  rw [e1, e3, e5] at l0
  rw [e7, e9] at k1
  refine Sp_of (by decide) (Nat.le_of_ble_eq_true rfl) ?_
  show Wn _ _ 0 [(0, .ref (0)), (1, .int (v)), (2, .int (bI (b)))] [] _ _
  refine wn_ld (pc' := 1) (q := 0) (kin := 2) (v := .ref (0)) rfl (fun _ _ _ => rfl) rfl rfl ?_
  refine wn_ld (pc' := 2) (q := 1) (kin := 0) (v := .int (v)) rfl (fun _ _ _ => rfl) rfl rfl ?_
  refine wn_virI (pc' := 5) rfl rfl (by decide) rfl rfl v1 (Nat.le_of_ble_eq_true rfl) (x_hasVillage _ _ ls w hWf V _) ?_
  refine wn_ifneB (t := 12) (f := 8) rfl rfl rfl (fun c1 => ?_) (fun c1 => ?_)
  · have c1 : (iin v (nvW w)) := c1
    obtain ⟨v9, hv9, rfl⟩ := iin_of c1
    have ti_v := nI_toInt (n := v9) (show v9 < 2 ^ 31 by omega)
    have cl_v := nI_clamp (n := v9) (show v9 < 2 ^ 31 by omega)
    refine wn_ld (pc' := 13) (q := 0) (kin := 2) (v := .ref (0)) rfl (fun _ _ _ => rfl) rfl rfl ?_
    refine wn_ld (pc' := 14) (q := 1) (kin := 0) (v := .int (nI (v9))) rfl (fun _ _ _ => rfl) rfl rfl ?_
    have := upN_B hWf (show v9 < nvW w by omega) (Nat.le_refl _)
    refine wn_virL (pc' := 17) rfl rfl (by decide) rfl rfl v1 (Nat.le_of_ble_eq_true rfl) (x_upperOdds _ _ ls w hWf V v9 (by omega)) ?_
    refine wn_st (pc' := 18) (q := 3) (kin := 1) (lv' := [(0, .ref (0)), (1, .int (nI (v9))), (2, .int (bI (b))), (3, .long (lN (upN w v9 (ntW w))))]) rfl (fun _ _ _ => rfl) rfl (Nat.le_of_ble_eq_true rfl) rfl ?_
    refine wn_ld (pc' := 19) (q := 0) (kin := 2) (v := .ref (0)) rfl (fun _ _ _ => rfl) rfl rfl ?_
    refine wn_ld (pc' := 20) (q := 1) (kin := 0) (v := .int (nI (v9))) rfl (fun _ _ _ => rfl) rfl rfl ?_
    have := loN_B hWf (show v9 < nvW w by omega) (Nat.le_refl _)
    refine wn_virL (pc' := 23) rfl rfl (by decide) rfl rfl v1 (Nat.le_of_ble_eq_true rfl) (x_lowerOdds _ _ ls w hWf V v9 (by omega)) ?_
    refine wn_st (pc' := 25) (q := 5) (kin := 1) (lv' := [(0, .ref (0)), (1, .int (nI (v9))), (2, .int (bI (b))), (3, .long (lN (upN w v9 (ntW w)))), (5, .long (lN (loN w v9 (ntW w))))]) rfl (fun _ _ _ => rfl) rfl (Nat.le_of_ble_eq_true rfl) rfl ?_
    refine wn_ld (pc' := 26) (q := 3) (kin := 1) (v := .long (lN (upN w v9 (ntW w)))) rfl (fun _ _ _ => rfl) rfl rfl ?_
    refine wn_ld (pc' := 28) (q := 5) (kin := 1) (v := .long (lN (loN w v9 (ntW w)))) rfl (fun _ _ _ => rfl) rfl rfl ?_
    refine wn_staL (pc' := 31) rfl rfl (by decide) rfl rfl (Nat.le_of_ble_eq_true rfl) (x_commonPart _ _ _ _ (by omega) (by omega) (prod_b (by omega) (by omega))) ?_
    show Wn _ _ _ _ (.long (lN (gcW w v9)) :: _) _ _
    have g0 := gc_pos hWf (show v9 < nvW w by omega)
    have g1 : gcW w v9 ≤ upN w v9 (ntW w) := Nat.gcd_le_left _ (by omega)
    refine wn_st (pc' := 33) (q := 7) (kin := 1) (lv' := [(0, .ref (0)), (1, .int (nI (v9))), (2, .int (bI (b))), (3, .long (lN (upN w v9 (ntW w)))), (5, .long (lN (loN w v9 (ntW w)))), (7, .long (lN (gcW w v9)))]) rfl (fun _ _ _ => rfl) rfl (Nat.le_of_ble_eq_true rfl) rfl ?_
    refine wn_ld (pc' := 35) (q := 7) (kin := 1) (v := .long (lN (gcW w v9))) rfl (fun _ _ _ => rfl) rfl rfl ?_
    refine wn_pu (pc' := 36) (st' := .long (lN 0) :: [.long (lN (gcW w v9))]) rfl (fun _ _ _ => rfl) rfl rfl ?_
    refine wn_pu (pc' := 37) (st' := [.int (lg_cmp (lN (gcW w v9)) (lN 0))]) rfl (fun _ _ _ => rfl) rfl rfl ?_
    refine wn_lc (t := 44) (f := 40) rfl rfl rfl (fun c2 => ?_) (fun c2 => ?_)
    · have c2 : ¬ (lN (gcW w v9)).toInt = (lN 0).toInt := c2
      rw [lN_big (n := (gcW w v9)) (by omega), lN_big (n := 0) (by omega)] at c2
      refine wn_ld (pc' := 45) (q := 2) (kin := 0) (v := .int (bI (b))) rfl (fun _ _ _ => rfl) rfl rfl ?_
      refine wn_ifeqB (t := 56) (f := 48) rfl rfl rfl (fun c3 => ?_) (fun c3 => ?_)
      · have c3 : ¬ (b) := c3
        refine wn_ld (pc' := 57) (q := 3) (kin := 1) (v := .long (lN (upN w v9 (ntW w)))) rfl (fun _ _ _ => rfl) rfl rfl ?_
        refine wn_ld (pc' := 59) (q := 7) (kin := 1) (v := .long (lN (gcW w v9))) rfl (fun _ _ _ => rfl) rfl rfl ?_
        have := Nat.div_le_self ((upN w v9 (ntW w))) ((gcW w v9))
        have := Nat.mod_lt ((upN w v9 (ntW w))) (show 0 < (gcW w v9) by omega)
        refine wn_ldivN (pc' := 60) rfl rfl (by omega) (by omega) (by omega) ?_
        refine wn_lret rfl rfl ⟨congrArg (fun z => some (Value.long z)) ?_, (RY.rx (RY.rfl' R0.2.2.1) R0.2.2.2)⟩
        unfold oddsA
        rw [qL_t (iin_nI (by omega) (by omega)), cl_v]
        exact (qL_f c3).symm
      · have c3 : (b) := c3
        refine wn_ld (pc' := 50) (q := 5) (kin := 1) (v := .long (lN (loN w v9 (ntW w)))) rfl (fun _ _ _ => rfl) rfl rfl ?_
        refine wn_ld (pc' := 52) (q := 7) (kin := 1) (v := .long (lN (gcW w v9))) rfl (fun _ _ _ => rfl) rfl rfl ?_
        have := Nat.div_le_self ((loN w v9 (ntW w))) ((gcW w v9))
        have := Nat.mod_lt ((loN w v9 (ntW w))) (show 0 < (gcW w v9) by omega)
        refine wn_ldivN (pc' := 53) rfl rfl (by omega) (by omega) (by omega) ?_
        refine wn_jp (pc' := 60) rfl rfl ?_
        refine wn_lret rfl rfl ⟨congrArg (fun z => some (Value.long z)) ?_, (RY.rx (RY.rfl' R0.2.2.1) R0.2.2.2)⟩
        unfold oddsA
        rw [qL_t (iin_nI (by omega) (by omega)), cl_v]
        exact (qL_t c3).symm
    · have c2 : ¬ (¬ (lN (gcW w v9)).toInt = (lN 0).toInt) := c2
      rw [lN_big (n := (gcW w v9)) (by omega), lN_big (n := 0) (by omega)] at c2
      refine wn_go (pc' := 43) (lv' := [(0, .ref (0)), (1, .int (nI (v9))), (2, .int (bI (b))), (3, .long (lN (upN w v9 (ntW w)))), (5, .long (lN (loN w v9 (ntW w)))), (7, .long (lN (gcW w v9)))]) (st' := [.long ((-1 : Int64))]) rfl (fun _ _ _ k9 => k9) ?_
      exfalso; omega
  · have c1 : ¬ (iin v (nvW w)) := c1
    refine wn_go (pc' := 11) (lv' := [(0, .ref (0)), (1, .int (v)), (2, .int (bI (b)))]) (st' := [.long ((-1 : Int64))]) rfl (fun _ _ _ k9 => k9) ?_
    refine wn_lret rfl rfl ⟨congrArg (fun z => some (Value.long z)) ?_, (RY.rx (RY.rfl' R0.2.2.1) R0.2.2.2)⟩
    unfold oddsA
    rw [qL_f c1]

theorem flip_i {p : Prop} {a b c e : Nat} (fq : (c * b < a * e ↔ b * (c % e) < e * (a % b)) ∧ (a * e < c * b ↔ e * (a % b) < b * (c % e))) : ((¬ p ∧ c * b < a * e) ∨ (p ∧ a * e < c * b)) ↔ ((¬ ¬ p ∧ e * (a % b) < b * (c % e)) ∨ (¬ p ∧ b * (c % e) < e * (a % b))) := by
  rw [fq.1, fq.2, Classical.not_not]
  exact ⟨Or.symm, Or.symm⟩
theorem gG_t {p : Prop} {x y u v : Nat} {G : Prop} (hG : G ↔ ((¬ p ∧ x < y) ∨ (p ∧ y < x))) (hp : ¬ p) (h : x < y) : nI 1 = bI G := bI_t1 (hG.mpr (Or.inl ⟨hp, h⟩))
theorem x_isGreater (d : Nat) (h : aH) (a0 b0 c0 e0 : Nat) (ha0 : a0 < 2 ^ 63) (hb0 : b0 < 2 ^ 63) (hc0 : c0 < 2 ^ 63) (he0 : e0 < 2 ^ 63) (hb1 : 0 < b0) (he1 : 0 < e0) (hab : a0 * b0 ≤ 2 ^ 91) (hce : c0 * e0 ≤ 2 ^ 91) : Rn (d + 1) 120 [.long (lN (a0)), .long (lN (b0)), .long (lN (c0)), .long (lN (e0))] h (some (.int (bI (c0 * b0 < a0 * e0)))) h 0 0 := by
  refine Rn_of (by decide) (Nat.le_of_ble_eq_true rfl) ?_
  show Wn _ _ 0 [(0, .long (lN (a0))), (2, .long (lN (b0))), (4, .long (lN (c0))), (6, .long (lN (e0)))] [] _ _
  refine wn_ic (pc' := 1) (w := nI 0) rfl rfl (by decide) ?_
  refine wn_st (pc' := 3) (q := 8) (kin := 0) (lv' := [(0, .long (lN (a0))), (2, .long (lN (b0))), (4, .long (lN (c0))), (6, .long (lN (e0))), (8, .int (nI (0)))]) rfl (fun _ _ _ => rfl) rfl (Nat.le_of_ble_eq_true rfl) rfl ?_
  refine wn_ic (pc' := 4) (w := nI 0) rfl rfl (by decide) ?_
  refine wn_st (pc' := 6) (q := 9) (kin := 0) (lv' := [(0, .long (lN (a0))), (2, .long (lN (b0))), (4, .long (lN (c0))), (6, .long (lN (e0))), (8, .int (nI (0))), (9, .int (nI (0)))]) rfl (fun _ _ _ => rfl) rfl (Nat.le_of_ble_eq_true rfl) rfl ?_
  have lp1 : ∀ (n_lp1 : Nat) (a : Nat) (b : Nat) (c : Nat) (e : Nat) (p : Prop) (s : Nat), 200 + 1 ≤ s + n_lp1 → s ≤ 200 → a < 2 ^ 63 → b < 2 ^ 63 → c < 2 ^ 63 → e < 2 ^ 63 → 0 < b → 0 < e → (c0 * b0 < a0 * e0 ↔ ((¬ p ∧ c * b < a * e) ∨ (p ∧ a * e < c * b))) → EuM a b s → EuM c e s → Wn (Rn (d + 0)) 120 6 [(0, .long (lN (a))), (2, .long (lN (b))), (4, .long (lN (c))), (6, .long (lN (e))), (8, .int (bI (p))), (9, .int (nI (s)))] [] (h) (fun r9 h9 => r9 = (some (.int (bI (c0 * b0 < a0 * e0)))) ∧ h9 = h) := by
    intro n_lp1
    induction n_lp1 with
    | zero => intro a b c e p s hm_lp1 hs ha hb hc he hb0 he0 hG hE1 hE2; exfalso; omega
    | succ n_lp1 ih_lp1 =>
      intro a b c e p s hm_lp1 hs ha hb hc he hb0 he0 hG hE1 hE2
      refine wn_ld (pc' := 8) (q := 9) (kin := 0) (v := .int (nI (s))) rfl (fun _ _ _ => rfl) rfl rfl ?_
      refine wn_sp (pc' := 11) (w := nI 200) rfl rfl (by decide) ?_
      refine wn_icmpN (t := 160) (f := 14) rfl rfl rfl (by omega) (by omega) (fun c2 => ?_) (fun c2 => ?_)
      · have c2 : 200 ≤ s := c2
        refine wn_ic (pc' := 161) (w := nI 0) rfl rfl (by decide) ?_
        refine wn_iret rfl rfl (by decide) ⟨congrArg (fun z => some (Value.int z)) ?_, rfl⟩
        have b0z := EuM_e hE1 (by omega)
        exfalso; omega
      · have c2 : s < 200 := c2
        refine wn_ld (pc' := 15) (q := 2) (kin := 1) (v := .long (lN (b))) rfl (fun _ _ _ => rfl) rfl rfl ?_
        refine wn_pu (pc' := 16) (st' := .long (lN 0) :: [.long (lN (b))]) rfl (fun _ _ _ => rfl) rfl rfl ?_
        refine wn_pu (pc' := 17) (st' := [.int (lg_cmp (lN (b)) (lN 0))]) rfl (fun _ _ _ => rfl) rfl rfl ?_
        refine wn_lc (t := 160) (f := 20) rfl rfl rfl (fun c3 => ?_) (fun c3 => ?_)
        · have c3 : (lN (b)).toInt = (lN 0).toInt := c3
          rw [lN_big (n := (b)) (by omega), lN_big (n := 0) (by omega)] at c3
          refine wn_ic (pc' := 161) (w := nI 0) rfl rfl (by decide) ?_
          refine wn_iret rfl rfl (by decide) ⟨congrArg (fun z => some (Value.int z)) ?_, rfl⟩
          exfalso; omega
        · have c3 : ¬ ((lN (b)).toInt = (lN 0).toInt) := c3
          rw [lN_big (n := (b)) (by omega), lN_big (n := 0) (by omega)] at c3
          refine wn_ld (pc' := 22) (q := 6) (kin := 1) (v := .long (lN (e))) rfl (fun _ _ _ => rfl) rfl rfl ?_
          refine wn_pu (pc' := 23) (st' := .long (lN 0) :: [.long (lN (e))]) rfl (fun _ _ _ => rfl) rfl rfl ?_
          refine wn_pu (pc' := 24) (st' := [.int (lg_cmp (lN (e)) (lN 0))]) rfl (fun _ _ _ => rfl) rfl rfl ?_
          refine wn_lc (t := 160) (f := 27) rfl rfl rfl (fun c4 => ?_) (fun c4 => ?_)
          · have c4 : (lN (e)).toInt = (lN 0).toInt := c4
            rw [lN_big (n := (e)) (by omega), lN_big (n := 0) (by omega)] at c4
            refine wn_ic (pc' := 161) (w := nI 0) rfl rfl (by decide) ?_
            refine wn_iret rfl rfl (by decide) ⟨congrArg (fun z => some (Value.int z)) ?_, rfl⟩
            exfalso; omega
          · have c4 : ¬ ((lN (e)).toInt = (lN 0).toInt) := c4
            rw [lN_big (n := (e)) (by omega), lN_big (n := 0) (by omega)] at c4
            refine wn_ld (pc' := 28) (q := 0) (kin := 1) (v := .long (lN (a))) rfl (fun _ _ _ => rfl) rfl rfl ?_
            refine wn_ld (pc' := 29) (q := 2) (kin := 1) (v := .long (lN (b))) rfl (fun _ _ _ => rfl) rfl rfl ?_
            have := Nat.div_le_self ((a)) ((b))
            have := Nat.mod_lt ((a)) (show 0 < (b) by omega)
            refine wn_ldivN (pc' := 30) rfl rfl (by omega) (by omega) (by omega) ?_
            refine wn_st (pc' := 32) (q := 10) (kin := 1) (lv' := [(0, .long (lN (a))), (2, .long (lN (b))), (4, .long (lN (c))), (6, .long (lN (e))), (8, .int (bI (p))), (9, .int (nI (s))), (10, .long (lN (((a)) / ((b)))))]) rfl (fun _ _ _ => rfl) rfl (Nat.le_of_ble_eq_true rfl) rfl ?_
            refine wn_ld (pc' := 34) (q := 4) (kin := 1) (v := .long (lN (c))) rfl (fun _ _ _ => rfl) rfl rfl ?_
            refine wn_ld (pc' := 36) (q := 6) (kin := 1) (v := .long (lN (e))) rfl (fun _ _ _ => rfl) rfl rfl ?_
            have := Nat.div_le_self ((c)) ((e))
            have := Nat.mod_lt ((c)) (show 0 < (e) by omega)
            refine wn_ldivN (pc' := 37) rfl rfl (by omega) (by omega) (by omega) ?_
            refine wn_st (pc' := 39) (q := 12) (kin := 1) (lv' := [(0, .long (lN (a))), (2, .long (lN (b))), (4, .long (lN (c))), (6, .long (lN (e))), (8, .int (bI (p))), (9, .int (nI (s))), (10, .long (lN (((a)) / ((b))))), (12, .long (lN (((c)) / ((e)))))]) rfl (fun _ _ _ => rfl) rfl (Nat.le_of_ble_eq_true rfl) rfl ?_
            refine wn_ld (pc' := 41) (q := 10) (kin := 1) (v := .long (lN (((a)) / ((b))))) rfl (fun _ _ _ => rfl) rfl rfl ?_
            refine wn_ld (pc' := 43) (q := 12) (kin := 1) (v := .long (lN (((c)) / ((e))))) rfl (fun _ _ _ => rfl) rfl rfl ?_
            refine wn_pu (pc' := 44) (st' := [.int (lg_cmp (lN (((a)) / ((b)))) (lN (((c)) / ((e)))))]) rfl (fun _ _ _ => rfl) rfl rfl ?_
            refine wn_lc (t := 71) (f := 47) rfl rfl rfl (fun c5 => ?_) (fun c5 => ?_)
            · have c5 : (lN (((a)) / ((b)))).toInt = (lN (((c)) / ((e)))).toInt := c5
              rw [lN_big (n := (((a)) / ((b)))) (by omega), lN_big (n := (((c)) / ((e)))) (by omega)] at c5
              refine wn_ld (pc' := 72) (q := 0) (kin := 1) (v := .long (lN (a))) rfl (fun _ _ _ => rfl) rfl rfl ?_
              refine wn_ld (pc' := 73) (q := 2) (kin := 1) (v := .long (lN (b))) rfl (fun _ _ _ => rfl) rfl rfl ?_
              have := Nat.div_le_self ((a)) ((b))
              have := Nat.mod_lt ((a)) (show 0 < (b) by omega)
              refine wn_lremN (pc' := 74) rfl rfl (by omega) (by omega) (by omega) ?_
              refine wn_st (pc' := 76) (q := 14) (kin := 1) (lv' := [(0, .long (lN (a))), (2, .long (lN (b))), (4, .long (lN (c))), (6, .long (lN (e))), (8, .int (bI (p))), (9, .int (nI (s))), (10, .long (lN (((a)) / ((b))))), (12, .long (lN (((c)) / ((e))))), (14, .long (lN (((a)) % ((b)))))]) rfl (fun _ _ _ => rfl) rfl (Nat.le_of_ble_eq_true rfl) rfl ?_
              refine wn_ld (pc' := 78) (q := 4) (kin := 1) (v := .long (lN (c))) rfl (fun _ _ _ => rfl) rfl rfl ?_
              refine wn_ld (pc' := 80) (q := 6) (kin := 1) (v := .long (lN (e))) rfl (fun _ _ _ => rfl) rfl rfl ?_
              have := Nat.div_le_self ((c)) ((e))
              have := Nat.mod_lt ((c)) (show 0 < (e) by omega)
              refine wn_lremN (pc' := 81) rfl rfl (by omega) (by omega) (by omega) ?_
              refine wn_st (pc' := 83) (q := 16) (kin := 1) (lv' := [(0, .long (lN (a))), (2, .long (lN (b))), (4, .long (lN (c))), (6, .long (lN (e))), (8, .int (bI (p))), (9, .int (nI (s))), (10, .long (lN (((a)) / ((b))))), (12, .long (lN (((c)) / ((e))))), (14, .long (lN (((a)) % ((b))))), (16, .long (lN (((c)) % ((e)))))]) rfl (fun _ _ _ => rfl) rfl (Nat.le_of_ble_eq_true rfl) rfl ?_
              refine wn_ld (pc' := 85) (q := 14) (kin := 1) (v := .long (lN (((a)) % ((b))))) rfl (fun _ _ _ => rfl) rfl rfl ?_
              refine wn_pu (pc' := 86) (st' := .long (lN 0) :: [.long (lN (((a)) % ((b))))]) rfl (fun _ _ _ => rfl) rfl rfl ?_
              refine wn_pu (pc' := 87) (st' := [.int (lg_cmp (lN (((a)) % ((b)))) (lN 0))]) rfl (fun _ _ _ => rfl) rfl rfl ?_
              refine wn_lc (t := 97) (f := 90) rfl rfl rfl (fun c6 => ?_) (fun c6 => ?_)
              · have c6 : (lN (((a)) % ((b)))).toInt = (lN 0).toInt := c6
                rw [lN_big (n := (((a)) % ((b)))) (by omega), lN_big (n := 0) (by omega)] at c6
                refine wn_ld (pc' := 99) (q := 14) (kin := 1) (v := .long (lN (((a)) % ((b))))) rfl (fun _ _ _ => rfl) rfl rfl ?_
                refine wn_ld (pc' := 101) (q := 16) (kin := 1) (v := .long (lN (((c)) % ((e))))) rfl (fun _ _ _ => rfl) rfl rfl ?_
                refine wn_pu (pc' := 102) (st' := [.int (lg_cmp (lN (((a)) % ((b)))) (lN (((c)) % ((e)))))]) rfl (fun _ _ _ => rfl) rfl rfl ?_
                refine wn_lc (t := 127) (f := 105) rfl rfl rfl (fun c7 => ?_) (fun c7 => ?_)
                · have c7 : (lN (((a)) % ((b)))).toInt = (lN (((c)) % ((e)))).toInt := c7
                  rw [lN_big (n := (((a)) % ((b)))) (by omega), lN_big (n := (((c)) % ((e)))) (by omega)] at c7
                  refine wn_ic (pc' := 128) (w := nI 0) rfl rfl (by decide) ?_
                  refine wn_iret rfl rfl (by decide) ⟨congrArg (fun z => some (Value.int z)) ?_, rfl⟩
                  have fq := fr_sub (a := a) (b := b) (c := c) (e := e) (by omega)
                  have r0 : a % b = 0 := by omega
                  have s0 : c % e = 0 := by omega
                  rw [r0, s0, Nat.mul_zero, Nat.mul_zero] at fq
                  exact bI_f0 (fun q => (hG.mp q).elim (fun q => absurd (fq.1.mp q.2) (Nat.lt_irrefl _)) (fun q => absurd (fq.2.mp q.2) (Nat.lt_irrefl _)))
                · have c7 : ¬ ((lN (((a)) % ((b)))).toInt = (lN (((c)) % ((e)))).toInt) := c7
                  rw [lN_big (n := (((a)) % ((b)))) (by omega), lN_big (n := (((c)) % ((e)))) (by omega)] at c7
                  refine wn_ld (pc' := 107) (q := 14) (kin := 1) (v := .long (lN (((a)) % ((b))))) rfl (fun _ _ _ => rfl) rfl rfl ?_
                  refine wn_ld (pc' := 109) (q := 16) (kin := 1) (v := .long (lN (((c)) % ((e))))) rfl (fun _ _ _ => rfl) rfl rfl ?_
                  refine wn_pu (pc' := 110) (st' := [.int (lg_cmp (lN (((a)) % ((b)))) (lN (((c)) % ((e)))))]) rfl (fun _ _ _ => rfl) rfl rfl ?_
                  refine wn_lc (t := 117) (f := 113) rfl rfl rfl (fun c8 => ?_) (fun c8 => ?_)
                  · have c8 : (lN (((a)) % ((b)))).toInt ≤ (lN (((c)) % ((e)))).toInt := c8
                    rw [lN_big (n := (((a)) % ((b)))) (by omega), lN_big (n := (((c)) % ((e)))) (by omega)] at c8
                    refine wn_ic (pc' := 118) (w := nI 0) rfl rfl (by decide) ?_
                    refine wn_ld (pc' := 120) (q := 8) (kin := 0) (v := .int (bI (p))) rfl (fun _ _ _ => rfl) rfl rfl ?_
                    refine wn_icmp (t := 127) (f := 123) rfl rfl rfl (fun c9 => ?_) (fun c9 => ?_)
                    · have c9 : ((nI (0))) = ((bI (p))) := c9
                      refine wn_ic (pc' := 128) (w := nI 0) rfl rfl (by decide) ?_
                      refine wn_iret rfl rfl (by decide) ⟨congrArg (fun z => some (Value.int z)) ?_, rfl⟩
                      have fq := fr_sub (a := a) (b := b) (c := c) (e := e) (by omega)
                      have o1 : a * e < c * b := fq.2.mpr (by have r0 : a % b = 0 := (by omega); rw [r0, Nat.mul_zero]; exact Nat.mul_pos hb0 (by omega))
                      by_cases hp : p
                      · exact absurd (c9.trans ((bI_t1 hp).symm)) (by decide)
                      · exact bI_f0 (fun q => (hG.mp q).elim (fun q => absurd q.2 (Nat.lt_asymm o1)) (fun q => hp q.1))
                    · have c9 : ¬ ((nI (0))) = ((bI (p))) := c9
                      refine wn_ic (pc' := 124) (w := nI 1) rfl rfl (by decide) ?_
                      refine wn_jp (pc' := 128) rfl rfl ?_
                      refine wn_iret rfl rfl (by decide) ⟨congrArg (fun z => some (Value.int z)) ?_, rfl⟩
                      have fq := fr_sub (a := a) (b := b) (c := c) (e := e) (by omega)
                      have o1 : a * e < c * b := fq.2.mpr (by have r0 : a % b = 0 := (by omega); rw [r0, Nat.mul_zero]; exact Nat.mul_pos hb0 (by omega))
                      by_cases hp : p
                      · exact bI_t1 (hG.mpr (Or.inr ⟨hp, o1⟩))
                      · exact absurd (show nI 0 = bI p from bI_f0 hp) c9
                  · have c8 : ¬ ((lN (((a)) % ((b)))).toInt ≤ (lN (((c)) % ((e)))).toInt) := c8
                    rw [lN_big (n := (((a)) % ((b)))) (by omega), lN_big (n := (((c)) % ((e)))) (by omega)] at c8
                    refine wn_ic (pc' := 114) (w := nI 1) rfl rfl (by decide) ?_
                    refine wn_jp (pc' := 118) rfl rfl ?_
                    refine wn_ld (pc' := 120) (q := 8) (kin := 0) (v := .int (bI (p))) rfl (fun _ _ _ => rfl) rfl rfl ?_
                    refine wn_icmp (t := 127) (f := 123) rfl rfl rfl (fun c10 => ?_) (fun c10 => ?_)
                    · have c10 : ((nI (1))) = ((bI (p))) := c10
                      refine wn_ic (pc' := 128) (w := nI 0) rfl rfl (by decide) ?_
                      refine wn_iret rfl rfl (by decide) ⟨congrArg (fun z => some (Value.int z)) ?_, rfl⟩
                      have fq := fr_sub (a := a) (b := b) (c := c) (e := e) (by omega)
                      have o1 : c * b < a * e := fq.1.mpr (by have s0 : c % e = 0 := (by omega); rw [s0, Nat.mul_zero]; exact Nat.mul_pos he0 (by omega))
                      by_cases hp : p
                      · exact bI_f0 (fun q => (hG.mp q).elim (fun q => q.1 hp) (fun q => absurd q.2 (Nat.lt_asymm o1)))
                      · exact absurd (c10.trans ((bI_f0 hp).symm)) (by decide)
                    · have c10 : ¬ ((nI (1))) = ((bI (p))) := c10
                      refine wn_ic (pc' := 124) (w := nI 1) rfl rfl (by decide) ?_
                      refine wn_jp (pc' := 128) rfl rfl ?_
                      refine wn_iret rfl rfl (by decide) ⟨congrArg (fun z => some (Value.int z)) ?_, rfl⟩
                      have fq := fr_sub (a := a) (b := b) (c := c) (e := e) (by omega)
                      have o1 : c * b < a * e := fq.1.mpr (by have s0 : c % e = 0 := (by omega); rw [s0, Nat.mul_zero]; exact Nat.mul_pos he0 (by omega))
                      by_cases hp : p
                      · exact absurd (show nI 1 = bI p from bI_t1 hp) c10
                      · exact bI_t1 (hG.mpr (Or.inl ⟨hp, o1⟩))
              · have c6 : ¬ ((lN (((a)) % ((b)))).toInt = (lN 0).toInt) := c6
                rw [lN_big (n := (((a)) % ((b)))) (by omega), lN_big (n := 0) (by omega)] at c6
                refine wn_ld (pc' := 92) (q := 16) (kin := 1) (v := .long (lN (((c)) % ((e))))) rfl (fun _ _ _ => rfl) rfl rfl ?_
                refine wn_pu (pc' := 93) (st' := .long (lN 0) :: [.long (lN (((c)) % ((e))))]) rfl (fun _ _ _ => rfl) rfl rfl ?_
                refine wn_pu (pc' := 94) (st' := [.int (lg_cmp (lN (((c)) % ((e)))) (lN 0))]) rfl (fun _ _ _ => rfl) rfl rfl ?_
                refine wn_lc (t := 129) (f := 97) rfl rfl rfl (fun c11 => ?_) (fun c11 => ?_)
                · have c11 : ¬ (lN (((c)) % ((e)))).toInt = (lN 0).toInt := c11
                  rw [lN_big (n := (((c)) % ((e)))) (by omega), lN_big (n := 0) (by omega)] at c11
                  refine wn_ld (pc' := 130) (q := 2) (kin := 1) (v := .long (lN (b))) rfl (fun _ _ _ => rfl) rfl rfl ?_
                  refine wn_st (pc' := 131) (q := 0) (kin := 1) (lv' := [(0, .long (lN (b))), (2, .long (lN (b))), (4, .long (lN (c))), (6, .long (lN (e))), (8, .int (bI (p))), (9, .int (nI (s))), (10, .long (lN (((a)) / ((b))))), (12, .long (lN (((c)) / ((e))))), (14, .long (lN (((a)) % ((b))))), (16, .long (lN (((c)) % ((e)))))]) rfl (fun _ _ _ => rfl) rfl (Nat.le_of_ble_eq_true rfl) rfl ?_
                  refine wn_ld (pc' := 133) (q := 14) (kin := 1) (v := .long (lN (((a)) % ((b))))) rfl (fun _ _ _ => rfl) rfl rfl ?_
                  refine wn_st (pc' := 134) (q := 2) (kin := 1) (lv' := [(0, .long (lN (b))), (2, .long (lN (((a)) % ((b))))), (4, .long (lN (c))), (6, .long (lN (e))), (8, .int (bI (p))), (9, .int (nI (s))), (10, .long (lN (((a)) / ((b))))), (12, .long (lN (((c)) / ((e))))), (14, .long (lN (((a)) % ((b))))), (16, .long (lN (((c)) % ((e)))))]) rfl (fun _ _ _ => rfl) rfl (Nat.le_of_ble_eq_true rfl) rfl ?_
                  refine wn_ld (pc' := 136) (q := 6) (kin := 1) (v := .long (lN (e))) rfl (fun _ _ _ => rfl) rfl rfl ?_
                  refine wn_st (pc' := 138) (q := 4) (kin := 1) (lv' := [(0, .long (lN (b))), (2, .long (lN (((a)) % ((b))))), (4, .long (lN (e))), (6, .long (lN (e))), (8, .int (bI (p))), (9, .int (nI (s))), (10, .long (lN (((a)) / ((b))))), (12, .long (lN (((c)) / ((e))))), (14, .long (lN (((a)) % ((b))))), (16, .long (lN (((c)) % ((e)))))]) rfl (fun _ _ _ => rfl) rfl (Nat.le_of_ble_eq_true rfl) rfl ?_
                  refine wn_ld (pc' := 140) (q := 16) (kin := 1) (v := .long (lN (((c)) % ((e))))) rfl (fun _ _ _ => rfl) rfl rfl ?_
                  refine wn_st (pc' := 142) (q := 6) (kin := 1) (lv' := [(0, .long (lN (b))), (2, .long (lN (((a)) % ((b))))), (4, .long (lN (e))), (6, .long (lN (((c)) % ((e))))), (8, .int (bI (p))), (9, .int (nI (s))), (10, .long (lN (((a)) / ((b))))), (12, .long (lN (((c)) / ((e))))), (14, .long (lN (((a)) % ((b))))), (16, .long (lN (((c)) % ((e)))))]) rfl (fun _ _ _ => rfl) rfl (Nat.le_of_ble_eq_true rfl) rfl ?_
                  refine wn_ld (pc' := 144) (q := 8) (kin := 0) (v := .int (bI (p))) rfl (fun _ _ _ => rfl) rfl rfl ?_
                  refine wn_ifneB (t := 151) (f := 147) rfl rfl rfl (fun c12 => ?_) (fun c12 => ?_)
                  · have c12 : (p) := c12
                    refine wn_ic (pc' := 152) (w := nI 0) rfl rfl (by decide) ?_
                    refine wn_st (pc' := 154) (q := 8) (kin := 0) (lv' := [(0, .long (lN (b))), (2, .long (lN (((a)) % ((b))))), (4, .long (lN (e))), (6, .long (lN (((c)) % ((e))))), (8, .int (nI (0))), (9, .int (nI (s))), (10, .long (lN (((a)) / ((b))))), (12, .long (lN (((c)) / ((e))))), (14, .long (lN (((a)) % ((b))))), (16, .long (lN (((c)) % ((e)))))]) rfl (fun _ _ _ => rfl) rfl (Nat.le_of_ble_eq_true rfl) rfl ?_
                    refine wn_incN (n := 1) (pc' := 157) (lv' := [(0, .long (lN (b))), (2, .long (lN (((a)) % ((b))))), (4, .long (lN (e))), (6, .long (lN (((c)) % ((e))))), (8, .int (nI (0))), (9, .int (nI (s + 1))), (10, .long (lN (((a)) / ((b))))), (12, .long (lN (((c)) / ((e))))), (14, .long (lN (((a)) % ((b))))), (16, .long (lN (((c)) % ((e)))))]) rfl rfl rfl (Nat.le_of_ble_eq_true rfl) rfl (by decide) ?_
                    refine wn_jp (pc' := 6) rfl rfl ?_
                    have fq := fr_sub (a := a) (b := b) (c := c) (e := e) (by omega)
                    refine wn_weak (lv' := [(0, .long (lN (b))), (2, .long (lN (((a)) % ((b))))), (4, .long (lN (e))), (6, .long (lN (((c)) % ((e))))), (8, .int (nI (0))), (9, .int (nI (s + 1)))]) (by simp) ?_
                    have z9 := ih_lp1 b ((a % b)) e ((c % e)) ((¬ p)) (s + 1) (by omega) (by omega) (by omega) (by omega) (by omega) (by omega) (by omega) (by omega) (hG.trans (flip_i fq)) (EuM_s hE1 (by omega)) (EuM_s hE2 (by omega))
                    rw [show (bI (((¬ p)))) = (nI (0)) from (by exact (bI_f0 (fun q => q c12)).symm)] at z9
                    exact z9
                  · have c12 : ¬ (p) := c12
                    refine wn_ic (pc' := 148) (w := nI 1) rfl rfl (by decide) ?_
                    refine wn_jp (pc' := 152) rfl rfl ?_
                    refine wn_st (pc' := 154) (q := 8) (kin := 0) (lv' := [(0, .long (lN (b))), (2, .long (lN (((a)) % ((b))))), (4, .long (lN (e))), (6, .long (lN (((c)) % ((e))))), (8, .int (nI (1))), (9, .int (nI (s))), (10, .long (lN (((a)) / ((b))))), (12, .long (lN (((c)) / ((e))))), (14, .long (lN (((a)) % ((b))))), (16, .long (lN (((c)) % ((e)))))]) rfl (fun _ _ _ => rfl) rfl (Nat.le_of_ble_eq_true rfl) rfl ?_
                    refine wn_incN (n := 1) (pc' := 157) (lv' := [(0, .long (lN (b))), (2, .long (lN (((a)) % ((b))))), (4, .long (lN (e))), (6, .long (lN (((c)) % ((e))))), (8, .int (nI (1))), (9, .int (nI (s + 1))), (10, .long (lN (((a)) / ((b))))), (12, .long (lN (((c)) / ((e))))), (14, .long (lN (((a)) % ((b))))), (16, .long (lN (((c)) % ((e)))))]) rfl rfl rfl (Nat.le_of_ble_eq_true rfl) rfl (by decide) ?_
                    refine wn_jp (pc' := 6) rfl rfl ?_
                    have fq := fr_sub (a := a) (b := b) (c := c) (e := e) (by omega)
                    refine wn_weak (lv' := [(0, .long (lN (b))), (2, .long (lN (((a)) % ((b))))), (4, .long (lN (e))), (6, .long (lN (((c)) % ((e))))), (8, .int (nI (1))), (9, .int (nI (s + 1)))]) (by simp) ?_
                    have z9 := ih_lp1 b ((a % b)) e ((c % e)) ((¬ p)) (s + 1) (by omega) (by omega) (by omega) (by omega) (by omega) (by omega) (by omega) (by omega) (hG.trans (flip_i fq)) (EuM_s hE1 (by omega)) (EuM_s hE2 (by omega))
                    rw [show (bI (((¬ p)))) = (nI (1)) from (by exact (bI_t1 c12).symm)] at z9
                    exact z9
                · have c11 : ¬ (¬ (lN (((c)) % ((e)))).toInt = (lN 0).toInt) := c11
                  rw [lN_big (n := (((c)) % ((e)))) (by omega), lN_big (n := 0) (by omega)] at c11
                  refine wn_ld (pc' := 99) (q := 14) (kin := 1) (v := .long (lN (((a)) % ((b))))) rfl (fun _ _ _ => rfl) rfl rfl ?_
                  refine wn_ld (pc' := 101) (q := 16) (kin := 1) (v := .long (lN (((c)) % ((e))))) rfl (fun _ _ _ => rfl) rfl rfl ?_
                  refine wn_pu (pc' := 102) (st' := [.int (lg_cmp (lN (((a)) % ((b)))) (lN (((c)) % ((e)))))]) rfl (fun _ _ _ => rfl) rfl rfl ?_
                  refine wn_lc (t := 127) (f := 105) rfl rfl rfl (fun c13 => ?_) (fun c13 => ?_)
                  · have c13 : (lN (((a)) % ((b)))).toInt = (lN (((c)) % ((e)))).toInt := c13
                    rw [lN_big (n := (((a)) % ((b)))) (by omega), lN_big (n := (((c)) % ((e)))) (by omega)] at c13
                    refine wn_ic (pc' := 128) (w := nI 0) rfl rfl (by decide) ?_
                    refine wn_iret rfl rfl (by decide) ⟨congrArg (fun z => some (Value.int z)) ?_, rfl⟩
                    have fq := fr_sub (a := a) (b := b) (c := c) (e := e) (by omega)
                    have r0 : a % b = 0 := by omega
                    have s0 : c % e = 0 := by omega
                    rw [r0, s0, Nat.mul_zero, Nat.mul_zero] at fq
                    exact bI_f0 (fun q => (hG.mp q).elim (fun q => absurd (fq.1.mp q.2) (Nat.lt_irrefl _)) (fun q => absurd (fq.2.mp q.2) (Nat.lt_irrefl _)))
                  · have c13 : ¬ ((lN (((a)) % ((b)))).toInt = (lN (((c)) % ((e)))).toInt) := c13
                    rw [lN_big (n := (((a)) % ((b)))) (by omega), lN_big (n := (((c)) % ((e)))) (by omega)] at c13
                    refine wn_ld (pc' := 107) (q := 14) (kin := 1) (v := .long (lN (((a)) % ((b))))) rfl (fun _ _ _ => rfl) rfl rfl ?_
                    refine wn_ld (pc' := 109) (q := 16) (kin := 1) (v := .long (lN (((c)) % ((e))))) rfl (fun _ _ _ => rfl) rfl rfl ?_
                    refine wn_pu (pc' := 110) (st' := [.int (lg_cmp (lN (((a)) % ((b)))) (lN (((c)) % ((e)))))]) rfl (fun _ _ _ => rfl) rfl rfl ?_
                    refine wn_lc (t := 117) (f := 113) rfl rfl rfl (fun c14 => ?_) (fun c14 => ?_)
                    · have c14 : (lN (((a)) % ((b)))).toInt ≤ (lN (((c)) % ((e)))).toInt := c14
                      rw [lN_big (n := (((a)) % ((b)))) (by omega), lN_big (n := (((c)) % ((e)))) (by omega)] at c14
                      refine wn_ic (pc' := 118) (w := nI 0) rfl rfl (by decide) ?_
                      refine wn_ld (pc' := 120) (q := 8) (kin := 0) (v := .int (bI (p))) rfl (fun _ _ _ => rfl) rfl rfl ?_
                      refine wn_icmp (t := 127) (f := 123) rfl rfl rfl (fun c15 => ?_) (fun c15 => ?_)
                      · have c15 : ((nI (0))) = ((bI (p))) := c15
                        refine wn_ic (pc' := 128) (w := nI 0) rfl rfl (by decide) ?_
                        refine wn_iret rfl rfl (by decide) ⟨congrArg (fun z => some (Value.int z)) ?_, rfl⟩
                        have fq := fr_sub (a := a) (b := b) (c := c) (e := e) (by omega)
                        have o1 : a * e < c * b := fq.2.mpr (by have r0 : a % b = 0 := (by omega); rw [r0, Nat.mul_zero]; exact Nat.mul_pos hb0 (by omega))
                        by_cases hp : p
                        · exact absurd (c15.trans ((bI_t1 hp).symm)) (by decide)
                        · exact bI_f0 (fun q => (hG.mp q).elim (fun q => absurd q.2 (Nat.lt_asymm o1)) (fun q => hp q.1))
                      · have c15 : ¬ ((nI (0))) = ((bI (p))) := c15
                        refine wn_ic (pc' := 124) (w := nI 1) rfl rfl (by decide) ?_
                        refine wn_jp (pc' := 128) rfl rfl ?_
                        refine wn_iret rfl rfl (by decide) ⟨congrArg (fun z => some (Value.int z)) ?_, rfl⟩
                        have fq := fr_sub (a := a) (b := b) (c := c) (e := e) (by omega)
                        have o1 : a * e < c * b := fq.2.mpr (by have r0 : a % b = 0 := (by omega); rw [r0, Nat.mul_zero]; exact Nat.mul_pos hb0 (by omega))
                        by_cases hp : p
                        · exact bI_t1 (hG.mpr (Or.inr ⟨hp, o1⟩))
                        · exact absurd (show nI 0 = bI p from bI_f0 hp) c15
                    · have c14 : ¬ ((lN (((a)) % ((b)))).toInt ≤ (lN (((c)) % ((e)))).toInt) := c14
                      rw [lN_big (n := (((a)) % ((b)))) (by omega), lN_big (n := (((c)) % ((e)))) (by omega)] at c14
                      refine wn_ic (pc' := 114) (w := nI 1) rfl rfl (by decide) ?_
                      refine wn_jp (pc' := 118) rfl rfl ?_
                      refine wn_ld (pc' := 120) (q := 8) (kin := 0) (v := .int (bI (p))) rfl (fun _ _ _ => rfl) rfl rfl ?_
                      refine wn_icmp (t := 127) (f := 123) rfl rfl rfl (fun c16 => ?_) (fun c16 => ?_)
                      · have c16 : ((nI (1))) = ((bI (p))) := c16
                        refine wn_ic (pc' := 128) (w := nI 0) rfl rfl (by decide) ?_
                        refine wn_iret rfl rfl (by decide) ⟨congrArg (fun z => some (Value.int z)) ?_, rfl⟩
                        have fq := fr_sub (a := a) (b := b) (c := c) (e := e) (by omega)
                        have o1 : c * b < a * e := fq.1.mpr (by have s0 : c % e = 0 := (by omega); rw [s0, Nat.mul_zero]; exact Nat.mul_pos he0 (by omega))
                        by_cases hp : p
                        · exact bI_f0 (fun q => (hG.mp q).elim (fun q => q.1 hp) (fun q => absurd q.2 (Nat.lt_asymm o1)))
                        · exact absurd (c16.trans ((bI_f0 hp).symm)) (by decide)
                      · have c16 : ¬ ((nI (1))) = ((bI (p))) := c16
                        refine wn_ic (pc' := 124) (w := nI 1) rfl rfl (by decide) ?_
                        refine wn_jp (pc' := 128) rfl rfl ?_
                        refine wn_iret rfl rfl (by decide) ⟨congrArg (fun z => some (Value.int z)) ?_, rfl⟩
                        have fq := fr_sub (a := a) (b := b) (c := c) (e := e) (by omega)
                        have o1 : c * b < a * e := fq.1.mpr (by have s0 : c % e = 0 := (by omega); rw [s0, Nat.mul_zero]; exact Nat.mul_pos he0 (by omega))
                        by_cases hp : p
                        · exact absurd (show nI 1 = bI p from bI_t1 hp) c16
                        · exact bI_t1 (hG.mpr (Or.inl ⟨hp, o1⟩))
            · have c5 : ¬ ((lN (((a)) / ((b)))).toInt = (lN (((c)) / ((e)))).toInt) := c5
              rw [lN_big (n := (((a)) / ((b)))) (by omega), lN_big (n := (((c)) / ((e)))) (by omega)] at c5
              refine wn_ld (pc' := 49) (q := 10) (kin := 1) (v := .long (lN (((a)) / ((b))))) rfl (fun _ _ _ => rfl) rfl rfl ?_
              refine wn_ld (pc' := 51) (q := 12) (kin := 1) (v := .long (lN (((c)) / ((e))))) rfl (fun _ _ _ => rfl) rfl rfl ?_
              refine wn_pu (pc' := 52) (st' := [.int (lg_cmp (lN (((a)) / ((b)))) (lN (((c)) / ((e)))))]) rfl (fun _ _ _ => rfl) rfl rfl ?_
              refine wn_lc (t := 59) (f := 55) rfl rfl rfl (fun c17 => ?_) (fun c17 => ?_)
              · have c17 : (lN (((a)) / ((b)))).toInt ≤ (lN (((c)) / ((e)))).toInt := c17
                rw [lN_big (n := (((a)) / ((b)))) (by omega), lN_big (n := (((c)) / ((e)))) (by omega)] at c17
                refine wn_ic (pc' := 60) (w := nI 0) rfl rfl (by decide) ?_
                refine wn_ld (pc' := 62) (q := 8) (kin := 0) (v := .int (bI (p))) rfl (fun _ _ _ => rfl) rfl rfl ?_
                refine wn_icmp (t := 69) (f := 65) rfl rfl rfl (fun c18 => ?_) (fun c18 => ?_)
                · have c18 : ((nI (0))) = ((bI (p))) := c18
                  refine wn_ic (pc' := 70) (w := nI 0) rfl rfl (by decide) ?_
                  refine wn_iret rfl rfl (by decide) ⟨congrArg (fun z => some (Value.int z)) ?_, rfl⟩
                  have o1 : a * e < c * b := fr_gt he0 hb0 (by omega)
                  by_cases hp : p
                  · exact absurd (c18.trans ((bI_t1 hp).symm)) (by decide)
                  · exact bI_f0 (fun q => (hG.mp q).elim (fun q => absurd q.2 (Nat.lt_asymm o1)) (fun q => hp q.1))
                · have c18 : ¬ ((nI (0))) = ((bI (p))) := c18
                  refine wn_ic (pc' := 66) (w := nI 1) rfl rfl (by decide) ?_
                  refine wn_jp (pc' := 70) rfl rfl ?_
                  refine wn_iret rfl rfl (by decide) ⟨congrArg (fun z => some (Value.int z)) ?_, rfl⟩
                  have o1 : a * e < c * b := fr_gt he0 hb0 (by omega)
                  by_cases hp : p
                  · exact bI_t1 (hG.mpr (Or.inr ⟨hp, o1⟩))
                  · exact absurd (show nI 0 = bI p from bI_f0 hp) c18
              · have c17 : ¬ ((lN (((a)) / ((b)))).toInt ≤ (lN (((c)) / ((e)))).toInt) := c17
                rw [lN_big (n := (((a)) / ((b)))) (by omega), lN_big (n := (((c)) / ((e)))) (by omega)] at c17
                refine wn_ic (pc' := 56) (w := nI 1) rfl rfl (by decide) ?_
                refine wn_jp (pc' := 60) rfl rfl ?_
                refine wn_ld (pc' := 62) (q := 8) (kin := 0) (v := .int (bI (p))) rfl (fun _ _ _ => rfl) rfl rfl ?_
                refine wn_icmp (t := 69) (f := 65) rfl rfl rfl (fun c19 => ?_) (fun c19 => ?_)
                · have c19 : ((nI (1))) = ((bI (p))) := c19
                  refine wn_ic (pc' := 70) (w := nI 0) rfl rfl (by decide) ?_
                  refine wn_iret rfl rfl (by decide) ⟨congrArg (fun z => some (Value.int z)) ?_, rfl⟩
                  have o1 : c * b < a * e := fr_gt hb0 he0 (by omega)
                  by_cases hp : p
                  · exact bI_f0 (fun q => (hG.mp q).elim (fun q => q.1 hp) (fun q => absurd q.2 (Nat.lt_asymm o1)))
                  · exact absurd (c19.trans ((bI_f0 hp).symm)) (by decide)
                · have c19 : ¬ ((nI (1))) = ((bI (p))) := c19
                  refine wn_ic (pc' := 66) (w := nI 1) rfl rfl (by decide) ?_
                  refine wn_jp (pc' := 70) rfl rfl ?_
                  refine wn_iret rfl rfl (by decide) ⟨congrArg (fun z => some (Value.int z)) ?_, rfl⟩
                  have o1 : c * b < a * e := fr_gt hb0 he0 (by omega)
                  by_cases hp : p
                  · exact absurd (show nI 1 = bI p from bI_t1 hp) c19
                  · exact bI_t1 (hG.mpr (Or.inl ⟨hp, o1⟩))
  refine wn_weak (lv' := [(0, .long (lN (a0))), (2, .long (lN (b0))), (4, .long (lN (c0))), (6, .long (lN (e0))), (8, .int (nI (0))), (9, .int (nI (0)))]) (by simp) ?_
  have z9 := lp1 (200 + 1) a0 b0 c0 e0 False 0 (by omega) (by omega) ha0 hb0 hc0 he0 hb1 he1 ⟨fun q => Or.inl ⟨fun q => q, q⟩, fun q => q.elim (fun q => q.2) (fun q => q.1.elim)⟩ (Or.inl ⟨rfl, hab⟩) (Or.inl ⟨rfl, hce⟩)
  rw [show (bI (False)) = (nI (0)) from (by exact (bI_f0 (fun q => q)).symm)] at z9
  exact z9

theorem x_hasGreaterOdds (d : Nat) (h : aH) (ls : Nat) (w : Nat → Int32) (hWf : WfW w) (V : XV h ls w) (v u : Nat) (hv9 : v < nvW w) (hu : u < nvW w) : Rn (d + 4) 119 [.ref (0), .int (nI (v)), .int (nI (u))] h (some (.int (bI (ahW w v u)))) h 0 0 := by
  obtain ⟨⟨e1, e2⟩, ⟨e3, e4⟩, ⟨e5, e6⟩⟩ := Wf_n hWf
  obtain ⟨⟨e7, e8⟩, ⟨e9, e10⟩⟩ := Wf_m hWf
  obtain ⟨v0, ⟨x9, v1⟩, ⟨v2, ⟨sz, rf, rt, rv, ag, vr, sd, tl, l0, l1, l2, l3, l4, l5, l6, l7, l8, g1, g2, g3, g4, g5⟩, ⟨sec, it, fi, se, sg, lst, rs, rp, pj, pk, pv, k0, k1, k2, k3, k4, k5, k6, k7, k8, k9, k10, k11, k12, k13⟩, ⟨hv, hc, y0, y1, y2, y3, y4⟩, ⟨an, wk, n0, n1, n2, n3, n4⟩⟩, v3⟩ := id V
  rw [e1, e3, e5] at l0
  rw [e7, e9] at k1
  refine Rn_of (by decide) (Nat.le_of_ble_eq_true rfl) ?_
  show Wn _ _ 0 [(0, .ref (0)), (1, .int (nI (v))), (2, .int (nI (u)))] [] _ _
  refine wn_ld (pc' := 1) (q := 0) (kin := 2) (v := .ref (0)) rfl (fun _ _ _ => rfl) rfl rfl ?_
  refine wn_ld (pc' := 2) (q := 1) (kin := 0) (v := .int (nI (v))) rfl (fun _ _ _ => rfl) rfl rfl ?_
  have := upN_B hWf (show v < nvW w by omega) (Nat.le_refl _)
  refine wn_virL (pc' := 5) rfl rfl (by decide) rfl rfl v1 (Nat.le_of_ble_eq_true rfl) (x_upperOdds _ _ ls w hWf V v (by omega)) ?_
  refine wn_ld (pc' := 6) (q := 0) (kin := 2) (v := .ref (0)) rfl (fun _ _ _ => rfl) rfl rfl ?_
  refine wn_ld (pc' := 7) (q := 1) (kin := 0) (v := .int (nI (v))) rfl (fun _ _ _ => rfl) rfl rfl ?_
  have := loN_B hWf (show v < nvW w by omega) (Nat.le_refl _)
  refine wn_virL (pc' := 10) rfl rfl (by decide) rfl rfl v1 (Nat.le_of_ble_eq_true rfl) (x_lowerOdds _ _ ls w hWf V v (by omega)) ?_
  refine wn_ld (pc' := 11) (q := 0) (kin := 2) (v := .ref (0)) rfl (fun _ _ _ => rfl) rfl rfl ?_
  refine wn_ld (pc' := 12) (q := 2) (kin := 0) (v := .int (nI (u))) rfl (fun _ _ _ => rfl) rfl rfl ?_
  have := upN_B hWf (show u < nvW w by omega) (Nat.le_refl _)
  refine wn_virL (pc' := 15) rfl rfl (by decide) rfl rfl v1 (Nat.le_of_ble_eq_true rfl) (x_upperOdds _ _ ls w hWf V u (by omega)) ?_
  refine wn_ld (pc' := 16) (q := 0) (kin := 2) (v := .ref (0)) rfl (fun _ _ _ => rfl) rfl rfl ?_
  refine wn_ld (pc' := 17) (q := 2) (kin := 0) (v := .int (nI (u))) rfl (fun _ _ _ => rfl) rfl rfl ?_
  have := loN_B hWf (show u < nvW w by omega) (Nat.le_refl _)
  refine wn_virL (pc' := 20) rfl rfl (by decide) rfl rfl v1 (Nat.le_of_ble_eq_true rfl) (x_lowerOdds _ _ ls w hWf V u (by omega)) ?_
  refine wn_staI (pc' := 23) rfl rfl (by decide) rfl rfl (Nat.le_of_ble_eq_true rfl) (x_isGreater _ _ _ _ _ _ (by omega) (by omega) (by omega) (by omega) (by omega) (by omega) (prod_b (by omega) (by omega)) (prod_b (by omega) (by omega))) ?_
  show Wn _ _ _ _ (.int (bI (ahW w v u)) :: _) _ _
  exact wn_iret rfl rfl (nar_bI _) ⟨rfl, rfl⟩

noncomputable def likelyA (w : Nat → Int32) : Int32 := oI (lkS (ahW w) (nvW w))
noncomputable def aheadA (w : Nat → Int32) (v : Int32) : Int32 := qI (iin v (nvW w)) (nI (cntP (fun u => ahW w u v.toNatClampNeg) (nvW w))) (-2)
theorem x_likely (d : Nat) (h : aH) (ls : Nat) (w : Nat → Int32) (hWf : WfW w) (V : XV h ls w) (R0 : RX h h ls w) : Sp (Rn (d + 5)) 117 [.ref (0)] h (fun r9 h9 => r9 = some (.int (likelyA w)) ∧ RX h h9 ls w) := by
  obtain ⟨⟨e1, e2⟩, ⟨e3, e4⟩, ⟨e5, e6⟩⟩ := Wf_n hWf
  obtain ⟨⟨e7, e8⟩, ⟨e9, e10⟩⟩ := Wf_m hWf
  obtain ⟨v0, ⟨x9, v1⟩, ⟨v2, ⟨sz, rf, rt, rv, ag, vr, sd, tl, l0, l1, l2, l3, l4, l5, l6, l7, l8, g1, g2, g3, g4, g5⟩, ⟨sec, it, fi, se, sg, lst, rs, rp, pj, pk, pv, k0, k1, k2, k3, k4, k5, k6, k7, k8, k9, k10, k11, k12, k13⟩, ⟨hv, hc, y0, y1, y2, y3, y4⟩, ⟨an, wk, n0, n1, n2, n3, n4⟩⟩, v3⟩ := id V
  rw [e1, e3, e5] at l0
  rw [e7, e9] at k1
  refine Sp_of (by decide) (Nat.le_of_ble_eq_true rfl) ?_
  show Wn _ _ 0 [(0, .ref (0))] [] _ _
  refine wn_ic (pc' := 1) (w := -1) rfl rfl (by decide) ?_
  refine wn_st (pc' := 2) (q := 1) (kin := 0) (lv' := [(0, .ref (0)), (1, .int (-1))]) rfl (fun _ _ _ => rfl) rfl (Nat.le_of_ble_eq_true rfl) rfl ?_
  refine wn_ic (pc' := 3) (w := nI 0) rfl rfl (by decide) ?_
  refine wn_st (pc' := 4) (q := 2) (kin := 0) (lv' := [(0, .ref (0)), (1, .int (-1)), (2, .int (nI (0)))]) rfl (fun _ _ _ => rfl) rfl (Nat.le_of_ble_eq_true rfl) rfl ?_
  have lp1 : ∀ (n_lp1 : Nat) (k : Nat), (nvW w) + 1 ≤ k + n_lp1 → k ≤ nvW w → Wn (Rn (d + 4)) 117 4 [(0, .ref (0)), (1, .int (oI (lkS (ahW w) k))), (2, .int (nI (k)))] [] (h) (fun r9 h9 => r9 = some (.int (likelyA w)) ∧ RX h h9 ls w) := by
    intro n_lp1
    induction n_lp1 with
    | zero => intro k hm_lp1 hk; exfalso; omega
    | succ n_lp1 ih_lp1 =>
      intro k hm_lp1 hk
      refine wn_ld (pc' := 5) (q := 2) (kin := 0) (v := .int (nI (k))) rfl (fun _ _ _ => rfl) rfl rfl ?_
      refine wn_ld (pc' := 6) (q := 0) (kin := 2) (v := .ref (0)) rfl (fun _ _ _ => rfl) rfl rfl ?_
      refine wn_get (pc' := 9) (v := .ref (23)) rfl rfl v1 rfl ?_
      refine wn_get (pc' := 12) (v := .ref (ls)) rfl rfl v2 rfl ?_
      refine wn_get (pc' := 15) (v := .int (nI (nvW w))) rfl rfl l0 rfl ?_
      refine wn_icmpN (t := 40) (f := 18) rfl rfl rfl (by omega) (by omega) (fun c2 => ?_) (fun c2 => ?_)
      · have c2 : (nvW w) ≤ k := c2
        obtain rfl : k = nvW w := by omega
        refine wn_ld (pc' := 41) (q := 1) (kin := 0) (v := .int (oI (lkS (ahW w) (nvW w)))) rfl (fun _ _ _ => rfl) rfl rfl ?_
        exact wn_iret rfl rfl rfl ⟨rfl, (RY.rx (RY.rfl' R0.2.2.1) R0.2.2.2)⟩
      · have c2 : k < (nvW w) := c2
        cases ho9 : lkS (ahW w) k with
        | none =>
          show Wn _ _ 18 [(0, .ref (0)), (1, .int (-1)), (2, .int (nI (k)))] _ _ _
          refine wn_ld (pc' := 19) (q := 1) (kin := 0) (v := .int (-1)) rfl (fun _ _ _ => rfl) rfl rfl ?_
          refine wn_ic (pc' := 20) (w := -1) rfl rfl (by decide) ?_
          refine wn_icmp (t := 32) (f := 23) rfl rfl rfl (fun c3 => ?_) (fun c3 => ?_)
          · have c3 : ((-1) : Int32) = ((-1)) := c3
            refine wn_ld (pc' := 33) (q := 2) (kin := 0) (v := .int (nI (k))) rfl (fun _ _ _ => rfl) rfl rfl ?_
            refine wn_st (pc' := 34) (q := 1) (kin := 0) (lv' := [(0, .ref (0)), (1, .int (nI (k))), (2, .int (nI (k)))]) rfl (fun _ _ _ => rfl) rfl (Nat.le_of_ble_eq_true rfl) rfl ?_
            refine wn_incN (n := 1) (pc' := 37) (lv' := [(0, .ref (0)), (1, .int (nI (k))), (2, .int (nI (k + 1)))]) rfl rfl rfl (Nat.le_of_ble_eq_true rfl) rfl (by decide) ?_
            refine wn_jp (pc' := 4) rfl rfl ?_
            refine wn_weak (lv' := [(0, .ref (0)), (1, .int (nI (k))), (2, .int (nI (k + 1)))]) (by simp) ?_
            have z9 := ih_lp1 (k + 1) (by omega) (by omega)
            rw [show (oI (lkS (ahW w) (k + 1))) = (nI (k)) from (by exact congrArg oI (lkS_n ho9))] at z9
            exact z9
          · have c3 : ¬ ((-1) : Int32) = ((-1)) := c3
            exact absurd rfl c3
        | some b =>
          have hb9 := lkS_lt ho9
          show Wn _ _ 18 [(0, .ref (0)), (1, .int (nI (b))), (2, .int (nI (k)))] _ _ _
          refine wn_ld (pc' := 19) (q := 1) (kin := 0) (v := .int (nI (b))) rfl (fun _ _ _ => rfl) rfl rfl ?_
          refine wn_ic (pc' := 20) (w := -1) rfl rfl (by decide) ?_
          refine wn_icmp (t := 32) (f := 23) rfl rfl rfl (fun c4 => ?_) (fun c4 => ?_)
          · have c4 : ((nI (b))) = ((-1)) := c4
            exact absurd c4 (nI_m1 (by omega))
          · have c4 : ¬ ((nI (b))) = ((-1)) := c4
            refine wn_ld (pc' := 24) (q := 0) (kin := 2) (v := .ref (0)) rfl (fun _ _ _ => rfl) rfl rfl ?_
            refine wn_ld (pc' := 25) (q := 2) (kin := 0) (v := .int (nI (k))) rfl (fun _ _ _ => rfl) rfl rfl ?_
            refine wn_ld (pc' := 26) (q := 1) (kin := 0) (v := .int (nI (b))) rfl (fun _ _ _ => rfl) rfl rfl ?_
            refine wn_virI (pc' := 29) rfl rfl (by decide) rfl rfl v1 (Nat.le_of_ble_eq_true rfl) (x_hasGreaterOdds _ _ ls w hWf V k b (by omega) (by omega)) ?_
            refine wn_ifeqB (t := 34) (f := 32) rfl rfl rfl (fun c5 => ?_) (fun c5 => ?_)
            · have c5 : ¬ (ahW w k b) := c5
              refine wn_incN (n := 1) (pc' := 37) (lv' := [(0, .ref (0)), (1, .int (nI (b))), (2, .int (nI (k + 1)))]) rfl rfl rfl (Nat.le_of_ble_eq_true rfl) rfl (by decide) ?_
              refine wn_jp (pc' := 4) rfl rfl ?_
              refine wn_weak (lv' := [(0, .ref (0)), (1, .int (nI (b))), (2, .int (nI (k + 1)))]) (by simp) ?_
              have z9 := ih_lp1 (k + 1) (by omega) (by omega)
              rw [show (oI (lkS (ahW w) (k + 1))) = (nI (b)) from (by exact congrArg oI (lkS_f ho9 c5))] at z9
              exact z9
            · have c5 : (ahW w k b) := c5
              refine wn_ld (pc' := 33) (q := 2) (kin := 0) (v := .int (nI (k))) rfl (fun _ _ _ => rfl) rfl rfl ?_
              refine wn_st (pc' := 34) (q := 1) (kin := 0) (lv' := [(0, .ref (0)), (1, .int (nI (k))), (2, .int (nI (k)))]) rfl (fun _ _ _ => rfl) rfl (Nat.le_of_ble_eq_true rfl) rfl ?_
              refine wn_incN (n := 1) (pc' := 37) (lv' := [(0, .ref (0)), (1, .int (nI (k))), (2, .int (nI (k + 1)))]) rfl rfl rfl (Nat.le_of_ble_eq_true rfl) rfl (by decide) ?_
              refine wn_jp (pc' := 4) rfl rfl ?_
              refine wn_weak (lv' := [(0, .ref (0)), (1, .int (nI (k))), (2, .int (nI (k + 1)))]) (by simp) ?_
              have z9 := ih_lp1 (k + 1) (by omega) (by omega)
              rw [show (oI (lkS (ahW w) (k + 1))) = (nI (k)) from (by exact congrArg oI (lkS_t ho9 c5))] at z9
              exact z9
  refine wn_weak (lv' := [(0, .ref (0)), (1, .int (-1)), (2, .int (nI (0)))]) (by simp) ?_
  have z9 := lp1 ((nvW w) + 1) 0 (by omega) (by omega)
  rw [show (oI (lkS (ahW w) 0)) = (-1) from (by rfl)] at z9
  exact z9

theorem x_ahead (d : Nat) (h : aH) (ls : Nat) (w : Nat → Int32) (hWf : WfW w) (V : XV h ls w) (R0 : RX h h ls w) (v : Int32) : Sp (Rn (d + 5)) 118 [.ref (0), .int (v)] h (fun r9 h9 => r9 = some (.int (aheadA w v)) ∧ RX h h9 ls w) := by
  obtain ⟨⟨e1, e2⟩, ⟨e3, e4⟩, ⟨e5, e6⟩⟩ := Wf_n hWf
  obtain ⟨⟨e7, e8⟩, ⟨e9, e10⟩⟩ := Wf_m hWf
  obtain ⟨v0, ⟨x9, v1⟩, ⟨v2, ⟨sz, rf, rt, rv, ag, vr, sd, tl, l0, l1, l2, l3, l4, l5, l6, l7, l8, g1, g2, g3, g4, g5⟩, ⟨sec, it, fi, se, sg, lst, rs, rp, pj, pk, pv, k0, k1, k2, k3, k4, k5, k6, k7, k8, k9, k10, k11, k12, k13⟩, ⟨hv, hc, y0, y1, y2, y3, y4⟩, ⟨an, wk, n0, n1, n2, n3, n4⟩⟩, v3⟩ := id V
  rw [e1, e3, e5] at l0
  rw [e7, e9] at k1
  refine Sp_of (by decide) (Nat.le_of_ble_eq_true rfl) ?_
  show Wn _ _ 0 [(0, .ref (0)), (1, .int (v))] [] _ _
  refine wn_ld (pc' := 1) (q := 0) (kin := 2) (v := .ref (0)) rfl (fun _ _ _ => rfl) rfl rfl ?_
  refine wn_ld (pc' := 2) (q := 1) (kin := 0) (v := .int (v)) rfl (fun _ _ _ => rfl) rfl rfl ?_
  refine wn_virI (pc' := 5) rfl rfl (by decide) rfl rfl v1 (Nat.le_of_ble_eq_true rfl) (x_hasVillage _ _ ls w hWf V _) ?_
  refine wn_ifneB (t := 11) (f := 8) rfl rfl rfl (fun c1 => ?_) (fun c1 => ?_)
  · have c1 : (iin v (nvW w)) := c1
    obtain ⟨v9, hv9, rfl⟩ := iin_of c1
    have ti_v := nI_toInt (n := v9) (show v9 < 2 ^ 31 by omega)
    have cl_v := nI_clamp (n := v9) (show v9 < 2 ^ 31 by omega)
    refine wn_ic (pc' := 12) (w := nI 0) rfl rfl (by decide) ?_
    refine wn_st (pc' := 13) (q := 2) (kin := 0) (lv' := [(0, .ref (0)), (1, .int (nI (v9))), (2, .int (nI (0)))]) rfl (fun _ _ _ => rfl) rfl (Nat.le_of_ble_eq_true rfl) rfl ?_
    refine wn_ic (pc' := 14) (w := nI 0) rfl rfl (by decide) ?_
    refine wn_st (pc' := 15) (q := 3) (kin := 0) (lv' := [(0, .ref (0)), (1, .int (nI (v9))), (2, .int (nI (0))), (3, .int (nI (0)))]) rfl (fun _ _ _ => rfl) rfl (Nat.le_of_ble_eq_true rfl) rfl ?_
    have lp2 : ∀ (n_lp2 : Nat) (u : Nat), (nvW w) + 1 ≤ u + n_lp2 → u ≤ nvW w → Wn (Rn (d + 4)) 118 15 [(0, .ref (0)), (1, .int (nI (v9))), (2, .int (nI (cntP (fun x7 => ahW w x7 v9) u))), (3, .int (nI (u)))] [] (h) (fun r9 h9 => r9 = some (.int (aheadA w (nI v9))) ∧ RX h h9 ls w) := by
      intro n_lp2
      induction n_lp2 with
      | zero => intro u hm_lp2 hk_u; exfalso; omega
      | succ n_lp2 ih_lp2 =>
        intro u hm_lp2 hk_u
        have := cntP_le (fun x7 => ahW w x7 v9) u
        refine wn_ld (pc' := 16) (q := 3) (kin := 0) (v := .int (nI (u))) rfl (fun _ _ _ => rfl) rfl rfl ?_
        refine wn_ld (pc' := 17) (q := 0) (kin := 2) (v := .ref (0)) rfl (fun _ _ _ => rfl) rfl rfl ?_
        refine wn_get (pc' := 20) (v := .ref (23)) rfl rfl v1 rfl ?_
        refine wn_get (pc' := 23) (v := .ref (ls)) rfl rfl v2 rfl ?_
        refine wn_get (pc' := 26) (v := .int (nI (nvW w))) rfl rfl l0 rfl ?_
        refine wn_icmpN (t := 47) (f := 29) rfl rfl rfl (by omega) (by omega) (fun c3 => ?_) (fun c3 => ?_)
        · have c3 : (nvW w) ≤ u := c3
          obtain rfl : u = nvW w := by omega
          refine wn_ld (pc' := 48) (q := 2) (kin := 0) (v := .int (nI (cntP (fun x7 => ahW w x7 v9) (nvW w)))) rfl (fun _ _ _ => rfl) rfl rfl ?_
          try simp only [Int32.lt_iff_toInt_lt, Int32.le_iff_toInt_le, i2l_int, Int32.toInt_zero, iin] at c1
          refine wn_iret rfl rfl rfl ⟨congrArg (fun z => some (Value.int z)) ?_, (RY.rx (RY.rfl' R0.2.2.1) R0.2.2.2)⟩
          unfold aheadA
          rw [qI_t (by simp only [iin]; omega)]
          first | rfl | (simp only [cl_v]; done) | (simp only [cl_v]; rfl)
        · have c3 : u < (nvW w) := c3
          refine wn_ld (pc' := 30) (q := 0) (kin := 2) (v := .ref (0)) rfl (fun _ _ _ => rfl) rfl rfl ?_
          refine wn_ld (pc' := 31) (q := 3) (kin := 0) (v := .int (nI (u))) rfl (fun _ _ _ => rfl) rfl rfl ?_
          refine wn_ld (pc' := 32) (q := 1) (kin := 0) (v := .int (nI (v9))) rfl (fun _ _ _ => rfl) rfl rfl ?_
          refine wn_virI (pc' := 35) rfl rfl (by decide) rfl rfl v1 (Nat.le_of_ble_eq_true rfl) (x_hasGreaterOdds _ _ ls w hWf V u v9 (by omega) (by omega)) ?_
          refine wn_ifeqB (t := 41) (f := 38) rfl rfl rfl (fun c4 => ?_) (fun c4 => ?_)
          · have c4 : ¬ (ahW w u v9) := c4
            refine wn_incN (n := 1) (pc' := 44) (lv' := [(0, .ref (0)), (1, .int (nI (v9))), (2, .int (nI (cntP (fun x7 => ahW w x7 v9) u))), (3, .int (nI (u + 1)))]) rfl rfl rfl (Nat.le_of_ble_eq_true rfl) rfl (by decide) ?_
            refine wn_jp (pc' := 15) rfl rfl ?_
            refine wn_weak (lv' := [(0, .ref (0)), (1, .int (nI (v9))), (2, .int (nI (cntP (fun x7 => ahW w x7 v9) u))), (3, .int (nI (u + 1)))]) (by simp) ?_
            have z9 := ih_lp2 (u + 1) (by omega) (by omega)
            rw [show (nI (cntP (fun x7 => ahW w x7 v9) (u + 1))) = (nI (cntP (fun x7 => ahW w x7 v9) u)) from (by exact congrArg nI (cntP_f (p := fun x7 => ahW w x7 v9) c4))] at z9
            exact z9
          · have c4 : (ahW w u v9) := c4
            refine wn_incN (n := 1) (pc' := 41) (lv' := [(0, .ref (0)), (1, .int (nI (v9))), (2, .int (nI (cntP (fun x7 => ahW w x7 v9) u + 1))), (3, .int (nI (u)))]) rfl rfl rfl (Nat.le_of_ble_eq_true rfl) rfl (by decide) ?_
            refine wn_incN (n := 1) (pc' := 44) (lv' := [(0, .ref (0)), (1, .int (nI (v9))), (2, .int (nI (cntP (fun x7 => ahW w x7 v9) u + 1))), (3, .int (nI (u + 1)))]) rfl rfl rfl (Nat.le_of_ble_eq_true rfl) rfl (by decide) ?_
            refine wn_jp (pc' := 15) rfl rfl ?_
            refine wn_weak (lv' := [(0, .ref (0)), (1, .int (nI (v9))), (2, .int (nI (cntP (fun x7 => ahW w x7 v9) u + 1))), (3, .int (nI (u + 1)))]) (by simp) ?_
            have z9 := ih_lp2 (u + 1) (by omega) (by omega)
            rw [show (nI (cntP (fun x7 => ahW w x7 v9) (u + 1))) = (nI (cntP (fun x7 => ahW w x7 v9) u + 1)) from (by exact congrArg nI (cntP_t (p := fun x7 => ahW w x7 v9) c4))] at z9
            exact z9
    refine wn_weak (lv' := [(0, .ref (0)), (1, .int (nI (v9))), (2, .int (nI (0))), (3, .int (nI (0)))]) (by simp) ?_
    have z9 := lp2 ((nvW w) + 1) 0 (by omega) (by omega)
    rw [show (nI (cntP (fun x7 => ahW w x7 v9) 0)) = (nI (0)) from (by rfl)] at z9
    exact z9
  · have c1 : ¬ (iin v (nvW w)) := c1
    refine wn_bp (pc' := 10) (w := -2) rfl rfl (by decide) ?_
    try simp only [Int32.lt_iff_toInt_lt, Int32.le_iff_toInt_le, i2l_int, Int32.toInt_zero, iin] at c1
    refine wn_iret rfl rfl rfl ⟨congrArg (fun z => some (Value.int z)) ?_, (RY.rx (RY.rfl' R0.2.2.1) R0.2.2.2)⟩
    unfold aheadA
    rw [qI_f (by simp only [iin]; omega)]

theorem m_oddsOf (d : Nat) (h : aH) (w : Nat → Int32) (hWf : WfW w) (HM : MH h w) (v : Nat) (hv : v < nvW w) : Sp (Rn (d + 3)) 225 [.ref (71), .int (nI (v))] h (fun r9 h9 => r9 = none ∧ RU h h9 ∧ ∃ th tp sz at9 fr tk vl fk fp il, isO h9 71 9 (MoF th tp sz at9 fr tk vl fk fp il (lN (ruW w v)) (lN (rlW w v)))) := by
  obtain ⟨⟨e1, e2⟩, ⟨e3, e4⟩, ⟨e5, e6⟩⟩ := Wf_n hWf
  obtain ⟨⟨e7, e8⟩, ⟨e9, e10⟩⟩ := Wf_m hWf
  obtain ⟨th, tp, sz, at9, fr, tk, vl, fk, fp, il, up, lo, hM, hW⟩ := id HM
  refine Sp_of (by decide) (Nat.le_of_ble_eq_true rfl) ?_
  show Wn _ _ 0 [(0, .ref (71)), (1, .int (nI (v)))] [] _ _
  refine wn_ld (pc' := 1) (q := 0) (kin := 2) (v := .ref (71)) rfl (fun _ _ _ => rfl) rfl rfl ?_
  refine wn_pu (pc' := 2) (st' := .long (lN 1) :: [.ref (71)]) rfl (fun _ _ _ => rfl) rfl rfl ?_
  refine wn_put (pc' := 5) rfl rfl hM (Nat.le_of_ble_eq_true rfl) ⟨rfl, rfl⟩ ?_
  show Wn _ _ 5 _ [] (h.set 71 (.inr (9, [.int (th), .ref (72), .ref (73), .ref (74), .ref (75), .int (tp), .ref (76), .int (sz), .int (at9), .int (fr), .int (tk), .int (vl), .int (fk), .int (fp), .ref (77), .int (il), .ref (78), .ref (79), .ref (80), .long (lN 1), .long (lo), .ref (81), .ref (82), .ref (83), .ref (84)]))) _
  refine wn_ld (pc' := 6) (q := 0) (kin := 2) (v := .ref (71)) rfl (fun _ _ _ => rfl) rfl rfl ?_
  refine wn_pu (pc' := 7) (st' := .long (lN 1) :: [.ref (71)]) rfl (fun _ _ _ => rfl) rfl rfl ?_
  refine wn_put (pc' := 10) rfl rfl (gs_self hM) (Nat.le_of_ble_eq_true rfl) ⟨rfl, rfl⟩ ?_
  show Wn _ _ 10 _ [] ((h.set 71 (.inr (9, [.int (th), .ref (72), .ref (73), .ref (74), .ref (75), .int (tp), .ref (76), .int (sz), .int (at9), .int (fr), .int (tk), .int (vl), .int (fk), .int (fp), .ref (77), .int (il), .ref (78), .ref (79), .ref (80), .long (lN 1), .long (lo), .ref (81), .ref (82), .ref (83), .ref (84)]))).set 71 (.inr (9, [.int (th), .ref (72), .ref (73), .ref (74), .ref (75), .int (tp), .ref (76), .int (sz), .int (at9), .int (fr), .int (tk), .int (vl), .int (fk), .int (fp), .ref (77), .int (il), .ref (78), .ref (79), .ref (80), .long (lN 1), .long (lN 1), .ref (81), .ref (82), .ref (83), .ref (84)]))) _
  refine wn_ic (pc' := 11) (w := nI 0) rfl rfl (by decide) ?_
  refine wn_st (pc' := 12) (q := 2) (kin := 0) (lv' := [(0, .ref (71)), (1, .int (nI (v))), (2, .int (nI (0)))]) rfl (fun _ _ _ => rfl) rfl (Nat.le_of_ble_eq_true rfl) rfl ?_
  have lp2 : ∀ (n_lp2 : Nat) (g1 : aH) (i : Nat), (ntW w) + 1 ≤ i + n_lp2 → Fr [71] h g1 → isO g1 71 9 [.int (th), .ref (72), .ref (73), .ref (74), .ref (75), .int (tp), .ref (76), .int (sz), .int (at9), .int (fr), .int (tk), .int (vl), .int (fk), .int (fp), .ref (77), .int (il), .ref (78), .ref (79), .ref (80), .long (lN (upN w v i)), .long (lN (loN w v i)), .ref (81), .ref (82), .ref (83), .ref (84)] → i ≤ ntW w → Wn (Rn (d + 2)) 225 12 [(0, .ref (71)), (1, .int (nI (v))), (2, .int (nI (i)))] [] (g1) (fun r9 h9 => r9 = none ∧ RU h h9 ∧ ∃ th tp sz at9 fr tk vl fk fp il, isO h9 71 9 (MoF th tp sz at9 fr tk vl fk fp il (lN (ruW w v)) (lN (rlW w v)))) := by
    intro n_lp2
    induction n_lp2 with
    | zero => intro g1 i hm_lp2 hf_g1 c_71_g1 hi; exfalso; omega
    | succ n_lp2 ih_lp2 =>
      intro g1 i hm_lp2 hf_g1 c_71_g1 hi
      have HM_g1 : MH g1 w := ⟨_, _, _, _, _, _, _, _, _, _, _, _, c_71_g1, ((hf_g1.2 72 (by decide)).trans hW)⟩
      have ub := upN_B hWf hv hi
      have lb := loN_B hWf hv hi
      refine wn_ld (pc' := 13) (q := 2) (kin := 0) (v := .int (nI (i))) rfl (fun _ _ _ => rfl) rfl rfl ?_
      refine wn_ld (pc' := 14) (q := 0) (kin := 2) (v := .ref (71)) rfl (fun _ _ _ => rfl) rfl rfl ?_
      refine wn_get (pc' := 17) (v := .ref (72)) rfl rfl c_71_g1 rfl ?_
      refine wn_ic (pc' := 18) (w := nI 3) rfl rfl (by decide) ?_
      refine wn_ialdv (pc' := 19) (j := 3) (v := (nI (ntW w))) rfl rfl ((hf_g1.2 72 (by decide)).trans hW) rfl (by omega) (by decide) (e5) ?_
      refine wn_icmpN (t := 86) (f := 22) rfl rfl rfl (by omega) (by omega) (fun c3 => ?_) (fun c3 => ?_)
      · have c3 : (ntW w) ≤ i := c3
        obtain rfl : i = ntW w := by omega
        refine wn_ld (pc' := 87) (q := 0) (kin := 2) (v := .ref (71)) rfl (fun _ _ _ => rfl) rfl rfl ?_
        refine wn_get (pc' := 90) (v := .long (lN (upN w v (ntW w)))) rfl rfl c_71_g1 rfl ?_
        refine wn_st (pc' := 91) (q := 2) (kin := 1) (lv' := [(0, .ref (71)), (1, .int (nI (v))), (2, .long (lN (upN w v (ntW w))))]) rfl (fun _ _ _ => rfl) rfl (Nat.le_of_ble_eq_true rfl) rfl ?_
        refine wn_ld (pc' := 92) (q := 0) (kin := 2) (v := .ref (71)) rfl (fun _ _ _ => rfl) rfl rfl ?_
        refine wn_get (pc' := 95) (v := .long (lN (loN w v (ntW w)))) rfl rfl c_71_g1 rfl ?_
        refine wn_st (pc' := 97) (q := 4) (kin := 1) (lv' := [(0, .ref (71)), (1, .int (nI (v))), (2, .long (lN (upN w v (ntW w)))), (4, .long (lN (loN w v (ntW w))))]) rfl (fun _ _ _ => rfl) rfl (Nat.le_of_ble_eq_true rfl) rfl ?_
        have ub := upN_B hWf hv (Nat.le_refl (ntW w))
        have lb := loN_B hWf hv (Nat.le_refl (ntW w))
        have lp4 : ∀ (n_lp4 : Nat) (x : Nat) (y : Nat), (loN w v (ntW w)) + 1 ≤ (loN w v (ntW w) - y) + n_lp4 → x < 2 ^ 63 → y ≤ loN w v (ntW w) → Nat.gcd x y = Nat.gcd (upN w v (ntW w)) (loN w v (ntW w)) → Wn (Rn (d + 2)) 225 97 [(0, .ref (71)), (2, .long (lN (x))), (4, .long (lN (y)))] [] (g1) (fun r9 h9 => r9 = none ∧ RU h h9 ∧ ∃ th tp sz at9 fr tk vl fk fp il, isO h9 71 9 (MoF th tp sz at9 fr tk vl fk fp il (lN (ruW w v)) (lN (rlW w v)))) := by
          intro n_lp4
          induction n_lp4 with
          | zero => intro x y hm_lp4 hx hy hg; exfalso; omega
          | succ n_lp4 ih_lp4 =>
            intro x y hm_lp4 hx hy hg
            refine wn_ld (pc' := 99) (q := 4) (kin := 1) (v := .long (lN (y))) rfl (fun _ _ _ => rfl) rfl rfl ?_
            refine wn_pu (pc' := 100) (st' := .long (lN 0) :: [.long (lN (y))]) rfl (fun _ _ _ => rfl) rfl rfl ?_
            refine wn_pu (pc' := 101) (st' := [.int (lg_cmp (lN (y)) (lN 0))]) rfl (fun _ _ _ => rfl) rfl rfl ?_
            refine wn_lc (t := 120) (f := 104) rfl rfl rfl (fun c5 => ?_) (fun c5 => ?_)
            · have c5 : (lN (y)).toInt = (lN 0).toInt := c5
              rw [lN_big (n := (y)) (by omega), lN_big (n := 0) (by omega)] at c5
              have xg : x = gcW w v := (by have y0 : y = 0 := (by omega); rw [y0, Nat.gcd_zero_right] at hg; exact hg)
              subst xg
              have g0 := gc_pos hWf hv
              refine wn_ld (pc' := 121) (q := 0) (kin := 2) (v := .ref (71)) rfl (fun _ _ _ => rfl) rfl rfl ?_
              refine wn_pu (pc' := 122) (st' := [.ref (71), .ref (71)]) rfl (fun _ _ _ => rfl) rfl rfl ?_
              refine wn_get (pc' := 125) (v := .long (lN (upN w v (ntW w)))) rfl rfl c_71_g1 rfl ?_
              refine wn_ld (pc' := 126) (q := 2) (kin := 1) (v := .long (lN ((gcW w v)))) rfl (fun _ _ _ => rfl) rfl rfl ?_
              have := Nat.div_le_self ((upN w v (ntW w))) (((gcW w v)))
              have := Nat.mod_lt ((upN w v (ntW w))) (show 0 < ((gcW w v)) by omega)
              refine wn_ldivN (pc' := 127) rfl rfl (by omega) (by omega) (by omega) ?_
              refine wn_put (pc' := 130) rfl rfl c_71_g1 (Nat.le_of_ble_eq_true rfl) ⟨rfl, rfl⟩ ?_
              show Wn _ _ 130 _ [] (g1.set 71 (.inr (9, [.int (th), .ref (72), .ref (73), .ref (74), .ref (75), .int (tp), .ref (76), .int (sz), .int (at9), .int (fr), .int (tk), .int (vl), .int (fk), .int (fp), .ref (77), .int (il), .ref (78), .ref (79), .ref (80), .long (lN (((upN w v (ntW w))) / (((gcW w v))))), .long (lN (loN w v (ntW w))), .ref (81), .ref (82), .ref (83), .ref (84)]))) _
              refine wn_ld (pc' := 131) (q := 0) (kin := 2) (v := .ref (71)) rfl (fun _ _ _ => rfl) rfl rfl ?_
              refine wn_pu (pc' := 132) (st' := [.ref (71), .ref (71)]) rfl (fun _ _ _ => rfl) rfl rfl ?_
              refine wn_get (pc' := 135) (v := .long (lN (loN w v (ntW w)))) rfl rfl (gs_self c_71_g1) rfl ?_
              refine wn_ld (pc' := 136) (q := 2) (kin := 1) (v := .long (lN ((gcW w v)))) rfl (fun _ _ _ => rfl) rfl rfl ?_
              have := Nat.div_le_self ((loN w v (ntW w))) (((gcW w v)))
              have := Nat.mod_lt ((loN w v (ntW w))) (show 0 < ((gcW w v)) by omega)
              refine wn_ldivN (pc' := 137) rfl rfl (by omega) (by omega) (by omega) ?_
              refine wn_put (pc' := 140) rfl rfl (gs_self c_71_g1) (Nat.le_of_ble_eq_true rfl) ⟨rfl, rfl⟩ ?_
              show Wn _ _ 140 _ [] ((g1.set 71 (.inr (9, [.int (th), .ref (72), .ref (73), .ref (74), .ref (75), .int (tp), .ref (76), .int (sz), .int (at9), .int (fr), .int (tk), .int (vl), .int (fk), .int (fp), .ref (77), .int (il), .ref (78), .ref (79), .ref (80), .long (lN (((upN w v (ntW w))) / (((gcW w v))))), .long (lN (loN w v (ntW w))), .ref (81), .ref (82), .ref (83), .ref (84)]))).set 71 (.inr (9, [.int (th), .ref (72), .ref (73), .ref (74), .ref (75), .int (tp), .ref (76), .int (sz), .int (at9), .int (fr), .int (tk), .int (vl), .int (fk), .int (fp), .ref (77), .int (il), .ref (78), .ref (79), .ref (80), .long (lN (((upN w v (ntW w))) / (((gcW w v))))), .long (lN (((loN w v (ntW w))) / (((gcW w v))))), .ref (81), .ref (82), .ref (83), .ref (84)]))) _
              refine wn_vret rfl rfl ⟨rfl, ⟨(Fr.st (Fr.st hf_g1 (by decide)) (by decide)).1, fun k hk => (Fr.st (Fr.st hf_g1 (by decide)) (by decide)).2 k (by simp only [List.mem_cons, List.not_mem_nil, or_false]; exact hk), _, _, _, _, _, _, _, _, _, _, _, _, _, _, hM, (gs_self (gs_self c_71_g1))⟩, _, _, _, _, _, _, _, _, _, _, (gs_self (gs_self c_71_g1))⟩
            · have c5 : ¬ ((lN (y)).toInt = (lN 0).toInt) := c5
              rw [lN_big (n := (y)) (by omega), lN_big (n := 0) (by omega)] at c5
              refine wn_ld (pc' := 105) (q := 2) (kin := 1) (v := .long (lN (x))) rfl (fun _ _ _ => rfl) rfl rfl ?_
              refine wn_ld (pc' := 107) (q := 4) (kin := 1) (v := .long (lN (y))) rfl (fun _ _ _ => rfl) rfl rfl ?_
              have := Nat.div_le_self ((x)) ((y))
              have := Nat.mod_lt ((x)) (show 0 < (y) by omega)
              refine wn_lremN (pc' := 108) rfl rfl (by omega) (by omega) (by omega) ?_
              refine wn_st (pc' := 110) (q := 6) (kin := 1) (lv' := [(0, .ref (71)), (2, .long (lN (x))), (4, .long (lN (y))), (6, .long (lN (((x)) % ((y)))))]) rfl (fun _ _ _ => rfl) rfl (Nat.le_of_ble_eq_true rfl) rfl ?_
              refine wn_ld (pc' := 112) (q := 4) (kin := 1) (v := .long (lN (y))) rfl (fun _ _ _ => rfl) rfl rfl ?_
              refine wn_st (pc' := 113) (q := 2) (kin := 1) (lv' := [(0, .ref (71)), (2, .long (lN (y))), (4, .long (lN (y))), (6, .long (lN (((x)) % ((y)))))]) rfl (fun _ _ _ => rfl) rfl (Nat.le_of_ble_eq_true rfl) rfl ?_
              refine wn_ld (pc' := 115) (q := 6) (kin := 1) (v := .long (lN (((x)) % ((y))))) rfl (fun _ _ _ => rfl) rfl rfl ?_
              refine wn_st (pc' := 117) (q := 4) (kin := 1) (lv' := [(0, .ref (71)), (2, .long (lN (y))), (4, .long (lN (((x)) % ((y))))), (6, .long (lN (((x)) % ((y)))))]) rfl (fun _ _ _ => rfl) rfl (Nat.le_of_ble_eq_true rfl) rfl ?_
              refine wn_jp (pc' := 97) rfl rfl ?_
              refine wn_weak (lv' := [(0, .ref (71)), (2, .long (lN (y))), (4, .long (lN (((x)) % ((y)))))]) (by simp) ?_
              have z9 := ih_lp4 y (x % y) (by omega) (by omega) (by omega) (gcd_st.symm.trans hg)
              exact z9
        refine wn_weak (lv' := [(0, .ref (71)), (2, .long (lN (upN w v (ntW w)))), (4, .long (lN (loN w v (ntW w))))]) (by simp) ?_
        have z9 := lp4 ((loN w v (ntW w)) + 1) (upN w v (ntW w)) (loN w v (ntW w)) (by omega) (by omega) (by omega) rfl
        exact z9
      · have c3 : i < (ntW w) := c3
        refine wn_ld (pc' := 23) (q := 0) (kin := 2) (v := .ref (71)) rfl (fun _ _ _ => rfl) rfl rfl ?_
        refine wn_ld (pc' := 24) (q := 2) (kin := 0) (v := .int (nI (i))) rfl (fun _ _ _ => rfl) rfl rfl ?_
        refine wn_virI (pc' := 27) rfl rfl (by decide) rfl rfl c_71_g1 (Nat.le_of_ble_eq_true rfl) (m_isHeard _ _ w HM_g1 i (by omega)) ?_
        refine wn_ifneB (t := 33) (f := 30) rfl rfl rfl (fun c6 => ?_) (fun c6 => ?_)
        · have c6 : (¬ w (178 + 4 * i) = -1) := c6
          refine wn_ld (pc' := 34) (q := 0) (kin := 2) (v := .ref (71)) rfl (fun _ _ _ => rfl) rfl rfl ?_
          refine wn_pu (pc' := 35) (st' := [.ref (71), .ref (71)]) rfl (fun _ _ _ => rfl) rfl rfl ?_
          refine wn_get (pc' := 38) (v := .long (lN (upN w v i))) rfl rfl c_71_g1 rfl ?_
          refine wn_ld (pc' := 39) (q := 0) (kin := 2) (v := .ref (71)) rfl (fun _ _ _ => rfl) rfl rfl ?_
          refine wn_ld (pc' := 40) (q := 1) (kin := 0) (v := .int (nI (v))) rfl (fun _ _ _ => rfl) rfl rfl ?_
          refine wn_ld (pc' := 41) (q := 2) (kin := 0) (v := .int (nI (i))) rfl (fun _ _ _ => rfl) rfl rfl ?_
          refine wn_ld (pc' := 42) (q := 0) (kin := 2) (v := .ref (71)) rfl (fun _ _ _ => rfl) rfl rfl ?_
          refine wn_ld (pc' := 43) (q := 2) (kin := 0) (v := .int (nI (i))) rfl (fun _ _ _ => rfl) rfl rfl ?_
          refine wn_ic (pc' := 44) (w := nI 2) rfl rfl (by decide) ?_
          refine wn_virI (pc' := 47) rfl rfl (by decide) rfl rfl c_71_g1 (Nat.le_of_ble_eq_true rfl) (m_ofItem _ _ w HM_g1 i 2 (by omega)) ?_
          rw [show 176 + 4 * i + 2 = 178 + 4 * i by omega]
          obtain ⟨ea, ha⟩ := hvA_e hWf (show i < ntW w by omega) c6
          rw [ea]
          have := nsF_b hWf (show v < nvW w by omega) (show i < ntW w by omega) (show (hvA w i) < 5 by omega)
          refine wn_virI (pc' := 50) rfl rfl (by decide) rfl rfl c_71_g1 (Nat.le_of_ble_eq_true rfl) (m_notesOf _ _ w HM_g1 v i (hvA w i) (by omega)) ?_
          rw [show 1476 + (v * 10 + i) * 5 + (hvA w i) = 1476 + ((v * 10 + i) * 5 + (hvA w i)) by omega, wf_ns hWf (show (v * 10 + i) * 5 + (hvA w i) < 1200 by omega)]
          show Wn _ _ _ _ (.int (nI (nsF w v i (hvA w i))) :: _) _ _
          refine wn_ic (pc' := 51) (w := nI 1) rfl rfl (by decide) ?_
          refine wn_addN (pc' := 52) rfl rfl ?_
          refine wn_i2lN (pc' := 53) rfl rfl (by omega) ?_
          refine wn_lmulN (pc' := 54) rfl rfl ?_
          refine wn_put (pc' := 57) rfl rfl c_71_g1 (Nat.le_of_ble_eq_true rfl) ⟨rfl, rfl⟩ ?_
          show Wn _ _ 57 _ [] (g1.set 71 (.inr (9, [.int (th), .ref (72), .ref (73), .ref (74), .ref (75), .int (tp), .ref (76), .int (sz), .int (at9), .int (fr), .int (tk), .int (vl), .int (fk), .int (fp), .ref (77), .int (il), .ref (78), .ref (79), .ref (80), .long (lN (((upN w v i)) * (((nsF w v i (hvA w i)) + 1)))), .long (lN (loN w v i)), .ref (81), .ref (82), .ref (83), .ref (84)]))) _
          refine wn_ld (pc' := 58) (q := 0) (kin := 2) (v := .ref (71)) rfl (fun _ _ _ => rfl) rfl rfl ?_
          refine wn_pu (pc' := 59) (st' := [.ref (71), .ref (71)]) rfl (fun _ _ _ => rfl) rfl rfl ?_
          refine wn_get (pc' := 62) (v := .long (lN (loN w v i))) rfl rfl (gs_self c_71_g1) rfl ?_
          refine wn_ld (pc' := 63) (q := 0) (kin := 2) (v := .ref (71)) rfl (fun _ _ _ => rfl) rfl rfl ?_
          refine wn_ld (pc' := 64) (q := 1) (kin := 0) (v := .int (nI (v))) rfl (fun _ _ _ => rfl) rfl rfl ?_
          refine wn_ld (pc' := 65) (q := 2) (kin := 0) (v := .int (nI (i))) rfl (fun _ _ _ => rfl) rfl rfl ?_
          have := naN_le hWf (show v < nvW w by omega) (show i < ntW w by omega) (a := 5) (by omega)
          refine wn_virI (pc' := 68) rfl rfl (by decide) rfl rfl (gs_self c_71_g1) (Nat.le_of_ble_eq_true rfl) (m_notesAll _ _ w hWf ⟨_, _, _, _, _, _, _, _, _, _, _, _, (gs_self c_71_g1), (gs_ne (by decide) ((hf_g1.2 72 (by decide)).trans hW))⟩ v i (by omega) (by omega)) ?_
          refine wn_ld (pc' := 69) (q := 0) (kin := 2) (v := .ref (71)) rfl (fun _ _ _ => rfl) rfl rfl ?_
          refine wn_ld (pc' := 70) (q := 2) (kin := 0) (v := .int (nI (i))) rfl (fun _ _ _ => rfl) rfl rfl ?_
          refine wn_ic (pc' := 71) (w := nI 0) rfl rfl (by decide) ?_
          have := wf_vab hWf (show i < ntW w by omega)
          refine wn_virI (pc' := 74) rfl rfl (by decide) rfl rfl (gs_self c_71_g1) (Nat.le_of_ble_eq_true rfl) (m_ofItem _ _ w ⟨_, _, _, _, _, _, _, _, _, _, _, _, (gs_self c_71_g1), (gs_ne (by decide) ((hf_g1.2 72 (by decide)).trans hW))⟩ i 0 (by omega)) ?_
          rw [show 176 + 4 * i + 0 = 176 + 4 * i by omega]
          rw [wf_va hWf (show i < ntW w by omega)]
          refine wn_addN (pc' := 75) rfl rfl ?_
          refine wn_i2lN (pc' := 76) rfl rfl (by omega) ?_
          refine wn_lmulN (pc' := 77) rfl rfl ?_
          refine wn_put (pc' := 80) rfl rfl (gs_self c_71_g1) (Nat.le_of_ble_eq_true rfl) ⟨rfl, rfl⟩ ?_
          show Wn _ _ 80 _ [] ((g1.set 71 (.inr (9, [.int (th), .ref (72), .ref (73), .ref (74), .ref (75), .int (tp), .ref (76), .int (sz), .int (at9), .int (fr), .int (tk), .int (vl), .int (fk), .int (fp), .ref (77), .int (il), .ref (78), .ref (79), .ref (80), .long (lN (((upN w v i)) * (((nsF w v i (hvA w i)) + 1)))), .long (lN (loN w v i)), .ref (81), .ref (82), .ref (83), .ref (84)]))).set 71 (.inr (9, [.int (th), .ref (72), .ref (73), .ref (74), .ref (75), .int (tp), .ref (76), .int (sz), .int (at9), .int (fr), .int (tk), .int (vl), .int (fk), .int (fp), .ref (77), .int (il), .ref (78), .ref (79), .ref (80), .long (lN (((upN w v i)) * (((nsF w v i (hvA w i)) + 1)))), .long (lN (((loN w v i)) * (((naN w v i 5) + (vaW w i))))), .ref (81), .ref (82), .ref (83), .ref (84)]))) _
          refine wn_incN (n := 1) (pc' := 83) (lv' := [(0, .ref (71)), (1, .int (nI (v))), (2, .int (nI (i + 1)))]) rfl rfl rfl (Nat.le_of_ble_eq_true rfl) rfl (by decide) ?_
          refine wn_jp (pc' := 12) rfl rfl ?_
          refine wn_weak (lv' := [(0, .ref (71)), (1, .int (nI (v))), (2, .int (nI (i + 1)))]) (by simp) ?_
          have z9 := ih_lp2 ((g1.set 71 (.inr (9, [.int (th), .ref (72), .ref (73), .ref (74), .ref (75), .int (tp), .ref (76), .int (sz), .int (at9), .int (fr), .int (tk), .int (vl), .int (fk), .int (fp), .ref (77), .int (il), .ref (78), .ref (79), .ref (80), .long (lN (((upN w v i)) * (((nsF w v i (hvA w i)) + 1)))), .long (lN (loN w v i)), .ref (81), .ref (82), .ref (83), .ref (84)]))).set 71 (.inr (9, [.int (th), .ref (72), .ref (73), .ref (74), .ref (75), .int (tp), .ref (76), .int (sz), .int (at9), .int (fr), .int (tk), .int (vl), .int (fk), .int (fp), .ref (77), .int (il), .ref (78), .ref (79), .ref (80), .long (lN (((upN w v i)) * (((nsF w v i (hvA w i)) + 1)))), .long (lN (((loN w v i)) * (((naN w v i 5) + (vaW w i))))), .ref (81), .ref (82), .ref (83), .ref (84)]))) (i + 1) (by omega) (Fr.st (Fr.st hf_g1 (by decide)) (by decide)) (by rw [upN_t c6, loN_t c6]; exact (gs_self (gs_self c_71_g1))) (by omega)
          exact z9
        · have c6 : ¬ (¬ w (178 + 4 * i) = -1) := c6
          refine wn_jp (pc' := 80) rfl rfl ?_
          refine wn_incN (n := 1) (pc' := 83) (lv' := [(0, .ref (71)), (1, .int (nI (v))), (2, .int (nI (i + 1)))]) rfl rfl rfl (Nat.le_of_ble_eq_true rfl) rfl (by decide) ?_
          refine wn_jp (pc' := 12) rfl rfl ?_
          refine wn_weak (lv' := [(0, .ref (71)), (1, .int (nI (v))), (2, .int (nI (i + 1)))]) (by simp) ?_
          have z9 := ih_lp2 g1 (i + 1) (by omega) hf_g1 (by rw [upN_f (Classical.not_not.mp c6), loN_f (Classical.not_not.mp c6)]; exact c_71_g1) (by omega)
          exact z9
  refine wn_weak (lv' := [(0, .ref (71)), (1, .int (nI (v))), (2, .int (nI (0)))]) (by simp) ?_
  have z9 := lp2 ((ntW w) + 1) ((h.set 71 (.inr (9, [.int (th), .ref (72), .ref (73), .ref (74), .ref (75), .int (tp), .ref (76), .int (sz), .int (at9), .int (fr), .int (tk), .int (vl), .int (fk), .int (fp), .ref (77), .int (il), .ref (78), .ref (79), .ref (80), .long (lN 1), .long (lo), .ref (81), .ref (82), .ref (83), .ref (84)]))).set 71 (.inr (9, [.int (th), .ref (72), .ref (73), .ref (74), .ref (75), .int (tp), .ref (76), .int (sz), .int (at9), .int (fr), .int (tk), .int (vl), .int (fk), .int (fp), .ref (77), .int (il), .ref (78), .ref (79), .ref (80), .long (lN 1), .long (lN 1), .ref (81), .ref (82), .ref (83), .ref (84)]))) 0 (by omega) (Fr.st (Fr.st (Fr.rfl' [71] h) (by decide)) (by decide)) (gs_self (gs_self hM)) (by omega)
  exact z9

theorem m_odds (d : Nat) (h : aH) (w : Nat → Int32) (hWf : WfW w) (HM : MH h w) (v : Int32) (b : Prop) : Sp (Rn (d + 4)) 226 [.ref (71), .int (v), .int (bI (b))] h (fun r9 h9 => r9 = some (.long (oddsA w v b)) ∧ RU h h9) := by
  obtain ⟨⟨e1, e2⟩, ⟨e3, e4⟩, ⟨e5, e6⟩⟩ := Wf_n hWf
  obtain ⟨⟨e7, e8⟩, ⟨e9, e10⟩⟩ := Wf_m hWf
  obtain ⟨th, tp, sz, at9, fr, tk, vl, fk, fp, il, up, lo, hM, hW⟩ := id HM
  refine Sp_of (by decide) (Nat.le_of_ble_eq_true rfl) ?_
  show Wn _ _ 0 [(0, .ref (71)), (1, .int (v)), (2, .int (bI (b)))] [] _ _
  refine wn_ld (pc' := 1) (q := 0) (kin := 2) (v := .ref (71)) rfl (fun _ _ _ => rfl) rfl rfl ?_
  refine wn_ld (pc' := 2) (q := 1) (kin := 0) (v := .int (v)) rfl (fun _ _ _ => rfl) rfl rfl ?_
  refine wn_virI (pc' := 5) rfl rfl (by decide) rfl rfl hM (Nat.le_of_ble_eq_true rfl) (m_isVillage _ _ w HM _ e1 (by omega) _) ?_
  refine wn_ifneB (t := 12) (f := 8) rfl rfl rfl (fun c1 => ?_) (fun c1 => ?_)
  · have c1 : (iin v (nvW w)) := c1
    obtain ⟨v9, hv9, rfl⟩ := iin_of c1
    have ti_v := nI_toInt (n := v9) (show v9 < 2 ^ 31 by omega)
    have cl_v := nI_clamp (n := v9) (show v9 < 2 ^ 31 by omega)
    refine wn_ld (pc' := 13) (q := 0) (kin := 2) (v := .ref (71)) rfl (fun _ _ _ => rfl) rfl rfl ?_
    refine wn_ld (pc' := 14) (q := 1) (kin := 0) (v := .int (nI (v9))) rfl (fun _ _ _ => rfl) rfl rfl ?_
    refine wn_virS (pc' := 17) rfl rfl (by decide) rfl rfl hM (Nat.le_of_ble_eq_true rfl) (m_oddsOf _ _ w hWf HM v9 (by omega)) (fun r9 h2 e3 => ?_)
    obtain ⟨rfl, RU_h2, th_h2, tp_h2, sz_h2, at9_h2, fr_h2, tk_h2, vl_h2, fk_h2, fp_h2, il_h2, o_h2⟩ := e3
    have RT_h2 := RU.tr (RU.rfl' HM) RU_h2
    have HM_h2 := RT_h2.mh HM
    have rb_h2 := red_b hWf (show v9 < nvW w by omega)
    show Wn _ _ 17 _ [] h2 _
    refine wn_ld (pc' := 18) (q := 2) (kin := 0) (v := .int (bI (b))) rfl (fun _ _ _ => rfl) rfl rfl ?_
    refine wn_ifeqB (t := 28) (f := 21) rfl rfl rfl (fun c4 => ?_) (fun c4 => ?_)
    · have c4 : ¬ (b) := c4
      refine wn_ld (pc' := 29) (q := 0) (kin := 2) (v := .ref (71)) rfl (fun _ _ _ => rfl) rfl rfl ?_
      refine wn_get (pc' := 32) (v := .long (lN (ruW w v9))) rfl rfl o_h2 rfl ?_
      refine wn_lret rfl rfl ⟨congrArg (fun z => some (Value.long z)) ?_, RT_h2⟩
      unfold oddsA
      rw [qL_t (iin_nI (by omega) (by omega)), cl_v]
      exact (qL_f c4).symm
    · have c4 : (b) := c4
      refine wn_ld (pc' := 22) (q := 0) (kin := 2) (v := .ref (71)) rfl (fun _ _ _ => rfl) rfl rfl ?_
      refine wn_get (pc' := 25) (v := .long (lN (rlW w v9))) rfl rfl o_h2 rfl ?_
      refine wn_jp (pc' := 32) rfl rfl ?_
      refine wn_lret rfl rfl ⟨congrArg (fun z => some (Value.long z)) ?_, RT_h2⟩
      unfold oddsA
      rw [qL_t (iin_nI (by omega) (by omega)), cl_v]
      exact (qL_t c4).symm
  · have c1 : ¬ (iin v (nvW w)) := c1
    refine wn_go (pc' := 11) (lv' := [(0, .ref (71)), (1, .int (v)), (2, .int (bI (b)))]) (st' := [.long ((-1 : Int64))]) rfl (fun _ _ _ k9 => k9) ?_
    refine wn_lret rfl rfl ⟨congrArg (fun z => some (Value.long z)) ?_, (RU.rfl' HM)⟩
    unfold oddsA
    rw [qL_f c1]

theorem case_31 (v : Int32) (b : Prop) : CaseL Rp 113 226 [.int v, .int (bI b)] := case_qUL (fun h ls w hWf V R => ⟨_, x_odds 696 h ls w hWf V R v b, fun h1 HM => m_odds 696 h1 w hWf HM v b⟩)
theorem m_cmp (m : Nat) : ∀ (d : Nat) (h : aH) (a b c e : Nat), 0 < b → 0 < e → a < 2 ^ 63 → b < 2 ^ 63 → c < 2 ^ 63 → e < 2 ^ 63 → b ≤ a → e ≤ c → a * b < 2 ^ m → c * e < 2 ^ m → Rn (d + m + 1) 227 [.long (lN (a)), .long (lN (b)), .long (lN (c)), .long (lN (e))] h (some (.int (cmpS (a * e) (c * b)))) h 0 0 := by
  induction m with
  | zero =>
    intro d h a b c e hb0 he0 ha hb hc he hba hec h1 h2
    exact absurd (Nat.mul_pos (show 0 < a by omega) hb0) (by omega)
  | succ m ih =>
    intro d h a b c e hb0 he0 ha hb hc he hba hec h1 h2
    refine Rn_of (by decide) (Nat.le_of_ble_eq_true rfl) ?_
    show Wn _ _ 0 [(0, .long (lN (a))), (2, .long (lN (b))), (4, .long (lN (c))), (6, .long (lN (e)))] [] _ _
    refine wn_ld (pc' := 1) (q := 0) (kin := 1) (v := .long (lN (a))) rfl (fun _ _ _ => rfl) rfl rfl ?_
    refine wn_ld (pc' := 2) (q := 2) (kin := 1) (v := .long (lN (b))) rfl (fun _ _ _ => rfl) rfl rfl ?_
    have := Nat.div_le_self ((a)) ((b))
    have := Nat.mod_lt ((a)) (show 0 < (b) by omega)
    refine wn_ldivN (pc' := 3) rfl rfl (by omega) (by omega) (by omega) ?_
    refine wn_st (pc' := 5) (q := 8) (kin := 1) (lv' := [(0, .long (lN (a))), (2, .long (lN (b))), (4, .long (lN (c))), (6, .long (lN (e))), (8, .long (lN (((a)) / ((b)))))]) rfl (fun _ _ _ => rfl) rfl (Nat.le_of_ble_eq_true rfl) rfl ?_
    refine wn_ld (pc' := 7) (q := 4) (kin := 1) (v := .long (lN (c))) rfl (fun _ _ _ => rfl) rfl rfl ?_
    refine wn_ld (pc' := 9) (q := 6) (kin := 1) (v := .long (lN (e))) rfl (fun _ _ _ => rfl) rfl rfl ?_
    have := Nat.div_le_self ((c)) ((e))
    have := Nat.mod_lt ((c)) (show 0 < (e) by omega)
    refine wn_ldivN (pc' := 10) rfl rfl (by omega) (by omega) (by omega) ?_
    refine wn_st (pc' := 12) (q := 10) (kin := 1) (lv' := [(0, .long (lN (a))), (2, .long (lN (b))), (4, .long (lN (c))), (6, .long (lN (e))), (8, .long (lN (((a)) / ((b))))), (10, .long (lN (((c)) / ((e)))))]) rfl (fun _ _ _ => rfl) rfl (Nat.le_of_ble_eq_true rfl) rfl ?_
    refine wn_ld (pc' := 14) (q := 8) (kin := 1) (v := .long (lN (((a)) / ((b))))) rfl (fun _ _ _ => rfl) rfl rfl ?_
    refine wn_ld (pc' := 16) (q := 10) (kin := 1) (v := .long (lN (((c)) / ((e))))) rfl (fun _ _ _ => rfl) rfl rfl ?_
    refine wn_pu (pc' := 17) (st' := [.int (lg_cmp (lN (((a)) / ((b)))) (lN (((c)) / ((e)))))]) rfl (fun _ _ _ => rfl) rfl rfl ?_
    refine wn_lc (t := 34) (f := 20) rfl rfl rfl (fun c1 => ?_) (fun c1 => ?_)
    · have c1 : (lN (((a)) / ((b)))).toInt = (lN (((c)) / ((e)))).toInt := c1
      rw [lN_big (n := (((a)) / ((b)))) (by omega), lN_big (n := (((c)) / ((e)))) (by omega)] at c1
      refine wn_ld (pc' := 35) (q := 0) (kin := 1) (v := .long (lN (a))) rfl (fun _ _ _ => rfl) rfl rfl ?_
      refine wn_ld (pc' := 36) (q := 2) (kin := 1) (v := .long (lN (b))) rfl (fun _ _ _ => rfl) rfl rfl ?_
      have := Nat.div_le_self ((a)) ((b))
      have := Nat.mod_lt ((a)) (show 0 < (b) by omega)
      refine wn_lremN (pc' := 37) rfl rfl (by omega) (by omega) (by omega) ?_
      refine wn_st (pc' := 39) (q := 12) (kin := 1) (lv' := [(0, .long (lN (a))), (2, .long (lN (b))), (4, .long (lN (c))), (6, .long (lN (e))), (8, .long (lN (((a)) / ((b))))), (10, .long (lN (((c)) / ((e))))), (12, .long (lN (((a)) % ((b)))))]) rfl (fun _ _ _ => rfl) rfl (Nat.le_of_ble_eq_true rfl) rfl ?_
      refine wn_ld (pc' := 41) (q := 4) (kin := 1) (v := .long (lN (c))) rfl (fun _ _ _ => rfl) rfl rfl ?_
      refine wn_ld (pc' := 43) (q := 6) (kin := 1) (v := .long (lN (e))) rfl (fun _ _ _ => rfl) rfl rfl ?_
      have := Nat.div_le_self ((c)) ((e))
      have := Nat.mod_lt ((c)) (show 0 < (e) by omega)
      refine wn_lremN (pc' := 44) rfl rfl (by omega) (by omega) (by omega) ?_
      refine wn_st (pc' := 46) (q := 14) (kin := 1) (lv' := [(0, .long (lN (a))), (2, .long (lN (b))), (4, .long (lN (c))), (6, .long (lN (e))), (8, .long (lN (((a)) / ((b))))), (10, .long (lN (((c)) / ((e))))), (12, .long (lN (((a)) % ((b))))), (14, .long (lN (((c)) % ((e)))))]) rfl (fun _ _ _ => rfl) rfl (Nat.le_of_ble_eq_true rfl) rfl ?_
      refine wn_ld (pc' := 48) (q := 12) (kin := 1) (v := .long (lN (((a)) % ((b))))) rfl (fun _ _ _ => rfl) rfl rfl ?_
      refine wn_pu (pc' := 49) (st' := .long (lN 0) :: [.long (lN (((a)) % ((b))))]) rfl (fun _ _ _ => rfl) rfl rfl ?_
      refine wn_pu (pc' := 50) (st' := [.int (lg_cmp (lN (((a)) % ((b)))) (lN 0))]) rfl (fun _ _ _ => rfl) rfl rfl ?_
      refine wn_lc (t := 60) (f := 53) rfl rfl rfl (fun c2 => ?_) (fun c2 => ?_)
      · have c2 : (lN (((a)) % ((b)))).toInt = (lN 0).toInt := c2
        rw [lN_big (n := (((a)) % ((b)))) (by omega), lN_big (n := 0) (by omega)] at c2
        refine wn_ld (pc' := 62) (q := 12) (kin := 1) (v := .long (lN (((a)) % ((b))))) rfl (fun _ _ _ => rfl) rfl rfl ?_
        refine wn_ld (pc' := 64) (q := 14) (kin := 1) (v := .long (lN (((c)) % ((e))))) rfl (fun _ _ _ => rfl) rfl rfl ?_
        refine wn_pu (pc' := 65) (st' := [.int (lg_cmp (lN (((a)) % ((b)))) (lN (((c)) % ((e)))))]) rfl (fun _ _ _ => rfl) rfl rfl ?_
        refine wn_lc (t := 72) (f := 68) rfl rfl rfl (fun c3 => ?_) (fun c3 => ?_)
        · have c3 : ¬ (lN (((a)) % ((b)))).toInt = (lN (((c)) % ((e)))).toInt := c3
          rw [lN_big (n := (((a)) % ((b)))) (by omega), lN_big (n := (((c)) % ((e)))) (by omega)] at c3
          refine wn_ld (pc' := 74) (q := 12) (kin := 1) (v := .long (lN (((a)) % ((b))))) rfl (fun _ _ _ => rfl) rfl rfl ?_
          refine wn_ld (pc' := 76) (q := 14) (kin := 1) (v := .long (lN (((c)) % ((e))))) rfl (fun _ _ _ => rfl) rfl rfl ?_
          refine wn_pu (pc' := 77) (st' := [.int (lg_cmp (lN (((a)) % ((b)))) (lN (((c)) % ((e)))))]) rfl (fun _ _ _ => rfl) rfl rfl ?_
          refine wn_lc (t := 84) (f := 80) rfl rfl rfl (fun c4 => ?_) (fun c4 => ?_)
          · have c4 : (lN (((a)) % ((b)))).toInt ≤ (lN (((c)) % ((e)))).toInt := c4
            rw [lN_big (n := (((a)) % ((b)))) (by omega), lN_big (n := (((c)) % ((e)))) (by omega)] at c4
            refine wn_ic (pc' := 85) (w := -1) rfl rfl (by decide) ?_
            refine wn_iret rfl rfl rfl ⟨congrArg (fun z => some (Value.int z)) ?_, rfl⟩
            rw [cmp_q (a := a) (b := b) (c := c) (e := e) (by omega)]
            exact ((cmp_z (r := a % b) (s := c % e) hb0 he0 (by omega)).2.2 (by omega)).symm
          · have c4 : ¬ ((lN (((a)) % ((b)))).toInt ≤ (lN (((c)) % ((e)))).toInt) := c4
            rw [lN_big (n := (((a)) % ((b)))) (by omega), lN_big (n := (((c)) % ((e)))) (by omega)] at c4
            refine wn_ic (pc' := 81) (w := nI 1) rfl rfl (by decide) ?_
            refine wn_jp (pc' := 85) rfl rfl ?_
            refine wn_iret rfl rfl rfl ⟨congrArg (fun z => some (Value.int z)) ?_, rfl⟩
            rw [cmp_q (a := a) (b := b) (c := c) (e := e) (by omega)]
            exact ((cmp_z (r := a % b) (s := c % e) hb0 he0 (by omega)).2.1 (by omega)).symm
        · have c3 : ¬ (¬ (lN (((a)) % ((b)))).toInt = (lN (((c)) % ((e)))).toInt) := c3
          rw [lN_big (n := (((a)) % ((b)))) (by omega), lN_big (n := (((c)) % ((e)))) (by omega)] at c3
          refine wn_ic (pc' := 69) (w := nI 0) rfl rfl (by decide) ?_
          refine wn_jp (pc' := 85) rfl rfl ?_
          refine wn_iret rfl rfl rfl ⟨congrArg (fun z => some (Value.int z)) ?_, rfl⟩
          rw [cmp_q (a := a) (b := b) (c := c) (e := e) (by omega)]
          exact ((cmp_z (r := a % b) (s := c % e) hb0 he0 (by omega)).1 (by omega)).symm
      · have c2 : ¬ ((lN (((a)) % ((b)))).toInt = (lN 0).toInt) := c2
        rw [lN_big (n := (((a)) % ((b)))) (by omega), lN_big (n := 0) (by omega)] at c2
        refine wn_ld (pc' := 55) (q := 14) (kin := 1) (v := .long (lN (((c)) % ((e))))) rfl (fun _ _ _ => rfl) rfl rfl ?_
        refine wn_pu (pc' := 56) (st' := .long (lN 0) :: [.long (lN (((c)) % ((e))))]) rfl (fun _ _ _ => rfl) rfl rfl ?_
        refine wn_pu (pc' := 57) (st' := [.int (lg_cmp (lN (((c)) % ((e)))) (lN 0))]) rfl (fun _ _ _ => rfl) rfl rfl ?_
        refine wn_lc (t := 86) (f := 60) rfl rfl rfl (fun c5 => ?_) (fun c5 => ?_)
        · have c5 : ¬ (lN (((c)) % ((e)))).toInt = (lN 0).toInt := c5
          rw [lN_big (n := (((c)) % ((e)))) (by omega), lN_big (n := 0) (by omega)] at c5
          refine wn_ld (pc' := 88) (q := 6) (kin := 1) (v := .long (lN (e))) rfl (fun _ _ _ => rfl) rfl rfl ?_
          refine wn_ld (pc' := 90) (q := 14) (kin := 1) (v := .long (lN (((c)) % ((e))))) rfl (fun _ _ _ => rfl) rfl rfl ?_
          refine wn_ld (pc' := 91) (q := 2) (kin := 1) (v := .long (lN (b))) rfl (fun _ _ _ => rfl) rfl rfl ?_
          refine wn_ld (pc' := 93) (q := 12) (kin := 1) (v := .long (lN (((a)) % ((b))))) rfl (fun _ _ _ => rfl) rfl rfl ?_
          refine wn_staI (pc' := 96) rfl rfl (by decide) rfl rfl (Nat.le_of_ble_eq_true rfl) (ih d h e (c % e) b (a % b) (by omega) (by omega) (by omega) (by omega) (by omega) (by omega) (by omega) (by omega) (by have := mod_half he0 hec; have e2 : (2 : Nat) ^ (m + 1) = 2 ^ m * 2 := Nat.pow_succ 2 m; omega) (by have := mod_half hb0 hba; have e2 : (2 : Nat) ^ (m + 1) = 2 ^ m * 2 := Nat.pow_succ 2 m; omega)) ?_
          refine wn_iret rfl rfl rfl ⟨congrArg (fun z => some (Value.int z)) ?_, rfl⟩
          rw [cmp_q (a := a) (b := b) (c := c) (e := e) (by omega)]
        · have c5 : ¬ (¬ (lN (((c)) % ((e)))).toInt = (lN 0).toInt) := c5
          rw [lN_big (n := (((c)) % ((e)))) (by omega), lN_big (n := 0) (by omega)] at c5
          refine wn_ld (pc' := 62) (q := 12) (kin := 1) (v := .long (lN (((a)) % ((b))))) rfl (fun _ _ _ => rfl) rfl rfl ?_
          refine wn_ld (pc' := 64) (q := 14) (kin := 1) (v := .long (lN (((c)) % ((e))))) rfl (fun _ _ _ => rfl) rfl rfl ?_
          refine wn_pu (pc' := 65) (st' := [.int (lg_cmp (lN (((a)) % ((b)))) (lN (((c)) % ((e)))))]) rfl (fun _ _ _ => rfl) rfl rfl ?_
          refine wn_lc (t := 72) (f := 68) rfl rfl rfl (fun c6 => ?_) (fun c6 => ?_)
          · have c6 : ¬ (lN (((a)) % ((b)))).toInt = (lN (((c)) % ((e)))).toInt := c6
            rw [lN_big (n := (((a)) % ((b)))) (by omega), lN_big (n := (((c)) % ((e)))) (by omega)] at c6
            refine wn_ld (pc' := 74) (q := 12) (kin := 1) (v := .long (lN (((a)) % ((b))))) rfl (fun _ _ _ => rfl) rfl rfl ?_
            refine wn_ld (pc' := 76) (q := 14) (kin := 1) (v := .long (lN (((c)) % ((e))))) rfl (fun _ _ _ => rfl) rfl rfl ?_
            refine wn_pu (pc' := 77) (st' := [.int (lg_cmp (lN (((a)) % ((b)))) (lN (((c)) % ((e)))))]) rfl (fun _ _ _ => rfl) rfl rfl ?_
            refine wn_lc (t := 84) (f := 80) rfl rfl rfl (fun c7 => ?_) (fun c7 => ?_)
            · have c7 : (lN (((a)) % ((b)))).toInt ≤ (lN (((c)) % ((e)))).toInt := c7
              rw [lN_big (n := (((a)) % ((b)))) (by omega), lN_big (n := (((c)) % ((e)))) (by omega)] at c7
              refine wn_ic (pc' := 85) (w := -1) rfl rfl (by decide) ?_
              refine wn_iret rfl rfl rfl ⟨congrArg (fun z => some (Value.int z)) ?_, rfl⟩
              rw [cmp_q (a := a) (b := b) (c := c) (e := e) (by omega)]
              exact ((cmp_z (r := a % b) (s := c % e) hb0 he0 (by omega)).2.2 (by omega)).symm
            · have c7 : ¬ ((lN (((a)) % ((b)))).toInt ≤ (lN (((c)) % ((e)))).toInt) := c7
              rw [lN_big (n := (((a)) % ((b)))) (by omega), lN_big (n := (((c)) % ((e)))) (by omega)] at c7
              refine wn_ic (pc' := 81) (w := nI 1) rfl rfl (by decide) ?_
              refine wn_jp (pc' := 85) rfl rfl ?_
              refine wn_iret rfl rfl rfl ⟨congrArg (fun z => some (Value.int z)) ?_, rfl⟩
              rw [cmp_q (a := a) (b := b) (c := c) (e := e) (by omega)]
              exact ((cmp_z (r := a % b) (s := c % e) hb0 he0 (by omega)).2.1 (by omega)).symm
          · have c6 : ¬ (¬ (lN (((a)) % ((b)))).toInt = (lN (((c)) % ((e)))).toInt) := c6
            rw [lN_big (n := (((a)) % ((b)))) (by omega), lN_big (n := (((c)) % ((e)))) (by omega)] at c6
            refine wn_ic (pc' := 69) (w := nI 0) rfl rfl (by decide) ?_
            refine wn_jp (pc' := 85) rfl rfl ?_
            refine wn_iret rfl rfl rfl ⟨congrArg (fun z => some (Value.int z)) ?_, rfl⟩
            rw [cmp_q (a := a) (b := b) (c := c) (e := e) (by omega)]
            exact ((cmp_z (r := a % b) (s := c % e) hb0 he0 (by omega)).1 (by omega)).symm
    · have c1 : ¬ ((lN (((a)) / ((b)))).toInt = (lN (((c)) / ((e)))).toInt) := c1
      rw [lN_big (n := (((a)) / ((b)))) (by omega), lN_big (n := (((c)) / ((e)))) (by omega)] at c1
      refine wn_ld (pc' := 22) (q := 8) (kin := 1) (v := .long (lN (((a)) / ((b))))) rfl (fun _ _ _ => rfl) rfl rfl ?_
      refine wn_ld (pc' := 24) (q := 10) (kin := 1) (v := .long (lN (((c)) / ((e))))) rfl (fun _ _ _ => rfl) rfl rfl ?_
      refine wn_pu (pc' := 25) (st' := [.int (lg_cmp (lN (((a)) / ((b)))) (lN (((c)) / ((e)))))]) rfl (fun _ _ _ => rfl) rfl rfl ?_
      refine wn_lc (t := 32) (f := 28) rfl rfl rfl (fun c8 => ?_) (fun c8 => ?_)
      · have c8 : (lN (((a)) / ((b)))).toInt ≤ (lN (((c)) / ((e)))).toInt := c8
        rw [lN_big (n := (((a)) / ((b)))) (by omega), lN_big (n := (((c)) / ((e)))) (by omega)] at c8
        refine wn_ic (pc' := 33) (w := -1) rfl rfl (by decide) ?_
        refine wn_iret rfl rfl rfl ⟨congrArg (fun z => some (Value.int z)) ?_, rfl⟩
        exact (cmpS_l (fr_gt he0 hb0 (by omega))).symm
      · have c8 : ¬ ((lN (((a)) / ((b)))).toInt ≤ (lN (((c)) / ((e)))).toInt) := c8
        rw [lN_big (n := (((a)) / ((b)))) (by omega), lN_big (n := (((c)) / ((e)))) (by omega)] at c8
        refine wn_ic (pc' := 29) (w := nI 1) rfl rfl (by decide) ?_
        refine wn_jp (pc' := 33) rfl rfl ?_
        refine wn_iret rfl rfl rfl ⟨congrArg (fun z => some (Value.int z)) ?_, rfl⟩
        exact (cmpS_g (fr_gt hb0 he0 (by omega))).symm
theorem m_compare (d : Nat) (h : aH) (a b c e : Nat) (hb0 : 0 < b) (he0 : 0 < e) (ha : a < 2 ^ 63) (hb : b < 2 ^ 63) (hc : c < 2 ^ 63) (he : e < 2 ^ 63) (h1 : a * b ≤ 2 ^ 91) (h2 : c * e ≤ 2 ^ 91) : Rn (d + 94) 227 [.long (lN (a)), .long (lN (b)), .long (lN (c)), .long (lN (e))] h (some (.int (cmpS (a * e) (c * b)))) h 0 0 := by
  · skip
    refine Rn_of (by decide) (Nat.le_of_ble_eq_true rfl) ?_
    show Wn _ _ 0 [(0, .long (lN (a))), (2, .long (lN (b))), (4, .long (lN (c))), (6, .long (lN (e)))] [] _ _
    refine wn_ld (pc' := 1) (q := 0) (kin := 1) (v := .long (lN (a))) rfl (fun _ _ _ => rfl) rfl rfl ?_
    refine wn_ld (pc' := 2) (q := 2) (kin := 1) (v := .long (lN (b))) rfl (fun _ _ _ => rfl) rfl rfl ?_
    have := Nat.div_le_self ((a)) ((b))
    have := Nat.mod_lt ((a)) (show 0 < (b) by omega)
    refine wn_ldivN (pc' := 3) rfl rfl (by omega) (by omega) (by omega) ?_
    refine wn_st (pc' := 5) (q := 8) (kin := 1) (lv' := [(0, .long (lN (a))), (2, .long (lN (b))), (4, .long (lN (c))), (6, .long (lN (e))), (8, .long (lN (((a)) / ((b)))))]) rfl (fun _ _ _ => rfl) rfl (Nat.le_of_ble_eq_true rfl) rfl ?_
    refine wn_ld (pc' := 7) (q := 4) (kin := 1) (v := .long (lN (c))) rfl (fun _ _ _ => rfl) rfl rfl ?_
    refine wn_ld (pc' := 9) (q := 6) (kin := 1) (v := .long (lN (e))) rfl (fun _ _ _ => rfl) rfl rfl ?_
    have := Nat.div_le_self ((c)) ((e))
    have := Nat.mod_lt ((c)) (show 0 < (e) by omega)
    refine wn_ldivN (pc' := 10) rfl rfl (by omega) (by omega) (by omega) ?_
    refine wn_st (pc' := 12) (q := 10) (kin := 1) (lv' := [(0, .long (lN (a))), (2, .long (lN (b))), (4, .long (lN (c))), (6, .long (lN (e))), (8, .long (lN (((a)) / ((b))))), (10, .long (lN (((c)) / ((e)))))]) rfl (fun _ _ _ => rfl) rfl (Nat.le_of_ble_eq_true rfl) rfl ?_
    refine wn_ld (pc' := 14) (q := 8) (kin := 1) (v := .long (lN (((a)) / ((b))))) rfl (fun _ _ _ => rfl) rfl rfl ?_
    refine wn_ld (pc' := 16) (q := 10) (kin := 1) (v := .long (lN (((c)) / ((e))))) rfl (fun _ _ _ => rfl) rfl rfl ?_
    refine wn_pu (pc' := 17) (st' := [.int (lg_cmp (lN (((a)) / ((b)))) (lN (((c)) / ((e)))))]) rfl (fun _ _ _ => rfl) rfl rfl ?_
    refine wn_lc (t := 34) (f := 20) rfl rfl rfl (fun c1 => ?_) (fun c1 => ?_)
    · have c1 : (lN (((a)) / ((b)))).toInt = (lN (((c)) / ((e)))).toInt := c1
      rw [lN_big (n := (((a)) / ((b)))) (by omega), lN_big (n := (((c)) / ((e)))) (by omega)] at c1
      refine wn_ld (pc' := 35) (q := 0) (kin := 1) (v := .long (lN (a))) rfl (fun _ _ _ => rfl) rfl rfl ?_
      refine wn_ld (pc' := 36) (q := 2) (kin := 1) (v := .long (lN (b))) rfl (fun _ _ _ => rfl) rfl rfl ?_
      have := Nat.div_le_self ((a)) ((b))
      have := Nat.mod_lt ((a)) (show 0 < (b) by omega)
      refine wn_lremN (pc' := 37) rfl rfl (by omega) (by omega) (by omega) ?_
      refine wn_st (pc' := 39) (q := 12) (kin := 1) (lv' := [(0, .long (lN (a))), (2, .long (lN (b))), (4, .long (lN (c))), (6, .long (lN (e))), (8, .long (lN (((a)) / ((b))))), (10, .long (lN (((c)) / ((e))))), (12, .long (lN (((a)) % ((b)))))]) rfl (fun _ _ _ => rfl) rfl (Nat.le_of_ble_eq_true rfl) rfl ?_
      refine wn_ld (pc' := 41) (q := 4) (kin := 1) (v := .long (lN (c))) rfl (fun _ _ _ => rfl) rfl rfl ?_
      refine wn_ld (pc' := 43) (q := 6) (kin := 1) (v := .long (lN (e))) rfl (fun _ _ _ => rfl) rfl rfl ?_
      have := Nat.div_le_self ((c)) ((e))
      have := Nat.mod_lt ((c)) (show 0 < (e) by omega)
      refine wn_lremN (pc' := 44) rfl rfl (by omega) (by omega) (by omega) ?_
      refine wn_st (pc' := 46) (q := 14) (kin := 1) (lv' := [(0, .long (lN (a))), (2, .long (lN (b))), (4, .long (lN (c))), (6, .long (lN (e))), (8, .long (lN (((a)) / ((b))))), (10, .long (lN (((c)) / ((e))))), (12, .long (lN (((a)) % ((b))))), (14, .long (lN (((c)) % ((e)))))]) rfl (fun _ _ _ => rfl) rfl (Nat.le_of_ble_eq_true rfl) rfl ?_
      refine wn_ld (pc' := 48) (q := 12) (kin := 1) (v := .long (lN (((a)) % ((b))))) rfl (fun _ _ _ => rfl) rfl rfl ?_
      refine wn_pu (pc' := 49) (st' := .long (lN 0) :: [.long (lN (((a)) % ((b))))]) rfl (fun _ _ _ => rfl) rfl rfl ?_
      refine wn_pu (pc' := 50) (st' := [.int (lg_cmp (lN (((a)) % ((b)))) (lN 0))]) rfl (fun _ _ _ => rfl) rfl rfl ?_
      refine wn_lc (t := 60) (f := 53) rfl rfl rfl (fun c2 => ?_) (fun c2 => ?_)
      · have c2 : (lN (((a)) % ((b)))).toInt = (lN 0).toInt := c2
        rw [lN_big (n := (((a)) % ((b)))) (by omega), lN_big (n := 0) (by omega)] at c2
        refine wn_ld (pc' := 62) (q := 12) (kin := 1) (v := .long (lN (((a)) % ((b))))) rfl (fun _ _ _ => rfl) rfl rfl ?_
        refine wn_ld (pc' := 64) (q := 14) (kin := 1) (v := .long (lN (((c)) % ((e))))) rfl (fun _ _ _ => rfl) rfl rfl ?_
        refine wn_pu (pc' := 65) (st' := [.int (lg_cmp (lN (((a)) % ((b)))) (lN (((c)) % ((e)))))]) rfl (fun _ _ _ => rfl) rfl rfl ?_
        refine wn_lc (t := 72) (f := 68) rfl rfl rfl (fun c3 => ?_) (fun c3 => ?_)
        · have c3 : ¬ (lN (((a)) % ((b)))).toInt = (lN (((c)) % ((e)))).toInt := c3
          rw [lN_big (n := (((a)) % ((b)))) (by omega), lN_big (n := (((c)) % ((e)))) (by omega)] at c3
          refine wn_ld (pc' := 74) (q := 12) (kin := 1) (v := .long (lN (((a)) % ((b))))) rfl (fun _ _ _ => rfl) rfl rfl ?_
          refine wn_ld (pc' := 76) (q := 14) (kin := 1) (v := .long (lN (((c)) % ((e))))) rfl (fun _ _ _ => rfl) rfl rfl ?_
          refine wn_pu (pc' := 77) (st' := [.int (lg_cmp (lN (((a)) % ((b)))) (lN (((c)) % ((e)))))]) rfl (fun _ _ _ => rfl) rfl rfl ?_
          refine wn_lc (t := 84) (f := 80) rfl rfl rfl (fun c4 => ?_) (fun c4 => ?_)
          · have c4 : (lN (((a)) % ((b)))).toInt ≤ (lN (((c)) % ((e)))).toInt := c4
            rw [lN_big (n := (((a)) % ((b)))) (by omega), lN_big (n := (((c)) % ((e)))) (by omega)] at c4
            refine wn_ic (pc' := 85) (w := -1) rfl rfl (by decide) ?_
            refine wn_iret rfl rfl rfl ⟨congrArg (fun z => some (Value.int z)) ?_, rfl⟩
            rw [cmp_q (a := a) (b := b) (c := c) (e := e) (by omega)]
            exact ((cmp_z (r := a % b) (s := c % e) hb0 he0 (by omega)).2.2 (by omega)).symm
          · have c4 : ¬ ((lN (((a)) % ((b)))).toInt ≤ (lN (((c)) % ((e)))).toInt) := c4
            rw [lN_big (n := (((a)) % ((b)))) (by omega), lN_big (n := (((c)) % ((e)))) (by omega)] at c4
            refine wn_ic (pc' := 81) (w := nI 1) rfl rfl (by decide) ?_
            refine wn_jp (pc' := 85) rfl rfl ?_
            refine wn_iret rfl rfl rfl ⟨congrArg (fun z => some (Value.int z)) ?_, rfl⟩
            rw [cmp_q (a := a) (b := b) (c := c) (e := e) (by omega)]
            exact ((cmp_z (r := a % b) (s := c % e) hb0 he0 (by omega)).2.1 (by omega)).symm
        · have c3 : ¬ (¬ (lN (((a)) % ((b)))).toInt = (lN (((c)) % ((e)))).toInt) := c3
          rw [lN_big (n := (((a)) % ((b)))) (by omega), lN_big (n := (((c)) % ((e)))) (by omega)] at c3
          refine wn_ic (pc' := 69) (w := nI 0) rfl rfl (by decide) ?_
          refine wn_jp (pc' := 85) rfl rfl ?_
          refine wn_iret rfl rfl rfl ⟨congrArg (fun z => some (Value.int z)) ?_, rfl⟩
          rw [cmp_q (a := a) (b := b) (c := c) (e := e) (by omega)]
          exact ((cmp_z (r := a % b) (s := c % e) hb0 he0 (by omega)).1 (by omega)).symm
      · have c2 : ¬ ((lN (((a)) % ((b)))).toInt = (lN 0).toInt) := c2
        rw [lN_big (n := (((a)) % ((b)))) (by omega), lN_big (n := 0) (by omega)] at c2
        refine wn_ld (pc' := 55) (q := 14) (kin := 1) (v := .long (lN (((c)) % ((e))))) rfl (fun _ _ _ => rfl) rfl rfl ?_
        refine wn_pu (pc' := 56) (st' := .long (lN 0) :: [.long (lN (((c)) % ((e))))]) rfl (fun _ _ _ => rfl) rfl rfl ?_
        refine wn_pu (pc' := 57) (st' := [.int (lg_cmp (lN (((c)) % ((e)))) (lN 0))]) rfl (fun _ _ _ => rfl) rfl rfl ?_
        refine wn_lc (t := 86) (f := 60) rfl rfl rfl (fun c5 => ?_) (fun c5 => ?_)
        · have c5 : ¬ (lN (((c)) % ((e)))).toInt = (lN 0).toInt := c5
          rw [lN_big (n := (((c)) % ((e)))) (by omega), lN_big (n := 0) (by omega)] at c5
          refine wn_ld (pc' := 88) (q := 6) (kin := 1) (v := .long (lN (e))) rfl (fun _ _ _ => rfl) rfl rfl ?_
          refine wn_ld (pc' := 90) (q := 14) (kin := 1) (v := .long (lN (((c)) % ((e))))) rfl (fun _ _ _ => rfl) rfl rfl ?_
          refine wn_ld (pc' := 91) (q := 2) (kin := 1) (v := .long (lN (b))) rfl (fun _ _ _ => rfl) rfl rfl ?_
          refine wn_ld (pc' := 93) (q := 12) (kin := 1) (v := .long (lN (((a)) % ((b))))) rfl (fun _ _ _ => rfl) rfl rfl ?_
          refine wn_staI (pc' := 96) rfl rfl (by decide) rfl rfl (Nat.le_of_ble_eq_true rfl) (m_cmp 92 d h e (c % e) b (a % b) (by omega) (by omega) (by omega) (by omega) (by omega) (by omega) (by omega) (by omega) (Nat.lt_of_le_of_lt (Nat.le_trans mod_same h2) (by decide)) (Nat.lt_of_le_of_lt (Nat.le_trans mod_same h1) (by decide))) ?_
          refine wn_iret rfl rfl rfl ⟨congrArg (fun z => some (Value.int z)) ?_, rfl⟩
          rw [cmp_q (a := a) (b := b) (c := c) (e := e) (by omega)]
        · have c5 : ¬ (¬ (lN (((c)) % ((e)))).toInt = (lN 0).toInt) := c5
          rw [lN_big (n := (((c)) % ((e)))) (by omega), lN_big (n := 0) (by omega)] at c5
          refine wn_ld (pc' := 62) (q := 12) (kin := 1) (v := .long (lN (((a)) % ((b))))) rfl (fun _ _ _ => rfl) rfl rfl ?_
          refine wn_ld (pc' := 64) (q := 14) (kin := 1) (v := .long (lN (((c)) % ((e))))) rfl (fun _ _ _ => rfl) rfl rfl ?_
          refine wn_pu (pc' := 65) (st' := [.int (lg_cmp (lN (((a)) % ((b)))) (lN (((c)) % ((e)))))]) rfl (fun _ _ _ => rfl) rfl rfl ?_
          refine wn_lc (t := 72) (f := 68) rfl rfl rfl (fun c6 => ?_) (fun c6 => ?_)
          · have c6 : ¬ (lN (((a)) % ((b)))).toInt = (lN (((c)) % ((e)))).toInt := c6
            rw [lN_big (n := (((a)) % ((b)))) (by omega), lN_big (n := (((c)) % ((e)))) (by omega)] at c6
            refine wn_ld (pc' := 74) (q := 12) (kin := 1) (v := .long (lN (((a)) % ((b))))) rfl (fun _ _ _ => rfl) rfl rfl ?_
            refine wn_ld (pc' := 76) (q := 14) (kin := 1) (v := .long (lN (((c)) % ((e))))) rfl (fun _ _ _ => rfl) rfl rfl ?_
            refine wn_pu (pc' := 77) (st' := [.int (lg_cmp (lN (((a)) % ((b)))) (lN (((c)) % ((e)))))]) rfl (fun _ _ _ => rfl) rfl rfl ?_
            refine wn_lc (t := 84) (f := 80) rfl rfl rfl (fun c7 => ?_) (fun c7 => ?_)
            · have c7 : (lN (((a)) % ((b)))).toInt ≤ (lN (((c)) % ((e)))).toInt := c7
              rw [lN_big (n := (((a)) % ((b)))) (by omega), lN_big (n := (((c)) % ((e)))) (by omega)] at c7
              refine wn_ic (pc' := 85) (w := -1) rfl rfl (by decide) ?_
              refine wn_iret rfl rfl rfl ⟨congrArg (fun z => some (Value.int z)) ?_, rfl⟩
              rw [cmp_q (a := a) (b := b) (c := c) (e := e) (by omega)]
              exact ((cmp_z (r := a % b) (s := c % e) hb0 he0 (by omega)).2.2 (by omega)).symm
            · have c7 : ¬ ((lN (((a)) % ((b)))).toInt ≤ (lN (((c)) % ((e)))).toInt) := c7
              rw [lN_big (n := (((a)) % ((b)))) (by omega), lN_big (n := (((c)) % ((e)))) (by omega)] at c7
              refine wn_ic (pc' := 81) (w := nI 1) rfl rfl (by decide) ?_
              refine wn_jp (pc' := 85) rfl rfl ?_
              refine wn_iret rfl rfl rfl ⟨congrArg (fun z => some (Value.int z)) ?_, rfl⟩
              rw [cmp_q (a := a) (b := b) (c := c) (e := e) (by omega)]
              exact ((cmp_z (r := a % b) (s := c % e) hb0 he0 (by omega)).2.1 (by omega)).symm
          · have c6 : ¬ (¬ (lN (((a)) % ((b)))).toInt = (lN (((c)) % ((e)))).toInt) := c6
            rw [lN_big (n := (((a)) % ((b)))) (by omega), lN_big (n := (((c)) % ((e)))) (by omega)] at c6
            refine wn_ic (pc' := 69) (w := nI 0) rfl rfl (by decide) ?_
            refine wn_jp (pc' := 85) rfl rfl ?_
            refine wn_iret rfl rfl rfl ⟨congrArg (fun z => some (Value.int z)) ?_, rfl⟩
            rw [cmp_q (a := a) (b := b) (c := c) (e := e) (by omega)]
            exact ((cmp_z (r := a % b) (s := c % e) hb0 he0 (by omega)).1 (by omega)).symm
    · have c1 : ¬ ((lN (((a)) / ((b)))).toInt = (lN (((c)) / ((e)))).toInt) := c1
      rw [lN_big (n := (((a)) / ((b)))) (by omega), lN_big (n := (((c)) / ((e)))) (by omega)] at c1
      refine wn_ld (pc' := 22) (q := 8) (kin := 1) (v := .long (lN (((a)) / ((b))))) rfl (fun _ _ _ => rfl) rfl rfl ?_
      refine wn_ld (pc' := 24) (q := 10) (kin := 1) (v := .long (lN (((c)) / ((e))))) rfl (fun _ _ _ => rfl) rfl rfl ?_
      refine wn_pu (pc' := 25) (st' := [.int (lg_cmp (lN (((a)) / ((b)))) (lN (((c)) / ((e)))))]) rfl (fun _ _ _ => rfl) rfl rfl ?_
      refine wn_lc (t := 32) (f := 28) rfl rfl rfl (fun c8 => ?_) (fun c8 => ?_)
      · have c8 : (lN (((a)) / ((b)))).toInt ≤ (lN (((c)) / ((e)))).toInt := c8
        rw [lN_big (n := (((a)) / ((b)))) (by omega), lN_big (n := (((c)) / ((e)))) (by omega)] at c8
        refine wn_ic (pc' := 33) (w := -1) rfl rfl (by decide) ?_
        refine wn_iret rfl rfl rfl ⟨congrArg (fun z => some (Value.int z)) ?_, rfl⟩
        exact (cmpS_l (fr_gt he0 hb0 (by omega))).symm
      · have c8 : ¬ ((lN (((a)) / ((b)))).toInt ≤ (lN (((c)) / ((e)))).toInt) := c8
        rw [lN_big (n := (((a)) / ((b)))) (by omega), lN_big (n := (((c)) / ((e)))) (by omega)] at c8
        refine wn_ic (pc' := 29) (w := nI 1) rfl rfl (by decide) ?_
        refine wn_jp (pc' := 33) rfl rfl ?_
        refine wn_iret rfl rfl rfl ⟨congrArg (fun z => some (Value.int z)) ?_, rfl⟩
        exact (cmpS_g (fr_gt hb0 he0 (by omega))).symm
theorem cmpS_pos {x y : Nat} : (jT .le (cmpS x y) 0 → ¬ y < x) ∧ (jF .le (cmpS x y) 0 → y < x) := by
  rcases Nat.lt_trichotomy x y with q | q | q
  · rw [cmpS_l q]; exact ⟨fun _ => by omega, fun h => absurd h (by show ¬ (0 : Int32) < -1; decide)⟩
  · rw [cmpS_e q]; exact ⟨fun _ => by omega, fun h => absurd h (by show ¬ (0 : Int32) < nI 0; decide)⟩
  · rw [cmpS_g q]; exact ⟨fun h => absurd h (by show ¬ nI 1 ≤ (0 : Int32); decide), fun _ => q⟩
theorem m_isAhead (d : Nat) (h : aH) (w : Nat → Int32) (hWf : WfW w) (HM : MH h w) (v u : Nat) (hv : v < nvW w) (hu : u < nvW w) : Sp (Rn (d + 95)) 228 [.ref (71), .int (nI (v)), .int (nI (u))] h (fun r9 h9 => r9 = some (.int (bI (ahW w v u))) ∧ RU h h9) := by
  obtain ⟨⟨e1, e2⟩, ⟨e3, e4⟩, ⟨e5, e6⟩⟩ := Wf_n hWf
  obtain ⟨⟨e7, e8⟩, ⟨e9, e10⟩⟩ := Wf_m hWf
  obtain ⟨th, tp, sz, at9, fr, tk, vl, fk, fp, il, up, lo, hM, hW⟩ := id HM
  refine Sp_of (by decide) (Nat.le_of_ble_eq_true rfl) ?_
  show Wn _ _ 0 [(0, .ref (71)), (1, .int (nI (v))), (2, .int (nI (u)))] [] _ _
  refine wn_ld (pc' := 1) (q := 0) (kin := 2) (v := .ref (71)) rfl (fun _ _ _ => rfl) rfl rfl ?_
  refine wn_ld (pc' := 2) (q := 1) (kin := 0) (v := .int (nI (v))) rfl (fun _ _ _ => rfl) rfl rfl ?_
  refine wn_virS (pc' := 5) rfl rfl (by decide) rfl rfl hM (Nat.le_of_ble_eq_true rfl) (m_oddsOf _ _ w hWf HM v (by omega)) (fun r9 h1 e2 => ?_)
  obtain ⟨rfl, RU_h1, th_h1, tp_h1, sz_h1, at9_h1, fr_h1, tk_h1, vl_h1, fk_h1, fp_h1, il_h1, o_h1⟩ := e2
  have RT_h1 := RU.tr (RU.rfl' HM) RU_h1
  have HM_h1 := RT_h1.mh HM
  have rb_h1 := red_b hWf (show v < nvW w by omega)
  show Wn _ _ 5 _ [] h1 _
  refine wn_ld (pc' := 6) (q := 0) (kin := 2) (v := .ref (71)) rfl (fun _ _ _ => rfl) rfl rfl ?_
  refine wn_get (pc' := 9) (v := .long (lN (ruW w v))) rfl rfl o_h1 rfl ?_
  refine wn_st (pc' := 10) (q := 3) (kin := 1) (lv' := [(0, .ref (71)), (1, .int (nI (v))), (2, .int (nI (u))), (3, .long (lN (ruW w v)))]) rfl (fun _ _ _ => rfl) rfl (Nat.le_of_ble_eq_true rfl) rfl ?_
  refine wn_ld (pc' := 11) (q := 0) (kin := 2) (v := .ref (71)) rfl (fun _ _ _ => rfl) rfl rfl ?_
  refine wn_get (pc' := 14) (v := .long (lN (rlW w v))) rfl rfl o_h1 rfl ?_
  refine wn_st (pc' := 16) (q := 5) (kin := 1) (lv' := [(0, .ref (71)), (1, .int (nI (v))), (2, .int (nI (u))), (3, .long (lN (ruW w v))), (5, .long (lN (rlW w v)))]) rfl (fun _ _ _ => rfl) rfl (Nat.le_of_ble_eq_true rfl) rfl ?_
  refine wn_ld (pc' := 17) (q := 0) (kin := 2) (v := .ref (71)) rfl (fun _ _ _ => rfl) rfl rfl ?_
  refine wn_ld (pc' := 18) (q := 2) (kin := 0) (v := .int (nI (u))) rfl (fun _ _ _ => rfl) rfl rfl ?_
  refine wn_virS (pc' := 21) rfl rfl (by decide) rfl rfl o_h1 (Nat.le_of_ble_eq_true rfl) (m_oddsOf _ _ w hWf HM_h1 u (by omega)) (fun r9 h3 e4 => ?_)
  obtain ⟨rfl, RU_h3, th_h3, tp_h3, sz_h3, at9_h3, fr_h3, tk_h3, vl_h3, fk_h3, fp_h3, il_h3, o_h3⟩ := e4
  have RT_h3 := RU.tr RT_h1 RU_h3
  have HM_h3 := RT_h3.mh HM
  have rb_h3 := red_b hWf (show u < nvW w by omega)
  show Wn _ _ 21 _ [] h3 _
  refine wn_ld (pc' := 22) (q := 3) (kin := 1) (v := .long (lN (ruW w v))) rfl (fun _ _ _ => rfl) rfl rfl ?_
  refine wn_ld (pc' := 24) (q := 5) (kin := 1) (v := .long (lN (rlW w v))) rfl (fun _ _ _ => rfl) rfl rfl ?_
  refine wn_ld (pc' := 25) (q := 0) (kin := 2) (v := .ref (71)) rfl (fun _ _ _ => rfl) rfl rfl ?_
  refine wn_get (pc' := 28) (v := .long (lN (ruW w u))) rfl rfl o_h3 rfl ?_
  refine wn_ld (pc' := 29) (q := 0) (kin := 2) (v := .ref (71)) rfl (fun _ _ _ => rfl) rfl rfl ?_
  refine wn_get (pc' := 32) (v := .long (lN (rlW w u))) rfl rfl o_h3 rfl ?_
  refine wn_staI (pc' := 35) rfl rfl (by decide) rfl rfl (Nat.le_of_ble_eq_true rfl) (m_compare _ _ _ _ _ _ (by omega) (by omega) (by omega) (by omega) (by omega) (by omega) (prod_b (by omega) (by omega)) (prod_b (by omega) (by omega))) ?_
  refine wn_ifc (t := 42) (f := 38) rfl rfl rfl (fun c5 => ?_) (fun c5 => ?_)
  · have c5 : ((cmpS (ruW w v * rlW w u) (ruW w u * rlW w v))) ≤ 0 := c5
    refine wn_ic (pc' := 43) (w := nI 0) rfl rfl (by decide) ?_
    exact wn_iret rfl rfl (by decide) ⟨congrArg (fun z => some (Value.int z)) (bI_f0 (fun q => cmpS_pos.1 c5 ((ah_red hWf hv hu).mpr q))), RT_h3⟩
  · have c5 : 0 < ((cmpS (ruW w v * rlW w u) (ruW w u * rlW w v))) := c5
    refine wn_ic (pc' := 39) (w := nI 1) rfl rfl (by decide) ?_
    refine wn_jp (pc' := 43) rfl rfl ?_
    exact wn_iret rfl rfl (by decide) ⟨congrArg (fun z => some (Value.int z)) (bI_t1 ((ah_red hWf hv hu).mp (cmpS_pos.2 c5))), RT_h3⟩

theorem m_likely (d : Nat) (h : aH) (w : Nat → Int32) (hWf : WfW w) (HM : MH h w) : Sp (Rn (d + 96)) 229 [.ref (71)] h (fun r9 h9 => r9 = some (.int (likelyA w)) ∧ RU h h9) := by
  obtain ⟨⟨e1, e2⟩, ⟨e3, e4⟩, ⟨e5, e6⟩⟩ := Wf_n hWf
  obtain ⟨⟨e7, e8⟩, ⟨e9, e10⟩⟩ := Wf_m hWf
  obtain ⟨th, tp, sz, at9, fr, tk, vl, fk, fp, il, up, lo, hM, hW⟩ := id HM
  refine Sp_of (by decide) (Nat.le_of_ble_eq_true rfl) ?_
  show Wn _ _ 0 [(0, .ref (71))] [] _ _
  refine wn_ic (pc' := 1) (w := -1) rfl rfl (by decide) ?_
  refine wn_st (pc' := 2) (q := 1) (kin := 0) (lv' := [(0, .ref (71)), (1, .int (-1))]) rfl (fun _ _ _ => rfl) rfl (Nat.le_of_ble_eq_true rfl) rfl ?_
  refine wn_ic (pc' := 3) (w := nI 0) rfl rfl (by decide) ?_
  refine wn_st (pc' := 4) (q := 2) (kin := 0) (lv' := [(0, .ref (71)), (1, .int (-1)), (2, .int (nI (0)))]) rfl (fun _ _ _ => rfl) rfl (Nat.le_of_ble_eq_true rfl) rfl ?_
  have lp2 : ∀ (n_lp2 : Nat) (g1 : aH) (k : Nat), (nvW w) + 1 ≤ k + n_lp2 → RU h g1 → k ≤ nvW w → Wn (Rn (d + 95)) 229 4 [(0, .ref (71)), (1, .int (oI (lkS (ahW w) k))), (2, .int (nI (k)))] [] (g1) (fun r9 h9 => r9 = some (.int (likelyA w)) ∧ RU h h9) := by
    intro n_lp2
    induction n_lp2 with
    | zero => intro g1 k hm_lp2 RT_g1 hk; exfalso; omega
    | succ n_lp2 ih_lp2 =>
      intro g1 k hm_lp2 RT_g1 hk
      obtain ⟨th_g1, tp_g1, sz_g1, at9_g1, fr_g1, tk_g1, vl_g1, fk_g1, fp_g1, il_g1, up_g1, lo_g1, hM_g1, hW_g1⟩ := RT_g1.mh HM
      refine wn_ld (pc' := 5) (q := 2) (kin := 0) (v := .int (nI (k))) rfl (fun _ _ _ => rfl) rfl rfl ?_
      refine wn_ld (pc' := 6) (q := 0) (kin := 2) (v := .ref (71)) rfl (fun _ _ _ => rfl) rfl rfl ?_
      refine wn_get (pc' := 9) (v := .ref (72)) rfl rfl hM_g1 rfl ?_
      refine wn_ic (pc' := 10) (w := nI 1) rfl rfl (by decide) ?_
      refine wn_ialdv (pc' := 11) (j := 1) (v := (nI (nvW w))) rfl rfl hW_g1 rfl (by omega) (by decide) (e1) ?_
      refine wn_icmpN (t := 36) (f := 14) rfl rfl rfl (by omega) (by omega) (fun c3 => ?_) (fun c3 => ?_)
      · have c3 : (nvW w) ≤ k := c3
        obtain rfl : k = nvW w := by omega
        refine wn_ld (pc' := 37) (q := 1) (kin := 0) (v := .int (oI (lkS (ahW w) (nvW w)))) rfl (fun _ _ _ => rfl) rfl rfl ?_
        exact wn_iret rfl rfl rfl ⟨rfl, RT_g1⟩
      · have c3 : k < (nvW w) := c3
        cases ho9 : lkS (ahW w) k with
        | none =>
          show Wn _ _ 14 [(0, .ref (71)), (1, .int (-1)), (2, .int (nI (k)))] _ _ _
          refine wn_ld (pc' := 15) (q := 1) (kin := 0) (v := .int (-1)) rfl (fun _ _ _ => rfl) rfl rfl ?_
          refine wn_ic (pc' := 16) (w := -1) rfl rfl (by decide) ?_
          refine wn_icmp (t := 28) (f := 19) rfl rfl rfl (fun c4 => ?_) (fun c4 => ?_)
          · have c4 : ((-1) : Int32) = ((-1)) := c4
            refine wn_ld (pc' := 29) (q := 2) (kin := 0) (v := .int (nI (k))) rfl (fun _ _ _ => rfl) rfl rfl ?_
            refine wn_st (pc' := 30) (q := 1) (kin := 0) (lv' := [(0, .ref (71)), (1, .int (nI (k))), (2, .int (nI (k)))]) rfl (fun _ _ _ => rfl) rfl (Nat.le_of_ble_eq_true rfl) rfl ?_
            refine wn_incN (n := 1) (pc' := 33) (lv' := [(0, .ref (71)), (1, .int (nI (k))), (2, .int (nI (k + 1)))]) rfl rfl rfl (Nat.le_of_ble_eq_true rfl) rfl (by decide) ?_
            refine wn_jp (pc' := 4) rfl rfl ?_
            refine wn_weak (lv' := [(0, .ref (71)), (1, .int (nI (k))), (2, .int (nI (k + 1)))]) (by simp) ?_
            have z9 := ih_lp2 g1 (k + 1) (by omega) RT_g1 (by omega)
            rw [show (oI (lkS (ahW w) (k + 1))) = (nI (k)) from (by exact congrArg oI (lkS_n ho9))] at z9
            exact z9
          · have c4 : ¬ ((-1) : Int32) = ((-1)) := c4
            exact absurd rfl c4
        | some b =>
          have hb9 := lkS_lt ho9
          show Wn _ _ 14 [(0, .ref (71)), (1, .int (nI (b))), (2, .int (nI (k)))] _ _ _
          refine wn_ld (pc' := 15) (q := 1) (kin := 0) (v := .int (nI (b))) rfl (fun _ _ _ => rfl) rfl rfl ?_
          refine wn_ic (pc' := 16) (w := -1) rfl rfl (by decide) ?_
          refine wn_icmp (t := 28) (f := 19) rfl rfl rfl (fun c5 => ?_) (fun c5 => ?_)
          · have c5 : ((nI (b))) = ((-1)) := c5
            exact absurd c5 (nI_m1 (by omega))
          · have c5 : ¬ ((nI (b))) = ((-1)) := c5
            refine wn_ld (pc' := 20) (q := 0) (kin := 2) (v := .ref (71)) rfl (fun _ _ _ => rfl) rfl rfl ?_
            refine wn_ld (pc' := 21) (q := 2) (kin := 0) (v := .int (nI (k))) rfl (fun _ _ _ => rfl) rfl rfl ?_
            refine wn_ld (pc' := 22) (q := 1) (kin := 0) (v := .int (nI (b))) rfl (fun _ _ _ => rfl) rfl rfl ?_
            refine wn_virS (pc' := 25) rfl rfl (by decide) rfl rfl hM_g1 (Nat.le_of_ble_eq_true rfl) (m_isAhead _ _ w hWf (RT_g1.mh HM) k b (by omega) (by omega)) (fun r9 h6 e7 => ?_)
            obtain ⟨rfl, RU_h6⟩ := e7
            have RT_h6 := RU.tr RT_g1 RU_h6
            obtain ⟨th_h6, tp_h6, sz_h6, at9_h6, fr_h6, tk_h6, vl_h6, fk_h6, fp_h6, il_h6, up_h6, lo_h6, hM_h6, hW_h6⟩ := RT_h6.mh HM
            show Wn _ _ 25 _ [.int (bI (ahW w k b))] h6 _
            refine wn_ifeqB (t := 30) (f := 28) rfl rfl rfl (fun c8 => ?_) (fun c8 => ?_)
            · have c8 : ¬ (ahW w k b) := c8
              refine wn_incN (n := 1) (pc' := 33) (lv' := [(0, .ref (71)), (1, .int (nI (b))), (2, .int (nI (k + 1)))]) rfl rfl rfl (Nat.le_of_ble_eq_true rfl) rfl (by decide) ?_
              refine wn_jp (pc' := 4) rfl rfl ?_
              refine wn_weak (lv' := [(0, .ref (71)), (1, .int (nI (b))), (2, .int (nI (k + 1)))]) (by simp) ?_
              have z9 := ih_lp2 h6 (k + 1) (by omega) RT_h6 (by omega)
              rw [show (oI (lkS (ahW w) (k + 1))) = (nI (b)) from (by exact congrArg oI (lkS_f ho9 c8))] at z9
              exact z9
            · have c8 : (ahW w k b) := c8
              refine wn_ld (pc' := 29) (q := 2) (kin := 0) (v := .int (nI (k))) rfl (fun _ _ _ => rfl) rfl rfl ?_
              refine wn_st (pc' := 30) (q := 1) (kin := 0) (lv' := [(0, .ref (71)), (1, .int (nI (k))), (2, .int (nI (k)))]) rfl (fun _ _ _ => rfl) rfl (Nat.le_of_ble_eq_true rfl) rfl ?_
              refine wn_incN (n := 1) (pc' := 33) (lv' := [(0, .ref (71)), (1, .int (nI (k))), (2, .int (nI (k + 1)))]) rfl rfl rfl (Nat.le_of_ble_eq_true rfl) rfl (by decide) ?_
              refine wn_jp (pc' := 4) rfl rfl ?_
              refine wn_weak (lv' := [(0, .ref (71)), (1, .int (nI (k))), (2, .int (nI (k + 1)))]) (by simp) ?_
              have z9 := ih_lp2 h6 (k + 1) (by omega) RT_h6 (by omega)
              rw [show (oI (lkS (ahW w) (k + 1))) = (nI (k)) from (by exact congrArg oI (lkS_t ho9 c8))] at z9
              exact z9
  refine wn_weak (lv' := [(0, .ref (71)), (1, .int (-1)), (2, .int (nI (0)))]) (by simp) ?_
  have z9 := lp2 ((nvW w) + 1) h 0 (by omega) (RU.rfl' HM) (by omega)
  rw [show (oI (lkS (ahW w) 0)) = (-1) from (by rfl)] at z9
  exact z9

theorem m_ahead (d : Nat) (h : aH) (w : Nat → Int32) (hWf : WfW w) (HM : MH h w) (v : Int32) : Sp (Rn (d + 96)) 230 [.ref (71), .int (v)] h (fun r9 h9 => r9 = some (.int (aheadA w v)) ∧ RU h h9) := by
  obtain ⟨⟨e1, e2⟩, ⟨e3, e4⟩, ⟨e5, e6⟩⟩ := Wf_n hWf
  obtain ⟨⟨e7, e8⟩, ⟨e9, e10⟩⟩ := Wf_m hWf
  obtain ⟨th, tp, sz, at9, fr, tk, vl, fk, fp, il, up, lo, hM, hW⟩ := id HM
  refine Sp_of (by decide) (Nat.le_of_ble_eq_true rfl) ?_
  show Wn _ _ 0 [(0, .ref (71)), (1, .int (v))] [] _ _
  refine wn_ld (pc' := 1) (q := 0) (kin := 2) (v := .ref (71)) rfl (fun _ _ _ => rfl) rfl rfl ?_
  refine wn_ld (pc' := 2) (q := 1) (kin := 0) (v := .int (v)) rfl (fun _ _ _ => rfl) rfl rfl ?_
  refine wn_virI (pc' := 5) rfl rfl (by decide) rfl rfl hM (Nat.le_of_ble_eq_true rfl) (m_isVillage _ _ w HM _ e1 (by omega) _) ?_
  refine wn_ifneB (t := 11) (f := 8) rfl rfl rfl (fun c1 => ?_) (fun c1 => ?_)
  · have c1 : (iin v (nvW w)) := c1
    obtain ⟨v9, hv9, rfl⟩ := iin_of c1
    have ti_v := nI_toInt (n := v9) (show v9 < 2 ^ 31 by omega)
    have cl_v := nI_clamp (n := v9) (show v9 < 2 ^ 31 by omega)
    refine wn_ic (pc' := 12) (w := nI 0) rfl rfl (by decide) ?_
    refine wn_st (pc' := 13) (q := 2) (kin := 0) (lv' := [(0, .ref (71)), (1, .int (nI (v9))), (2, .int (nI (0)))]) rfl (fun _ _ _ => rfl) rfl (Nat.le_of_ble_eq_true rfl) rfl ?_
    refine wn_ic (pc' := 14) (w := nI 0) rfl rfl (by decide) ?_
    refine wn_st (pc' := 15) (q := 3) (kin := 0) (lv' := [(0, .ref (71)), (1, .int (nI (v9))), (2, .int (nI (0))), (3, .int (nI (0)))]) rfl (fun _ _ _ => rfl) rfl (Nat.le_of_ble_eq_true rfl) rfl ?_
    have lp3 : ∀ (n_lp3 : Nat) (g2 : aH) (u : Nat), (nvW w) + 1 ≤ u + n_lp3 → RU h g2 → u ≤ nvW w → Wn (Rn (d + 95)) 230 15 [(0, .ref (71)), (1, .int (nI (v9))), (2, .int (nI (cntP (fun x7 => ahW w x7 v9) u))), (3, .int (nI (u)))] [] (g2) (fun r9 h9 => r9 = some (.int (aheadA w (nI v9))) ∧ RU h h9) := by
      intro n_lp3
      induction n_lp3 with
      | zero => intro g2 u hm_lp3 RT_g2 hk; exfalso; omega
      | succ n_lp3 ih_lp3 =>
        intro g2 u hm_lp3 RT_g2 hk
        obtain ⟨th_g2, tp_g2, sz_g2, at9_g2, fr_g2, tk_g2, vl_g2, fk_g2, fp_g2, il_g2, up_g2, lo_g2, hM_g2, hW_g2⟩ := RT_g2.mh HM
        have := cntP_le (fun x7 => ahW w x7 v9) u
        refine wn_ld (pc' := 16) (q := 3) (kin := 0) (v := .int (nI (u))) rfl (fun _ _ _ => rfl) rfl rfl ?_
        refine wn_ld (pc' := 17) (q := 0) (kin := 2) (v := .ref (71)) rfl (fun _ _ _ => rfl) rfl rfl ?_
        refine wn_get (pc' := 20) (v := .ref (72)) rfl rfl hM_g2 rfl ?_
        refine wn_ic (pc' := 21) (w := nI 1) rfl rfl (by decide) ?_
        refine wn_ialdv (pc' := 22) (j := 1) (v := (nI (nvW w))) rfl rfl hW_g2 rfl (by omega) (by decide) (e1) ?_
        refine wn_icmpN (t := 48) (f := 25) rfl rfl rfl (by omega) (by omega) (fun c4 => ?_) (fun c4 => ?_)
        · have c4 : (nvW w) ≤ u := c4
          obtain rfl : u = nvW w := by omega
          refine wn_ld (pc' := 49) (q := 2) (kin := 0) (v := .int (nI (cntP (fun x7 => ahW w x7 v9) (nvW w)))) rfl (fun _ _ _ => rfl) rfl rfl ?_
          try simp only [Int32.lt_iff_toInt_lt, Int32.le_iff_toInt_le, i2l_int, Int32.toInt_zero, iin] at c1
          refine wn_iret rfl rfl rfl ⟨congrArg (fun z => some (Value.int z)) ?_, RT_g2⟩
          unfold aheadA
          rw [qI_t (by simp only [iin]; omega)]
          first | rfl | (simp only [cl_v]; done) | (simp only [cl_v]; rfl)
        · have c4 : u < (nvW w) := c4
          refine wn_ld (pc' := 26) (q := 2) (kin := 0) (v := .int (nI (cntP (fun x7 => ahW w x7 v9) u))) rfl (fun _ _ _ => rfl) rfl rfl ?_
          refine wn_ld (pc' := 27) (q := 0) (kin := 2) (v := .ref (71)) rfl (fun _ _ _ => rfl) rfl rfl ?_
          refine wn_ld (pc' := 28) (q := 3) (kin := 0) (v := .int (nI (u))) rfl (fun _ _ _ => rfl) rfl rfl ?_
          refine wn_ld (pc' := 29) (q := 1) (kin := 0) (v := .int (nI (v9))) rfl (fun _ _ _ => rfl) rfl rfl ?_
          refine wn_virS (pc' := 32) rfl rfl (by decide) rfl rfl hM_g2 (Nat.le_of_ble_eq_true rfl) (m_isAhead _ _ w hWf (RT_g2.mh HM) u v9 (by omega) (by omega)) (fun r9 h5 e6 => ?_)
          obtain ⟨rfl, RU_h5⟩ := e6
          have RT_h5 := RU.tr RT_g2 RU_h5
          obtain ⟨th_h5, tp_h5, sz_h5, at9_h5, fr_h5, tk_h5, vl_h5, fk_h5, fp_h5, il_h5, up_h5, lo_h5, hM_h5, hW_h5⟩ := RT_h5.mh HM
          show Wn _ _ 32 _ [.int (bI (ahW w u v9)), .int (nI (cntP (fun x7 => ahW w x7 v9) u))] h5 _
          refine wn_ifeqB (t := 39) (f := 35) rfl rfl rfl (fun c7 => ?_) (fun c7 => ?_)
          · have c7 : ¬ (ahW w u v9) := c7
            refine wn_ic (pc' := 40) (w := nI 0) rfl rfl (by decide) ?_
            refine wn_addN (pc' := 41) rfl rfl ?_
            refine wn_st (pc' := 42) (q := 2) (kin := 0) (lv' := [(0, .ref (71)), (1, .int (nI (v9))), (2, .int (nI ((cntP (fun x7 => ahW w x7 v9) u) + 0))), (3, .int (nI (u)))]) rfl (fun _ _ _ => rfl) rfl (Nat.le_of_ble_eq_true rfl) rfl ?_
            refine wn_incN (n := 1) (pc' := 45) (lv' := [(0, .ref (71)), (1, .int (nI (v9))), (2, .int (nI ((cntP (fun x7 => ahW w x7 v9) u) + 0))), (3, .int (nI (u + 1)))]) rfl rfl rfl (Nat.le_of_ble_eq_true rfl) rfl (by decide) ?_
            refine wn_jp (pc' := 15) rfl rfl ?_
            refine wn_weak (lv' := [(0, .ref (71)), (1, .int (nI (v9))), (2, .int (nI ((cntP (fun x7 => ahW w x7 v9) u) + 0))), (3, .int (nI (u + 1)))]) (by simp) ?_
            have z9 := ih_lp3 h5 (u + 1) (by omega) RT_h5 (by omega)
            rw [show (nI (cntP (fun x7 => ahW w x7 v9) (u + 1))) = (nI ((cntP (fun x7 => ahW w x7 v9) u) + 0)) from (by exact congrArg nI (cntP_f (p := fun x7 => ahW w x7 v9) c7))] at z9
            exact z9
          · have c7 : (ahW w u v9) := c7
            refine wn_ic (pc' := 36) (w := nI 1) rfl rfl (by decide) ?_
            refine wn_jp (pc' := 40) rfl rfl ?_
            refine wn_addN (pc' := 41) rfl rfl ?_
            refine wn_st (pc' := 42) (q := 2) (kin := 0) (lv' := [(0, .ref (71)), (1, .int (nI (v9))), (2, .int (nI ((cntP (fun x7 => ahW w x7 v9) u) + 1))), (3, .int (nI (u)))]) rfl (fun _ _ _ => rfl) rfl (Nat.le_of_ble_eq_true rfl) rfl ?_
            refine wn_incN (n := 1) (pc' := 45) (lv' := [(0, .ref (71)), (1, .int (nI (v9))), (2, .int (nI ((cntP (fun x7 => ahW w x7 v9) u) + 1))), (3, .int (nI (u + 1)))]) rfl rfl rfl (Nat.le_of_ble_eq_true rfl) rfl (by decide) ?_
            refine wn_jp (pc' := 15) rfl rfl ?_
            refine wn_weak (lv' := [(0, .ref (71)), (1, .int (nI (v9))), (2, .int (nI ((cntP (fun x7 => ahW w x7 v9) u) + 1))), (3, .int (nI (u + 1)))]) (by simp) ?_
            have z9 := ih_lp3 h5 (u + 1) (by omega) RT_h5 (by omega)
            rw [show (nI (cntP (fun x7 => ahW w x7 v9) (u + 1))) = (nI ((cntP (fun x7 => ahW w x7 v9) u) + 1)) from (by exact congrArg nI (cntP_t (p := fun x7 => ahW w x7 v9) c7))] at z9
            exact z9
    refine wn_weak (lv' := [(0, .ref (71)), (1, .int (nI (v9))), (2, .int (nI (0))), (3, .int (nI (0)))]) (by simp) ?_
    have z9 := lp3 ((nvW w) + 1) h 0 (by omega) (RU.rfl' HM) (by omega)
    rw [show (nI (cntP (fun x7 => ahW w x7 v9) 0)) = (nI (0)) from (by rfl)] at z9
    exact z9
  · have c1 : ¬ (iin v (nvW w)) := c1
    refine wn_bp (pc' := 10) (w := -2) rfl rfl (by decide) ?_
    try simp only [Int32.lt_iff_toInt_lt, Int32.le_iff_toInt_le, i2l_int, Int32.toInt_zero, iin] at c1
    refine wn_iret rfl rfl rfl ⟨congrArg (fun z => some (Value.int z)) ?_, (RU.rfl' HM)⟩
    unfold aheadA
    rw [qI_f (by simp only [iin]; omega)]

theorem case_32 : CaseI Rp 117 229 [] := case_qU (fun h ls w hWf V R => ⟨_, x_likely 695 h ls w hWf V R , fun h1 HM => m_likely 604 h1 w hWf HM ⟩)
theorem case_33 (v : Int32) : CaseI Rp 118 230 [.int v] := case_qU (fun h ls w hWf V R => ⟨_, x_ahead 695 h ls w hWf V R v, fun h1 HM => m_ahead 604 h1 w hWf HM v⟩)
