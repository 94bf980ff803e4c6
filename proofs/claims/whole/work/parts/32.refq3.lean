/-! THE REFERENCE'S questions, third part: what fits, what is noted -/
theorem m_fitsOne (d : Nat) (h : aH) (w : Nat → Int32) (hWf : WfW w) (HQ : MQs h w) (v i y : Nat) (hv : v < nvW w) (hi : i < ntW w) (hy : y ≤ 60) : Sp (Rn (d + 9)) 209 [.ref (71), .int (nI (v)), .int (nI (i)), .int (nI (y))] h (fun r9 h9 => r9 = some (.int (bI (fitW w y v i))) ∧ RQ h h9 w) := by
  obtain ⟨⟨e1, e2⟩, ⟨e3, e4⟩, ⟨e5, e6⟩⟩ := Wf_n hWf
  obtain ⟨⟨e7, e8⟩, ⟨e9, e10⟩⟩ := Wf_m hWf
  have p2b := stN_le hWf
  obtain ⟨th, tp, sz, at9, fr, tk, vl, fk, fp, il, up, lo, sa9, tn, q0, q1, q2, q3, q4⟩ := id HQ
  refine Sp_of (by decide) (Nat.le_of_ble_eq_true rfl) ?_
  show Wn _ _ 0 [(0, .ref (71)), (1, .int (nI (v))), (2, .int (nI (i))), (3, .int (nI (y)))] [] _ _
  refine wn_ld (pc' := 1) (q := 0) (kin := 2) (v := .ref (71)) rfl (fun _ _ _ => rfl) rfl rfl ?_
  refine wn_ld (pc' := 2) (q := 1) (kin := 0) (v := .int (nI (v))) rfl (fun _ _ _ => rfl) rfl rfl ?_
  refine wn_ld (pc' := 3) (q := 2) (kin := 0) (v := .int (nI (i))) rfl (fun _ _ _ => rfl) rfl rfl ?_
  refine wn_ld (pc' := 4) (q := 3) (kin := 0) (v := .int (nI (y))) rfl (fun _ _ _ => rfl) rfl rfl ?_
  have := sdW_5 hWf (y := y) (show v < nvW w by omega) (show i < ntW w by omega)
  refine wn_virS (pc' := 7) rfl rfl (by decide) rfl rfl q0 (Nat.le_of_ble_eq_true rfl) (m_saidIn _ _ w hWf HQ v i y (by omega) (by omega) (by omega)) (fun r9 h1 e2 => ?_)
  obtain ⟨rfl, RQ_h1⟩ := e2
  have RT_h1 := RQ.tr (RQ.rfl' HQ) RQ_h1
  obtain ⟨th_h1, tp_h1, sz_h1, at9_h1, fr_h1, tk_h1, vl_h1, fk_h1, fp_h1, il_h1, up_h1, lo_h1, hM_h1, hW_h1⟩ := RQ_h1.mh
  show Wn _ _ 7 _ [.int (nI (sdW w y v i))] h1 _
  refine wn_ld (pc' := 8) (q := 0) (kin := 2) (v := .ref (71)) rfl (fun _ _ _ => rfl) rfl rfl ?_
  refine wn_ld (pc' := 9) (q := 2) (kin := 0) (v := .int (nI (i))) rfl (fun _ _ _ => rfl) rfl rfl ?_
  refine wn_ic (pc' := 10) (w := nI 2) rfl rfl (by decide) ?_
  refine wn_virI (pc' := 13) rfl rfl (by decide) rfl rfl hM_h1 (Nat.le_of_ble_eq_true rfl) (m_ofItem _ _ w RQ_h1.mh i 2 (by omega)) ?_
  rw [show 176 + 4 * i + 2 = 178 + 4 * i by omega]
  refine wn_icmp (t := 41) (f := 16) rfl rfl rfl (fun c3 => ?_) (fun c3 => ?_)
  · have c3 : ((nI (sdW w y v i))) = ((w (178 + 4 * i))) := c3
    refine wn_ic (pc' := 42) (w := nI 1) rfl rfl (by decide) ?_
    refine wn_jp (pc' := 46) rfl rfl ?_
    exact wn_iret rfl rfl (by decide) ⟨congrArg (fun z => some (Value.int z)) (bI_t1 (p := fitW w y v i) (show (nI (sdW w y v i) = w (178 + 4 * i)) ∨ ((w (179 + 4 * i) = nI 1) ∧ (w (178 + 4 * i) = w (177 + 4 * i))) from (Or.inl c3))), RT_h1⟩
  · have c3 : ¬ ((nI (sdW w y v i))) = ((w (178 + 4 * i))) := c3
    refine wn_ld (pc' := 17) (q := 0) (kin := 2) (v := .ref (71)) rfl (fun _ _ _ => rfl) rfl rfl ?_
    refine wn_ld (pc' := 18) (q := 2) (kin := 0) (v := .int (nI (i))) rfl (fun _ _ _ => rfl) rfl rfl ?_
    refine wn_ic (pc' := 19) (w := nI 3) rfl rfl (by decide) ?_
    refine wn_virI (pc' := 22) rfl rfl (by decide) rfl rfl hM_h1 (Nat.le_of_ble_eq_true rfl) (m_ofItem _ _ w RQ_h1.mh i 3 (by omega)) ?_
    rw [show 176 + 4 * i + 3 = 179 + 4 * i by omega]
    refine wn_ic (pc' := 23) (w := nI 1) rfl rfl (by decide) ?_
    refine wn_icmp (t := 45) (f := 26) rfl rfl rfl (fun c4 => ?_) (fun c4 => ?_)
    · have c4 : ¬ ((w (179 + 4 * i))) = ((nI (1))) := c4
      refine wn_ic (pc' := 46) (w := nI 0) rfl rfl (by decide) ?_
      exact wn_iret rfl rfl (by decide) ⟨congrArg (fun z => some (Value.int z)) (bI_f0 (p := fitW w y v i) (show ¬ ((nI (sdW w y v i) = w (178 + 4 * i)) ∨ ((w (179 + 4 * i) = nI 1) ∧ (w (178 + 4 * i) = w (177 + 4 * i)))) from (fun q7 => q7.elim c3 (fun q8 => c4 q8.1)))), RT_h1⟩
    · have c4 : ((w (179 + 4 * i))) = ((nI (1))) := c4
      refine wn_ld (pc' := 27) (q := 0) (kin := 2) (v := .ref (71)) rfl (fun _ _ _ => rfl) rfl rfl ?_
      refine wn_ld (pc' := 28) (q := 2) (kin := 0) (v := .int (nI (i))) rfl (fun _ _ _ => rfl) rfl rfl ?_
      refine wn_ic (pc' := 29) (w := nI 2) rfl rfl (by decide) ?_
      refine wn_virI (pc' := 32) rfl rfl (by decide) rfl rfl hM_h1 (Nat.le_of_ble_eq_true rfl) (m_ofItem _ _ w RQ_h1.mh i 2 (by omega)) ?_
      rw [show 176 + 4 * i + 2 = 178 + 4 * i by omega]
      refine wn_ld (pc' := 33) (q := 0) (kin := 2) (v := .ref (71)) rfl (fun _ _ _ => rfl) rfl rfl ?_
      refine wn_ld (pc' := 34) (q := 2) (kin := 0) (v := .int (nI (i))) rfl (fun _ _ _ => rfl) rfl rfl ?_
      refine wn_ic (pc' := 35) (w := nI 1) rfl rfl (by decide) ?_
      refine wn_virI (pc' := 38) rfl rfl (by decide) rfl rfl hM_h1 (Nat.le_of_ble_eq_true rfl) (m_ofItem _ _ w RQ_h1.mh i 1 (by omega)) ?_
      rw [show 176 + 4 * i + 1 = 177 + 4 * i by omega]
      refine wn_icmp (t := 45) (f := 41) rfl rfl rfl (fun c5 => ?_) (fun c5 => ?_)
      · have c5 : ¬ ((w (178 + 4 * i))) = ((w (177 + 4 * i))) := c5
        refine wn_ic (pc' := 46) (w := nI 0) rfl rfl (by decide) ?_
        exact wn_iret rfl rfl (by decide) ⟨congrArg (fun z => some (Value.int z)) (bI_f0 (p := fitW w y v i) (show ¬ ((nI (sdW w y v i) = w (178 + 4 * i)) ∨ ((w (179 + 4 * i) = nI 1) ∧ (w (178 + 4 * i) = w (177 + 4 * i)))) from (fun q7 => q7.elim c3 (fun q8 => c5 q8.2)))), RT_h1⟩
      · have c5 : ((w (178 + 4 * i))) = ((w (177 + 4 * i))) := c5
        refine wn_ic (pc' := 42) (w := nI 1) rfl rfl (by decide) ?_
        refine wn_jp (pc' := 46) rfl rfl ?_
        exact wn_iret rfl rfl (by decide) ⟨congrArg (fun z => some (Value.int z)) (bI_t1 (p := fitW w y v i) (show (nI (sdW w y v i) = w (178 + 4 * i)) ∨ ((w (179 + 4 * i) = nI 1) ∧ (w (178 + 4 * i) = w (177 + 4 * i))) from (Or.inr ⟨c4, c5⟩))), RT_h1⟩

theorem m_fitsOf (d : Nat) (h : aH) (w : Nat → Int32) (hWf : WfW w) (HQ : MQs h w) (v y : Nat) (hv : v < nvW w) (hy : y ≤ 60) : Sp (Rn (d + 10)) 210 [.ref (71), .int (nI (v)), .int (nI (y))] h (fun r9 h9 => r9 = some (.int (nI (ftN w y v))) ∧ RQ h h9 w) := by
  obtain ⟨⟨e1, e2⟩, ⟨e3, e4⟩, ⟨e5, e6⟩⟩ := Wf_n hWf
  obtain ⟨⟨e7, e8⟩, ⟨e9, e10⟩⟩ := Wf_m hWf
  have p2b := stN_le hWf
  obtain ⟨th, tp, sz, at9, fr, tk, vl, fk, fp, il, up, lo, sa9, tn, q0, q1, q2, q3, q4⟩ := id HQ
  refine Sp_of (by decide) (Nat.le_of_ble_eq_true rfl) ?_
  show Wn _ _ 0 [(0, .ref (71)), (1, .int (nI (v))), (2, .int (nI (y)))] [] _ _
  refine wn_ic (pc' := 1) (w := nI 0) rfl rfl (by decide) ?_
  refine wn_st (pc' := 2) (q := 3) (kin := 0) (lv' := [(0, .ref (71)), (1, .int (nI (v))), (2, .int (nI (y))), (3, .int (nI (0)))]) rfl (fun _ _ _ => rfl) rfl (Nat.le_of_ble_eq_true rfl) rfl ?_
  refine wn_ic (pc' := 3) (w := nI 0) rfl rfl (by decide) ?_
  refine wn_st (pc' := 5) (q := 4) (kin := 0) (lv' := [(0, .ref (71)), (1, .int (nI (v))), (2, .int (nI (y))), (3, .int (nI (0))), (4, .int (nI (0)))]) rfl (fun _ _ _ => rfl) rfl (Nat.le_of_ble_eq_true rfl) rfl ?_
  have lp2 : ∀ (n_lp2 : Nat) (g1 : aH) (k : Nat), (ntW w) + 1 ≤ k + n_lp2 → RQ h g1 w → k ≤ ntW w → Wn (Rn (d + 9)) 210 5 [(0, .ref (71)), (1, .int (nI (v))), (2, .int (nI (y))), (3, .int (nI (cntP (fun x7 => (¬ w (178 + 4 * x7) = -1) ∧ (fitW w y v x7)) k))), (4, .int (nI (k)))] [] (g1) (fun r9 h9 => r9 = some (.int (nI (ftN w y v))) ∧ RQ h h9 w) := by
    intro n_lp2
    induction n_lp2 with
    | zero => intro g1 k hm_lp2 RT_g1 hk_k; exfalso; omega
    | succ n_lp2 ih_lp2 =>
      intro g1 k hm_lp2 RT_g1 hk_k
      obtain ⟨th_g1, tp_g1, sz_g1, at9_g1, fr_g1, tk_g1, vl_g1, fk_g1, fp_g1, il_g1, up_g1, lo_g1, hM_g1, hW_g1⟩ := RT_g1.mh
      have := cntP_le (fun x7 => (¬ w (178 + 4 * x7) = -1) ∧ (fitW w y v x7)) k
      refine wn_ld (pc' := 7) (q := 4) (kin := 0) (v := .int (nI (k))) rfl (fun _ _ _ => rfl) rfl rfl ?_
      refine wn_ld (pc' := 8) (q := 0) (kin := 2) (v := .ref (71)) rfl (fun _ _ _ => rfl) rfl rfl ?_
      refine wn_get (pc' := 11) (v := .ref (72)) rfl rfl hM_g1 rfl ?_
      refine wn_ic (pc' := 12) (w := nI 3) rfl rfl (by decide) ?_
      refine wn_ialdv (pc' := 13) (j := 3) (v := (nI (ntW w))) rfl rfl hW_g1 rfl (by omega) (by decide) (e5) ?_
      refine wn_icmpN (t := 50) (f := 16) rfl rfl rfl (by omega) (by omega) (fun c3 => ?_) (fun c3 => ?_)
      · have c3 : (ntW w) ≤ k := c3
        obtain rfl : k = ntW w := by omega
        refine wn_ld (pc' := 51) (q := 3) (kin := 0) (v := .int (nI (cntP (fun x7 => (¬ w (178 + 4 * x7) = -1) ∧ (fitW w y v x7)) (ntW w)))) rfl (fun _ _ _ => rfl) rfl rfl ?_
        exact wn_iret rfl rfl rfl ⟨rfl, RT_g1⟩
      · have c3 : k < (ntW w) := c3
        refine wn_ld (pc' := 17) (q := 3) (kin := 0) (v := .int (nI (cntP (fun x7 => (¬ w (178 + 4 * x7) = -1) ∧ (fitW w y v x7)) k))) rfl (fun _ _ _ => rfl) rfl rfl ?_
        refine wn_ld (pc' := 18) (q := 0) (kin := 2) (v := .ref (71)) rfl (fun _ _ _ => rfl) rfl rfl ?_
        refine wn_ld (pc' := 20) (q := 4) (kin := 0) (v := .int (nI (k))) rfl (fun _ _ _ => rfl) rfl rfl ?_
        refine wn_virI (pc' := 23) rfl rfl (by decide) rfl rfl hM_g1 (Nat.le_of_ble_eq_true rfl) (m_isHeard _ _ w RT_g1.mh k (by omega)) ?_
        refine wn_ifeqB (t := 41) (f := 26) rfl rfl rfl (fun c4 => ?_) (fun c4 => ?_)
        · have c4 : ¬ (¬ w (178 + 4 * k) = -1) := c4
          refine wn_ic (pc' := 42) (w := nI 0) rfl rfl (by decide) ?_
          refine wn_addN (pc' := 43) rfl rfl ?_
          refine wn_st (pc' := 44) (q := 3) (kin := 0) (lv' := [(0, .ref (71)), (1, .int (nI (v))), (2, .int (nI (y))), (3, .int (nI ((cntP (fun x7 => (¬ w (178 + 4 * x7) = -1) ∧ (fitW w y v x7)) k) + 0))), (4, .int (nI (k)))]) rfl (fun _ _ _ => rfl) rfl (Nat.le_of_ble_eq_true rfl) rfl ?_
          refine wn_incN (n := 1) (pc' := 47) (lv' := [(0, .ref (71)), (1, .int (nI (v))), (2, .int (nI (y))), (3, .int (nI ((cntP (fun x7 => (¬ w (178 + 4 * x7) = -1) ∧ (fitW w y v x7)) k) + 0))), (4, .int (nI (k + 1)))]) rfl rfl rfl (Nat.le_of_ble_eq_true rfl) rfl (by decide) ?_
          refine wn_jp (pc' := 5) rfl rfl ?_
          refine wn_weak (lv' := [(0, .ref (71)), (1, .int (nI (v))), (2, .int (nI (y))), (3, .int (nI ((cntP (fun x7 => (¬ w (178 + 4 * x7) = -1) ∧ (fitW w y v x7)) k) + 0))), (4, .int (nI (k + 1)))]) (by simp) ?_
          have z9 := ih_lp2 g1 (k + 1) (by omega) RT_g1 (by omega)
          rw [show (nI (cntP (fun x7 => (¬ w (178 + 4 * x7) = -1) ∧ (fitW w y v x7)) (k + 1))) = (nI ((cntP (fun x7 => (¬ w (178 + 4 * x7) = -1) ∧ (fitW w y v x7)) k) + 0)) from (by exact congrArg nI (cntP_f (p := fun x7 => (¬ w (178 + 4 * x7) = -1) ∧ (fitW w y v x7)) (fun q8 => c4 q8.1)))] at z9
          exact z9
        · have c4 : (¬ w (178 + 4 * k) = -1) := c4
          refine wn_ld (pc' := 27) (q := 0) (kin := 2) (v := .ref (71)) rfl (fun _ _ _ => rfl) rfl rfl ?_
          refine wn_ld (pc' := 28) (q := 1) (kin := 0) (v := .int (nI (v))) rfl (fun _ _ _ => rfl) rfl rfl ?_
          refine wn_ld (pc' := 30) (q := 4) (kin := 0) (v := .int (nI (k))) rfl (fun _ _ _ => rfl) rfl rfl ?_
          refine wn_ld (pc' := 31) (q := 2) (kin := 0) (v := .int (nI (y))) rfl (fun _ _ _ => rfl) rfl rfl ?_
          refine wn_virS (pc' := 34) rfl rfl (by decide) rfl rfl hM_g1 (Nat.le_of_ble_eq_true rfl) (m_fitsOne _ _ w hWf RT_g1.2.2.2 v k y (by omega) (by omega) (by omega)) (fun r9 h5 e6 => ?_)
          obtain ⟨rfl, RQ_h5⟩ := e6
          have RT_h5 := RQ.tr RT_g1 RQ_h5
          obtain ⟨th_h5, tp_h5, sz_h5, at9_h5, fr_h5, tk_h5, vl_h5, fk_h5, fp_h5, il_h5, up_h5, lo_h5, hM_h5, hW_h5⟩ := RQ_h5.mh
          show Wn _ _ 34 _ [.int (bI (fitW w y v k)), .int (nI (cntP (fun x7 => (¬ w (178 + 4 * x7) = -1) ∧ (fitW w y v x7)) k))] h5 _
          refine wn_ifeqB (t := 41) (f := 37) rfl rfl rfl (fun c7 => ?_) (fun c7 => ?_)
          · have c7 : ¬ (fitW w y v k) := c7
            refine wn_ic (pc' := 42) (w := nI 0) rfl rfl (by decide) ?_
            refine wn_addN (pc' := 43) rfl rfl ?_
            refine wn_st (pc' := 44) (q := 3) (kin := 0) (lv' := [(0, .ref (71)), (1, .int (nI (v))), (2, .int (nI (y))), (3, .int (nI ((cntP (fun x7 => (¬ w (178 + 4 * x7) = -1) ∧ (fitW w y v x7)) k) + 0))), (4, .int (nI (k)))]) rfl (fun _ _ _ => rfl) rfl (Nat.le_of_ble_eq_true rfl) rfl ?_
            refine wn_incN (n := 1) (pc' := 47) (lv' := [(0, .ref (71)), (1, .int (nI (v))), (2, .int (nI (y))), (3, .int (nI ((cntP (fun x7 => (¬ w (178 + 4 * x7) = -1) ∧ (fitW w y v x7)) k) + 0))), (4, .int (nI (k + 1)))]) rfl rfl rfl (Nat.le_of_ble_eq_true rfl) rfl (by decide) ?_
            refine wn_jp (pc' := 5) rfl rfl ?_
            refine wn_weak (lv' := [(0, .ref (71)), (1, .int (nI (v))), (2, .int (nI (y))), (3, .int (nI ((cntP (fun x7 => (¬ w (178 + 4 * x7) = -1) ∧ (fitW w y v x7)) k) + 0))), (4, .int (nI (k + 1)))]) (by simp) ?_
            have z9 := ih_lp2 h5 (k + 1) (by omega) RT_h5 (by omega)
            rw [show (nI (cntP (fun x7 => (¬ w (178 + 4 * x7) = -1) ∧ (fitW w y v x7)) (k + 1))) = (nI ((cntP (fun x7 => (¬ w (178 + 4 * x7) = -1) ∧ (fitW w y v x7)) k) + 0)) from (by exact congrArg nI (cntP_f (p := fun x7 => (¬ w (178 + 4 * x7) = -1) ∧ (fitW w y v x7)) (fun q8 => c7 q8.2)))] at z9
            exact z9
          · have c7 : (fitW w y v k) := c7
            refine wn_ic (pc' := 38) (w := nI 1) rfl rfl (by decide) ?_
            refine wn_jp (pc' := 42) rfl rfl ?_
            refine wn_addN (pc' := 43) rfl rfl ?_
            refine wn_st (pc' := 44) (q := 3) (kin := 0) (lv' := [(0, .ref (71)), (1, .int (nI (v))), (2, .int (nI (y))), (3, .int (nI ((cntP (fun x7 => (¬ w (178 + 4 * x7) = -1) ∧ (fitW w y v x7)) k) + 1))), (4, .int (nI (k)))]) rfl (fun _ _ _ => rfl) rfl (Nat.le_of_ble_eq_true rfl) rfl ?_
            refine wn_incN (n := 1) (pc' := 47) (lv' := [(0, .ref (71)), (1, .int (nI (v))), (2, .int (nI (y))), (3, .int (nI ((cntP (fun x7 => (¬ w (178 + 4 * x7) = -1) ∧ (fitW w y v x7)) k) + 1))), (4, .int (nI (k + 1)))]) rfl rfl rfl (Nat.le_of_ble_eq_true rfl) rfl (by decide) ?_
            refine wn_jp (pc' := 5) rfl rfl ?_
            refine wn_weak (lv' := [(0, .ref (71)), (1, .int (nI (v))), (2, .int (nI (y))), (3, .int (nI ((cntP (fun x7 => (¬ w (178 + 4 * x7) = -1) ∧ (fitW w y v x7)) k) + 1))), (4, .int (nI (k + 1)))]) (by simp) ?_
            have z9 := ih_lp2 h5 (k + 1) (by omega) RT_h5 (by omega)
            rw [show (nI (cntP (fun x7 => (¬ w (178 + 4 * x7) = -1) ∧ (fitW w y v x7)) (k + 1))) = (nI ((cntP (fun x7 => (¬ w (178 + 4 * x7) = -1) ∧ (fitW w y v x7)) k) + 1)) from (by exact congrArg nI (cntP_t (p := fun x7 => (¬ w (178 + 4 * x7) = -1) ∧ (fitW w y v x7)) ⟨c4, c7⟩))] at z9
            exact z9
  refine wn_weak (lv' := [(0, .ref (71)), (1, .int (nI (v))), (2, .int (nI (y))), (3, .int (nI (0))), (4, .int (nI (0)))]) (by simp) ?_
  have z9 := lp2 ((ntW w) + 1) h 0 (by omega) (RQ.rfl' HQ) (by omega)
  rw [show (nI (cntP (fun x7 => (¬ w (178 + 4 * x7) = -1) ∧ (fitW w y v x7)) 0)) = (nI (0)) from (by rfl)] at z9
  exact z9

noncomputable def fitsA (w : Nat → Int32) (v y : Int32) : Int32 := qI (iin v (nvW w) ∧ iin y 61) (nI (ftN w y.toNatClampNeg v.toNatClampNeg)) (-2)
theorem m_fits (d : Nat) (h : aH) (w : Nat → Int32) (hWf : WfW w) (HQ : MQs h w) (v y : Int32) : Sp (Rn (d + 11)) 211 [.ref (71), .int (v), .int (y)] h (fun r9 h9 => r9 = some (.int (fitsA w v y)) ∧ RQ h h9 w) := by
  obtain ⟨⟨e1, e2⟩, ⟨e3, e4⟩, ⟨e5, e6⟩⟩ := Wf_n hWf
  obtain ⟨⟨e7, e8⟩, ⟨e9, e10⟩⟩ := Wf_m hWf
  have p2b := stN_le hWf
  obtain ⟨th, tp, sz, at9, fr, tk, vl, fk, fp, il, up, lo, sa9, tn, q0, q1, q2, q3, q4⟩ := id HQ
  refine Sp_of (by decide) (Nat.le_of_ble_eq_true rfl) ?_
  show Wn _ _ 0 [(0, .ref (71)), (1, .int (v)), (2, .int (y))] [] _ _
  refine wn_ld (pc' := 1) (q := 0) (kin := 2) (v := .ref (71)) rfl (fun _ _ _ => rfl) rfl rfl ?_
  refine wn_ld (pc' := 2) (q := 1) (kin := 0) (v := .int (v)) rfl (fun _ _ _ => rfl) rfl rfl ?_
  refine wn_virI (pc' := 5) rfl rfl (by decide) rfl rfl q0 (Nat.le_of_ble_eq_true rfl) (m_isVillage _ _ w HQ.mh _ e1 (by omega) _) ?_
  refine wn_ifeqB (t := 24) (f := 8) rfl rfl rfl (fun c1 => ?_) (fun c1 => ?_)
  · have c1 : ¬ (iin v (nvW w)) := c1
    refine wn_bp (pc' := 26) (w := -2) rfl rfl (by decide) ?_
    try simp only [Int32.lt_iff_toInt_lt, Int32.le_iff_toInt_le, i2l_int, Int32.toInt_zero, iin] at c1
    refine wn_iret rfl rfl rfl ⟨congrArg (fun z => some (Value.int z)) ?_, (RQ.rfl' HQ)⟩
    unfold fitsA
    rw [qI_f (by simp only [iin]; omega)]
  · have c1 : (iin v (nvW w)) := c1
    obtain ⟨v9, hv9, rfl⟩ := iin_of c1
    have ti_v := nI_toInt (n := v9) (show v9 < 2 ^ 31 by omega)
    have cl_v := nI_clamp (n := v9) (show v9 < 2 ^ 31 by omega)
    refine wn_ld (pc' := 9) (q := 2) (kin := 0) (v := .int (y)) rfl (fun _ _ _ => rfl) rfl rfl ?_
    refine wn_staI (pc' := 12) rfl rfl (by decide) rfl rfl (Nat.le_of_ble_eq_true rfl) (m_isYear _ _ _) ?_
    refine wn_ifeqB (t := 24) (f := 15) rfl rfl rfl (fun c2 => ?_) (fun c2 => ?_)
    · have c2 : ¬ (iin y 61) := c2
      refine wn_bp (pc' := 26) (w := -2) rfl rfl (by decide) ?_
      try simp only [Int32.lt_iff_toInt_lt, Int32.le_iff_toInt_le, i2l_int, Int32.toInt_zero, iin] at c1
      try simp only [Int32.lt_iff_toInt_lt, Int32.le_iff_toInt_le, i2l_int, Int32.toInt_zero, iin] at c2
      refine wn_iret rfl rfl rfl ⟨congrArg (fun z => some (Value.int z)) ?_, (RQ.rfl' HQ)⟩
      unfold fitsA
      rw [qI_f (by simp only [iin]; omega)]
    · have c2 : (iin y 61) := c2
      obtain ⟨y9, hy9, rfl⟩ := iin_of c2
      have ti_y := nI_toInt (n := y9) (show y9 < 2 ^ 31 by omega)
      have cl_y := nI_clamp (n := y9) (show y9 < 2 ^ 31 by omega)
      refine wn_ld (pc' := 16) (q := 0) (kin := 2) (v := .ref (71)) rfl (fun _ _ _ => rfl) rfl rfl ?_
      refine wn_ld (pc' := 17) (q := 1) (kin := 0) (v := .int (nI (v9))) rfl (fun _ _ _ => rfl) rfl rfl ?_
      refine wn_ld (pc' := 18) (q := 2) (kin := 0) (v := .int (nI (y9))) rfl (fun _ _ _ => rfl) rfl rfl ?_
      have := ftN_le hWf y9 v9
      refine wn_virS (pc' := 21) rfl rfl (by decide) rfl rfl q0 (Nat.le_of_ble_eq_true rfl) (m_fitsOf _ _ w hWf HQ v9 y9 (by omega) (by omega)) (fun r9 h3 e4 => ?_)
      obtain ⟨rfl, RQ_h3⟩ := e4
      have RT_h3 := RQ.tr (RQ.rfl' HQ) RQ_h3
      obtain ⟨th_h3, tp_h3, sz_h3, at9_h3, fr_h3, tk_h3, vl_h3, fk_h3, fp_h3, il_h3, up_h3, lo_h3, hM_h3, hW_h3⟩ := RQ_h3.mh
      show Wn _ _ 21 _ [.int (nI (ftN w y9 v9))] h3 _
      refine wn_jp (pc' := 26) rfl rfl ?_
      try simp only [Int32.lt_iff_toInt_lt, Int32.le_iff_toInt_le, i2l_int, Int32.toInt_zero, iin] at c1
      try simp only [Int32.lt_iff_toInt_lt, Int32.le_iff_toInt_le, i2l_int, Int32.toInt_zero, iin] at c2
      refine wn_iret rfl rfl rfl ⟨congrArg (fun z => some (Value.int z)) ?_, RT_h3⟩
      unfold fitsA
      rw [qI_t (by simp only [iin]; omega)]
      first | rfl | (simp only [cl_v, cl_y]; done) | (simp only [cl_v, cl_y]; rfl)

theorem m_wholeOf (d : Nat) (h : aH) (w : Nat → Int32) (hWf : WfW w) (HQ : MQs h w) (y : Nat) (hy : y ≤ 60) : Sp (Rn (d + 11)) 212 [.ref (71), .int (nI (y))] h (fun r9 h9 => r9 = some (.int (whW w y)) ∧ RQ h h9 w) := by
  obtain ⟨⟨e1, e2⟩, ⟨e3, e4⟩, ⟨e5, e6⟩⟩ := Wf_n hWf
  obtain ⟨⟨e7, e8⟩, ⟨e9, e10⟩⟩ := Wf_m hWf
  have p2b := stN_le hWf
  obtain ⟨th, tp, sz, at9, fr, tk, vl, fk, fp, il, up, lo, sa9, tn, q0, q1, q2, q3, q4⟩ := id HQ
  refine Sp_of (by decide) (Nat.le_of_ble_eq_true rfl) ?_
  show Wn _ _ 0 [(0, .ref (71)), (1, .int (nI (y)))] [] _ _
  refine wn_ic (pc' := 1) (w := nI 0) rfl rfl (by decide) ?_
  refine wn_st (pc' := 2) (q := 2) (kin := 0) (lv' := [(0, .ref (71)), (1, .int (nI (y))), (2, .int (nI (0)))]) rfl (fun _ _ _ => rfl) rfl (Nat.le_of_ble_eq_true rfl) rfl ?_
  refine wn_ic (pc' := 3) (w := nI 0) rfl rfl (by decide) ?_
  refine wn_st (pc' := 4) (q := 3) (kin := 0) (lv' := [(0, .ref (71)), (1, .int (nI (y))), (2, .int (nI (0))), (3, .int (nI (0)))]) rfl (fun _ _ _ => rfl) rfl (Nat.le_of_ble_eq_true rfl) rfl ?_
  have lp2 : ∀ (n_lp2 : Nat) (g1 : aH) (v : Nat), (nvW w) + 1 ≤ v + n_lp2 → RQ h g1 w → v ≤ nvW w → Wn (Rn (d + 10)) 212 4 [(0, .ref (71)), (1, .int (nI (y))), (2, .int (bitP (fun x7 => ftN w y x7 = hdN w (ntW w)) v)), (3, .int (nI (v)))] [] (g1) (fun r9 h9 => r9 = some (.int (whW w y)) ∧ RQ h h9 w) := by
    intro n_lp2
    induction n_lp2 with
    | zero => intro g1 v hm_lp2 RT_g1 hk_v; exfalso; omega
    | succ n_lp2 ih_lp2 =>
      intro g1 v hm_lp2 RT_g1 hk_v
      obtain ⟨th_g1, tp_g1, sz_g1, at9_g1, fr_g1, tk_g1, vl_g1, fk_g1, fp_g1, il_g1, up_g1, lo_g1, hM_g1, hW_g1⟩ := RT_g1.mh
      refine wn_ld (pc' := 5) (q := 3) (kin := 0) (v := .int (nI (v))) rfl (fun _ _ _ => rfl) rfl rfl ?_
      refine wn_ld (pc' := 6) (q := 0) (kin := 2) (v := .ref (71)) rfl (fun _ _ _ => rfl) rfl rfl ?_
      refine wn_get (pc' := 9) (v := .ref (72)) rfl rfl hM_g1 rfl ?_
      refine wn_ic (pc' := 10) (w := nI 1) rfl rfl (by decide) ?_
      refine wn_ialdv (pc' := 11) (j := 1) (v := (nI (nvW w))) rfl rfl hW_g1 rfl (by omega) (by decide) (e1) ?_
      refine wn_icmpN (t := 43) (f := 14) rfl rfl rfl (by omega) (by omega) (fun c3 => ?_) (fun c3 => ?_)
      · have c3 : (nvW w) ≤ v := c3
        obtain rfl : v = nvW w := by omega
        refine wn_ld (pc' := 44) (q := 2) (kin := 0) (v := .int (bitP (fun x7 => ftN w y x7 = hdN w (ntW w)) (nvW w))) rfl (fun _ _ _ => rfl) rfl rfl ?_
        exact wn_iret rfl rfl rfl ⟨rfl, RT_g1⟩
      · have c3 : v < (nvW w) := c3
        refine wn_ld (pc' := 15) (q := 2) (kin := 0) (v := .int (bitP (fun x7 => ftN w y x7 = hdN w (ntW w)) v)) rfl (fun _ _ _ => rfl) rfl rfl ?_
        refine wn_ld (pc' := 16) (q := 0) (kin := 2) (v := .ref (71)) rfl (fun _ _ _ => rfl) rfl rfl ?_
        refine wn_ld (pc' := 17) (q := 3) (kin := 0) (v := .int (nI (v))) rfl (fun _ _ _ => rfl) rfl rfl ?_
        refine wn_ld (pc' := 18) (q := 1) (kin := 0) (v := .int (nI (y))) rfl (fun _ _ _ => rfl) rfl rfl ?_
        have := ftN_le hWf y v
        refine wn_virS (pc' := 21) rfl rfl (by decide) rfl rfl hM_g1 (Nat.le_of_ble_eq_true rfl) (m_fitsOf _ _ w hWf RT_g1.2.2.2 v y (by omega) (by omega)) (fun r9 h4 e5 => ?_)
        obtain ⟨rfl, RQ_h4⟩ := e5
        have RT_h4 := RQ.tr RT_g1 RQ_h4
        obtain ⟨th_h4, tp_h4, sz_h4, at9_h4, fr_h4, tk_h4, vl_h4, fk_h4, fp_h4, il_h4, up_h4, lo_h4, hM_h4, hW_h4⟩ := RQ_h4.mh
        show Wn _ _ 21 _ [.int (nI (ftN w y v)), .int (bitP (fun x7 => ftN w y x7 = hdN w (ntW w)) v)] h4 _
        refine wn_ld (pc' := 22) (q := 0) (kin := 2) (v := .ref (71)) rfl (fun _ _ _ => rfl) rfl rfl ?_
        have := hdN_le w (ntW w)
        refine wn_virI (pc' := 25) rfl rfl (by decide) rfl rfl hM_h4 (Nat.le_of_ble_eq_true rfl) (m_heardMany _ _ w RQ_h4.mh e5 (by omega)) ?_
        refine wn_icmpN (t := 34) (f := 28) rfl rfl rfl (by omega) (by omega) (fun c6 => ?_) (fun c6 => ?_)
        · have c6 : ¬ (ftN w y v) = (hdN w (ntW w)) := c6
          refine wn_ic (pc' := 35) (w := nI 0) rfl rfl (by decide) ?_
          refine wn_pu (pc' := 36) (st' := [.int ((bitP (fun x7 => ftN w y x7 = hdN w (ntW w)) v) ||| (nI (0)))]) rfl (fun _ _ _ => rfl) rfl rfl ?_
          refine wn_st (pc' := 37) (q := 2) (kin := 0) (lv' := [(0, .ref (71)), (1, .int (nI (y))), (2, .int ((bitP (fun x7 => ftN w y x7 = hdN w (ntW w)) v) ||| (nI (0)))), (3, .int (nI (v)))]) rfl (fun _ _ _ => rfl) rfl (Nat.le_of_ble_eq_true rfl) rfl ?_
          refine wn_incN (n := 1) (pc' := 40) (lv' := [(0, .ref (71)), (1, .int (nI (y))), (2, .int ((bitP (fun x7 => ftN w y x7 = hdN w (ntW w)) v) ||| (nI (0)))), (3, .int (nI (v + 1)))]) rfl rfl rfl (Nat.le_of_ble_eq_true rfl) rfl (by decide) ?_
          refine wn_jp (pc' := 4) rfl rfl ?_
          refine wn_weak (lv' := [(0, .ref (71)), (1, .int (nI (y))), (2, .int ((bitP (fun x7 => ftN w y x7 = hdN w (ntW w)) v) ||| (nI (0)))), (3, .int (nI (v + 1)))]) (by simp) ?_
          have z9 := ih_lp2 h4 (v + 1) (by omega) RT_h4 (by omega)
          rw [show (bitP (fun x7 => ftN w y x7 = hdN w (ntW w)) (v + 1)) = ((bitP (fun x7 => ftN w y x7 = hdN w (ntW w)) v) ||| (nI (0))) from (by exact bitP_f0 (p := fun x7 => ftN w y x7 = hdN w (ntW w)) c6)] at z9
          exact z9
        · have c6 : (ftN w y v) = (hdN w (ntW w)) := c6
          refine wn_ic (pc' := 29) (w := nI 1) rfl rfl (by decide) ?_
          refine wn_ld (pc' := 30) (q := 3) (kin := 0) (v := .int (nI (v))) rfl (fun _ _ _ => rfl) rfl rfl ?_
          refine wn_pu (pc' := 31) (st' := [.int ((nI (1)) <<< ((nI (v)) &&& 31)), .int (bitP (fun x7 => ftN w y x7 = hdN w (ntW w)) v)]) rfl (fun _ _ _ => rfl) rfl rfl ?_
          refine wn_jp (pc' := 35) rfl rfl ?_
          refine wn_pu (pc' := 36) (st' := [.int ((bitP (fun x7 => ftN w y x7 = hdN w (ntW w)) v) ||| ((nI (1)) <<< ((nI (v)) &&& 31)))]) rfl (fun _ _ _ => rfl) rfl rfl ?_
          refine wn_st (pc' := 37) (q := 2) (kin := 0) (lv' := [(0, .ref (71)), (1, .int (nI (y))), (2, .int ((bitP (fun x7 => ftN w y x7 = hdN w (ntW w)) v) ||| ((nI (1)) <<< ((nI (v)) &&& 31)))), (3, .int (nI (v)))]) rfl (fun _ _ _ => rfl) rfl (Nat.le_of_ble_eq_true rfl) rfl ?_
          refine wn_incN (n := 1) (pc' := 40) (lv' := [(0, .ref (71)), (1, .int (nI (y))), (2, .int ((bitP (fun x7 => ftN w y x7 = hdN w (ntW w)) v) ||| ((nI (1)) <<< ((nI (v)) &&& 31)))), (3, .int (nI (v + 1)))]) rfl rfl rfl (Nat.le_of_ble_eq_true rfl) rfl (by decide) ?_
          refine wn_jp (pc' := 4) rfl rfl ?_
          refine wn_weak (lv' := [(0, .ref (71)), (1, .int (nI (y))), (2, .int ((bitP (fun x7 => ftN w y x7 = hdN w (ntW w)) v) ||| ((nI (1)) <<< ((nI (v)) &&& 31)))), (3, .int (nI (v + 1)))]) (by simp) ?_
          have z9 := ih_lp2 h4 (v + 1) (by omega) RT_h4 (by omega)
          rw [show (bitP (fun x7 => ftN w y x7 = hdN w (ntW w)) (v + 1)) = ((bitP (fun x7 => ftN w y x7 = hdN w (ntW w)) v) ||| ((nI (1)) <<< ((nI (v)) &&& 31))) from (by exact bitP_t (p := fun x7 => ftN w y x7 = hdN w (ntW w)) c6)] at z9
          exact z9
  refine wn_weak (lv' := [(0, .ref (71)), (1, .int (nI (y))), (2, .int (nI (0))), (3, .int (nI (0)))]) (by simp) ?_
  have z9 := lp2 ((nvW w) + 1) h 0 (by omega) (RQ.rfl' HQ) (by omega)
  rw [show (bitP (fun x7 => ftN w y x7 = hdN w (ntW w)) 0) = (nI (0)) from (by rfl)] at z9
  exact z9

noncomputable def wholeA (w : Nat → Int32) (y : Int32) : Int32 := qI (iin y 61) (whW w y.toNatClampNeg) (-2)
theorem m_whole (d : Nat) (h : aH) (w : Nat → Int32) (hWf : WfW w) (HQ : MQs h w) (y : Int32) : Sp (Rn (d + 12)) 213 [.ref (71), .int (y)] h (fun r9 h9 => r9 = some (.int (wholeA w y)) ∧ RQ h h9 w) := by
  obtain ⟨⟨e1, e2⟩, ⟨e3, e4⟩, ⟨e5, e6⟩⟩ := Wf_n hWf
  obtain ⟨⟨e7, e8⟩, ⟨e9, e10⟩⟩ := Wf_m hWf
  have p2b := stN_le hWf
  obtain ⟨th, tp, sz, at9, fr, tk, vl, fk, fp, il, up, lo, sa9, tn, q0, q1, q2, q3, q4⟩ := id HQ
  refine Sp_of (by decide) (Nat.le_of_ble_eq_true rfl) ?_
  show Wn _ _ 0 [(0, .ref (71)), (1, .int (y))] [] _ _
  refine wn_ld (pc' := 1) (q := 1) (kin := 0) (v := .int (y)) rfl (fun _ _ _ => rfl) rfl rfl ?_
  refine wn_staI (pc' := 4) rfl rfl (by decide) rfl rfl (Nat.le_of_ble_eq_true rfl) (m_isYear _ _ _) ?_
  refine wn_ifeqB (t := 15) (f := 7) rfl rfl rfl (fun c1 => ?_) (fun c1 => ?_)
  · have c1 : ¬ (iin y 61) := c1
    refine wn_bp (pc' := 17) (w := -2) rfl rfl (by decide) ?_
    try simp only [Int32.lt_iff_toInt_lt, Int32.le_iff_toInt_le, i2l_int, Int32.toInt_zero, iin] at c1
    refine wn_iret rfl rfl rfl ⟨congrArg (fun z => some (Value.int z)) ?_, (RQ.rfl' HQ)⟩
    unfold wholeA
    rw [qI_f (by simp only [iin]; omega)]
  · have c1 : (iin y 61) := c1
    obtain ⟨y9, hy9, rfl⟩ := iin_of c1
    have ti_y := nI_toInt (n := y9) (show y9 < 2 ^ 31 by omega)
    have cl_y := nI_clamp (n := y9) (show y9 < 2 ^ 31 by omega)
    refine wn_ld (pc' := 8) (q := 0) (kin := 2) (v := .ref (71)) rfl (fun _ _ _ => rfl) rfl rfl ?_
    refine wn_ld (pc' := 9) (q := 1) (kin := 0) (v := .int (nI (y9))) rfl (fun _ _ _ => rfl) rfl rfl ?_
    refine wn_virS (pc' := 12) rfl rfl (by decide) rfl rfl q0 (Nat.le_of_ble_eq_true rfl) (m_wholeOf _ _ w hWf HQ y9 (by omega)) (fun r9 h2 e3 => ?_)
    obtain ⟨rfl, RQ_h2⟩ := e3
    have RT_h2 := RQ.tr (RQ.rfl' HQ) RQ_h2
    obtain ⟨th_h2, tp_h2, sz_h2, at9_h2, fr_h2, tk_h2, vl_h2, fk_h2, fp_h2, il_h2, up_h2, lo_h2, hM_h2, hW_h2⟩ := RQ_h2.mh
    show Wn _ _ 12 _ [.int (whW w y9)] h2 _
    refine wn_jp (pc' := 17) rfl rfl ?_
    try simp only [Int32.lt_iff_toInt_lt, Int32.le_iff_toInt_le, i2l_int, Int32.toInt_zero, iin] at c1
    refine wn_iret rfl rfl rfl ⟨congrArg (fun z => some (Value.int z)) ?_, RT_h2⟩
    unfold wholeA
    rw [qI_t (by simp only [iin]; omega)]
    first | rfl | (simp only [cl_y]; done) | (simp only [cl_y]; rfl)

noncomputable def fromA (w : Nat → Int32) (y : Int32) : Int32 := qI (iin y 61) (oI (amx (ftN w y.toNatClampNeg) (nvW w))) (-2)
theorem m_from (d : Nat) (h : aH) (w : Nat → Int32) (hWf : WfW w) (HQ : MQs h w) (y : Int32) : Sp (Rn (d + 11)) 214 [.ref (71), .int (y)] h (fun r9 h9 => r9 = some (.int (fromA w y)) ∧ RQ h h9 w) := by
  obtain ⟨⟨e1, e2⟩, ⟨e3, e4⟩, ⟨e5, e6⟩⟩ := Wf_n hWf
  obtain ⟨⟨e7, e8⟩, ⟨e9, e10⟩⟩ := Wf_m hWf
  have p2b := stN_le hWf
  obtain ⟨th, tp, sz, at9, fr, tk, vl, fk, fp, il, up, lo, sa9, tn, q0, q1, q2, q3, q4⟩ := id HQ
  refine Sp_of (by decide) (Nat.le_of_ble_eq_true rfl) ?_
  show Wn _ _ 0 [(0, .ref (71)), (1, .int (y))] [] _ _
  refine wn_ld (pc' := 1) (q := 1) (kin := 0) (v := .int (y)) rfl (fun _ _ _ => rfl) rfl rfl ?_
  refine wn_staI (pc' := 4) rfl rfl (by decide) rfl rfl (Nat.le_of_ble_eq_true rfl) (m_isYear _ _ _) ?_
  refine wn_ifneB (t := 10) (f := 7) rfl rfl rfl (fun c1 => ?_) (fun c1 => ?_)
  · have c1 : (iin y 61) := c1
    obtain ⟨y9, hy9, rfl⟩ := iin_of c1
    have ti_y := nI_toInt (n := y9) (show y9 < 2 ^ 31 by omega)
    have cl_y := nI_clamp (n := y9) (show y9 < 2 ^ 31 by omega)
    refine wn_ic (pc' := 11) (w := -1) rfl rfl (by decide) ?_
    refine wn_st (pc' := 12) (q := 2) (kin := 0) (lv' := [(0, .ref (71)), (1, .int (nI (y9))), (2, .int (-1))]) rfl (fun _ _ _ => rfl) rfl (Nat.le_of_ble_eq_true rfl) rfl ?_
    refine wn_ld (pc' := 13) (q := 0) (kin := 2) (v := .ref (71)) rfl (fun _ _ _ => rfl) rfl rfl ?_
    refine wn_get (pc' := 16) (v := .ref (72)) rfl rfl q0 rfl ?_
    refine wn_ic (pc' := 17) (w := nI 1) rfl rfl (by decide) ?_
    refine wn_ialdv (pc' := 18) (j := 1) (v := (nI (nvW w))) rfl rfl q1 rfl (by omega) (by decide) (e1) ?_
    refine wn_ic (pc' := 19) (w := nI 1) rfl rfl (by decide) ?_
    refine wn_pu (pc' := 20) (st' := [.int ((nI (nvW w)) - (nI (1)))]) rfl (fun _ _ _ => rfl) rfl rfl ?_
    refine wn_st (pc' := 21) (q := 3) (kin := 0) (lv' := [(0, .ref (71)), (1, .int (nI (y9))), (2, .int (-1)), (3, .int ((nI (nvW w)) - (nI (1))))]) rfl (fun _ _ _ => rfl) rfl (Nat.le_of_ble_eq_true rfl) rfl ?_
    have lp3 : ∀ (n_lp3 : Nat) (g2 : aH) (k : Nat) (be : Int32), (nvW w) + 1 ≤ (nvW w - k) + n_lp3 → RQ h g2 w → k ≤ nvW w → bsI (ftN w y9) k (nvW w) be → Wn (Rn (d + 10)) 214 21 [(0, .ref (71)), (1, .int (nI (y9))), (2, .int (be)), (3, .int (mI (k)))] [] (g2) (fun r9 h9 => r9 = some (.int (fromA w (nI y9))) ∧ RQ h h9 w) := by
      intro n_lp3
      induction n_lp3 with
      | zero => intro g2 k be hm_lp3 RT_g2 hk hB; exfalso; omega
      | succ n_lp3 ih_lp3 =>
        intro g2 k be hm_lp3 RT_g2 hk hB
        obtain ⟨th_g2, tp_g2, sz_g2, at9_g2, fr_g2, tk_g2, vl_g2, fk_g2, fp_g2, il_g2, up_g2, lo_g2, hM_g2, hW_g2⟩ := RT_g2.mh
        refine wn_ld (pc' := 22) (q := 3) (kin := 0) (v := .int (mI (k))) rfl (fun _ _ _ => rfl) rfl rfl ?_
        refine wn_ifc (t := 53) (f := 25) rfl rfl rfl (fun c4 => ?_) (fun c4 => ?_)
        · have c4 : ((mI (k))) < 0 := c4
          refine wn_ld (pc' := 54) (q := 2) (kin := 0) (v := .int (be)) rfl (fun _ _ _ => rfl) rfl rfl ?_
          obtain rfl := mI_lt (by omega) c4
          refine wn_iret rfl rfl rfl ⟨congrArg (fun z => some (Value.int z)) ?_, RT_g2⟩
          unfold fromA
          try simp only [Int32.lt_iff_toInt_lt, Int32.le_iff_toInt_le, i2l_int, Int32.toInt_zero, iin] at c1
          rw [qI_t (by simp only [iin]; omega), bs_e hB]
          simp only [cl_y]
        · have c4 : 0 ≤ ((mI (k))) := c4
          obtain ⟨k, rfl⟩ := mI_ge (by omega) c4
          rw [mI_s]
          rcases hB with ⟨e9, rfl⟩ | ⟨b, rfl, hb⟩
          · refine wn_ld (pc' := 26) (q := 2) (kin := 0) (v := .int (-1)) rfl (fun _ _ _ => rfl) rfl rfl ?_
            refine wn_ic (pc' := 27) (w := -1) rfl rfl (by decide) ?_
            refine wn_icmp (t := 45) (f := 30) rfl rfl rfl (fun c5 => ?_) (fun c5 => ?_)
            · have c5 : ((-1) : Int32) = ((-1)) := c5
              refine wn_ld (pc' := 46) (q := 3) (kin := 0) (v := .int (nI (k))) rfl (fun _ _ _ => rfl) rfl rfl ?_
              refine wn_st (pc' := 47) (q := 2) (kin := 0) (lv' := [(0, .ref (71)), (1, .int (nI (y9))), (2, .int (nI (k))), (3, .int (nI (k)))]) rfl (fun _ _ _ => rfl) rfl (Nat.le_of_ble_eq_true rfl) rfl ?_
              refine wn_decN (pc' := 50) (lv' := [(0, .ref (71)), (1, .int (nI (y9))), (2, .int (nI (k))), (3, .int (mI (k)))]) rfl rfl rfl (Nat.le_of_ble_eq_true rfl) rfl ?_
              refine wn_jp (pc' := 21) rfl rfl ?_
              refine wn_weak (lv' := [(0, .ref (71)), (1, .int (nI (y9))), (2, .int (nI (k))), (3, .int (mI (k)))]) (by simp) ?_
              have z9 := ih_lp3 g2 k ((nI (k))) (by omega) RT_g2 (by omega) (bs_1 (by omega))
              exact z9
            · have c5 : ¬ ((-1) : Int32) = ((-1)) := c5
              exact absurd rfl c5
          · have hb2 := hb.2.1
            refine wn_ld (pc' := 26) (q := 2) (kin := 0) (v := .int (nI (b))) rfl (fun _ _ _ => rfl) rfl rfl ?_
            refine wn_ic (pc' := 27) (w := -1) rfl rfl (by decide) ?_
            refine wn_icmp (t := 45) (f := 30) rfl rfl rfl (fun c6 => ?_) (fun c6 => ?_)
            · have c6 : ((nI (b))) = ((-1)) := c6
              exact absurd c6 (nI_m1 (by omega))
            · have c6 : ¬ ((nI (b))) = ((-1)) := c6
              refine wn_ld (pc' := 31) (q := 0) (kin := 2) (v := .ref (71)) rfl (fun _ _ _ => rfl) rfl rfl ?_
              refine wn_ld (pc' := 32) (q := 3) (kin := 0) (v := .int (nI (k))) rfl (fun _ _ _ => rfl) rfl rfl ?_
              refine wn_ld (pc' := 33) (q := 1) (kin := 0) (v := .int (nI (y9))) rfl (fun _ _ _ => rfl) rfl rfl ?_
              have := ftN_le hWf y9 k
              refine wn_virS (pc' := 36) rfl rfl (by decide) rfl rfl hM_g2 (Nat.le_of_ble_eq_true rfl) (m_fitsOf _ _ w hWf RT_g2.2.2.2 k y9 (by omega) (by omega)) (fun r9 h7 e8 => ?_)
              obtain ⟨rfl, RQ_h7⟩ := e8
              have RT_h7 := RQ.tr RT_g2 RQ_h7
              obtain ⟨th_h7, tp_h7, sz_h7, at9_h7, fr_h7, tk_h7, vl_h7, fk_h7, fp_h7, il_h7, up_h7, lo_h7, hM_h7, hW_h7⟩ := RQ_h7.mh
              show Wn _ _ 36 _ [.int (nI (ftN w y9 k))] h7 _
              refine wn_ld (pc' := 37) (q := 0) (kin := 2) (v := .ref (71)) rfl (fun _ _ _ => rfl) rfl rfl ?_
              refine wn_ld (pc' := 38) (q := 2) (kin := 0) (v := .int (nI (b))) rfl (fun _ _ _ => rfl) rfl rfl ?_
              refine wn_ld (pc' := 39) (q := 1) (kin := 0) (v := .int (nI (y9))) rfl (fun _ _ _ => rfl) rfl rfl ?_
              have := ftN_le hWf y9 b
              refine wn_virS (pc' := 42) rfl rfl (by decide) rfl rfl hM_h7 (Nat.le_of_ble_eq_true rfl) (m_fitsOf _ _ w hWf RQ_h7.2.2.2 b y9 (by omega) (by omega)) (fun r9 h9 e10 => ?_)
              obtain ⟨rfl, RQ_h9⟩ := e10
              have RT_h9 := RQ.tr RT_h7 RQ_h9
              obtain ⟨th_h9, tp_h9, sz_h9, at9_h9, fr_h9, tk_h9, vl_h9, fk_h9, fp_h9, il_h9, up_h9, lo_h9, hM_h9, hW_h9⟩ := RQ_h9.mh
              show Wn _ _ 42 _ [.int (nI (ftN w y9 b)), .int (nI (ftN w y9 k))] h9 _
              refine wn_icmpN (t := 47) (f := 45) rfl rfl rfl (by omega) (by omega) (fun c11 => ?_) (fun c11 => ?_)
              · have c11 : (ftN w y9 k) < (ftN w y9 b) := c11
                refine wn_decN (pc' := 50) (lv' := [(0, .ref (71)), (1, .int (nI (y9))), (2, .int (nI (b))), (3, .int (mI (k)))]) rfl rfl rfl (Nat.le_of_ble_eq_true rfl) rfl ?_
                refine wn_jp (pc' := 21) rfl rfl ?_
                refine wn_weak (lv' := [(0, .ref (71)), (1, .int (nI (y9))), (2, .int (nI (b))), (3, .int (mI (k)))]) (by simp) ?_
                have z9 := ih_lp3 h9 k ((nI (b))) (by omega) RT_h9 (by omega) (bs_f hb (by omega))
                exact z9
              · have c11 : (ftN w y9 b) ≤ (ftN w y9 k) := c11
                refine wn_ld (pc' := 46) (q := 3) (kin := 0) (v := .int (nI (k))) rfl (fun _ _ _ => rfl) rfl rfl ?_
                refine wn_st (pc' := 47) (q := 2) (kin := 0) (lv' := [(0, .ref (71)), (1, .int (nI (y9))), (2, .int (nI (k))), (3, .int (nI (k)))]) rfl (fun _ _ _ => rfl) rfl (Nat.le_of_ble_eq_true rfl) rfl ?_
                refine wn_decN (pc' := 50) (lv' := [(0, .ref (71)), (1, .int (nI (y9))), (2, .int (nI (k))), (3, .int (mI (k)))]) rfl rfl rfl (Nat.le_of_ble_eq_true rfl) rfl ?_
                refine wn_jp (pc' := 21) rfl rfl ?_
                refine wn_weak (lv' := [(0, .ref (71)), (1, .int (nI (y9))), (2, .int (nI (k))), (3, .int (mI (k)))]) (by simp) ?_
                have z9 := ih_lp3 h9 k ((nI (k))) (by omega) RT_h9 (by omega) (bs_t hb (by omega))
                exact z9
    refine wn_weak (lv' := [(0, .ref (71)), (1, .int (nI (y9))), (2, .int (-1)), (3, .int ((nI (nvW w)) - (nI (1))))]) (by simp) ?_
    have z9 := lp3 ((nvW w) + 1) h (nvW w) (-1) (by omega) (RQ.rfl' HQ) (by omega) (Or.inl ⟨rfl, rfl⟩)
    rw [show (mI ((nvW w))) = ((nI (nvW w)) - (nI (1))) from (by rfl)] at z9
    exact z9
  · have c1 : ¬ (iin y 61) := c1
    refine wn_bp (pc' := 9) (w := -2) rfl rfl (by decide) ?_
    try simp only [Int32.lt_iff_toInt_lt, Int32.le_iff_toInt_le, i2l_int, Int32.toInt_zero, iin] at c1
    refine wn_iret rfl rfl rfl ⟨congrArg (fun z => some (Value.int z)) ?_, (RQ.rfl' HQ)⟩
    unfold fromA
    rw [qI_f (by simp only [iin]; omega)]

noncomputable def nextA (w : Nat → Int32) (y : Int32) : Int32 := qI (iin y 61) (nxS w y.toNatClampNeg (whW w y.toNatClampNeg) (ntW w)).1 (-2)
theorem m_next (d : Nat) (h : aH) (w : Nat → Int32) (hWf : WfW w) (HQ : MQs h w) (y : Int32) : Sp (Rn (d + 12)) 215 [.ref (71), .int (y)] h (fun r9 h9 => r9 = some (.int (nextA w y)) ∧ RQ h h9 w) := by
  obtain ⟨⟨e1, e2⟩, ⟨e3, e4⟩, ⟨e5, e6⟩⟩ := Wf_n hWf
  obtain ⟨⟨e7, e8⟩, ⟨e9, e10⟩⟩ := Wf_m hWf
  have p2b := stN_le hWf
  obtain ⟨th, tp, sz, at9, fr, tk, vl, fk, fp, il, up, lo, sa9, tn, q0, q1, q2, q3, q4⟩ := id HQ
  refine Sp_of (by decide) (Nat.le_of_ble_eq_true rfl) ?_
  show Wn _ _ 0 [(0, .ref (71)), (1, .int (y))] [] _ _
  refine wn_ld (pc' := 1) (q := 1) (kin := 0) (v := .int (y)) rfl (fun _ _ _ => rfl) rfl rfl ?_
  refine wn_staI (pc' := 4) rfl rfl (by decide) rfl rfl (Nat.le_of_ble_eq_true rfl) (m_isYear _ _ _) ?_
  refine wn_ifneB (t := 10) (f := 7) rfl rfl rfl (fun c1 => ?_) (fun c1 => ?_)
  · have c1 : (iin y 61) := c1
    obtain ⟨y9, hy9, rfl⟩ := iin_of c1
    have ti_y := nI_toInt (n := y9) (show y9 < 2 ^ 31 by omega)
    have cl_y := nI_clamp (n := y9) (show y9 < 2 ^ 31 by omega)
    refine wn_ld (pc' := 11) (q := 0) (kin := 2) (v := .ref (71)) rfl (fun _ _ _ => rfl) rfl rfl ?_
    refine wn_ld (pc' := 12) (q := 1) (kin := 0) (v := .int (nI (y9))) rfl (fun _ _ _ => rfl) rfl rfl ?_
    refine wn_virS (pc' := 15) rfl rfl (by decide) rfl rfl q0 (Nat.le_of_ble_eq_true rfl) (m_wholeOf _ _ w hWf HQ y9 (by omega)) (fun r9 h2 e3 => ?_)
    obtain ⟨rfl, RQ_h2⟩ := e3
    have RT_h2 := RQ.tr (RQ.rfl' HQ) RQ_h2
    obtain ⟨th_h2, tp_h2, sz_h2, at9_h2, fr_h2, tk_h2, vl_h2, fk_h2, fp_h2, il_h2, up_h2, lo_h2, hM_h2, hW_h2⟩ := RQ_h2.mh
    show Wn _ _ 15 _ [.int (whW w y9)] h2 _
    refine wn_st (pc' := 16) (q := 2) (kin := 0) (lv' := [(0, .ref (71)), (1, .int (nI (y9))), (2, .int (whW w y9))]) rfl (fun _ _ _ => rfl) rfl (Nat.le_of_ble_eq_true rfl) rfl ?_
    refine wn_ic (pc' := 17) (w := -1) rfl rfl (by decide) ?_
    refine wn_st (pc' := 18) (q := 3) (kin := 0) (lv' := [(0, .ref (71)), (1, .int (nI (y9))), (2, .int (whW w y9)), (3, .int (-1))]) rfl (fun _ _ _ => rfl) rfl (Nat.le_of_ble_eq_true rfl) rfl ?_
    refine wn_ld (pc' := 19) (q := 2) (kin := 0) (v := .int (whW w y9)) rfl (fun _ _ _ => rfl) rfl rfl ?_
    have := cntP_le (fun k => bt (whW w y9) k = true) 24
    refine wn_staI (pc' := 22) rfl rfl (by decide) rfl rfl (Nat.le_of_ble_eq_true rfl) (m_ones _ _ (whW w y9)) ?_
    refine wn_st (pc' := 24) (q := 4) (kin := 0) (lv' := [(0, .ref (71)), (1, .int (nI (y9))), (2, .int (whW w y9)), (3, .int (-1)), (4, .int (nI (cntP (fun k => bt (whW w y9) k = true) 24)))]) rfl (fun _ _ _ => rfl) rfl (Nat.le_of_ble_eq_true rfl) rfl ?_
    refine wn_ic (pc' := 25) (w := nI 0) rfl rfl (by decide) ?_
    refine wn_st (pc' := 27) (q := 5) (kin := 0) (lv' := [(0, .ref (71)), (1, .int (nI (y9))), (2, .int (whW w y9)), (3, .int (-1)), (4, .int (nI (cntP (fun k => bt (whW w y9) k = true) 24))), (5, .int (nI (0)))]) rfl (fun _ _ _ => rfl) rfl (Nat.le_of_ble_eq_true rfl) rfl ?_
    have lp5 : ∀ (n_lp5 : Nat) (g4 : aH) (i : Nat), (ntW w) + 1 ≤ i + n_lp5 → RQ h g4 w → i ≤ ntW w → Wn (Rn (d + 11)) 215 27 [(0, .ref (71)), (1, .int (nI (y9))), (2, .int (whW w y9)), (3, .int ((nxS w y9 (whW w y9) i).1)), (4, .int (nI ((nxS w y9 (whW w y9) i).2))), (5, .int (nI (i)))] [] (g4) (fun r9 h9 => r9 = some (.int (nextA w (nI y9))) ∧ RQ h h9 w) := by
      intro n_lp5
      induction n_lp5 with
      | zero => intro g4 i hm_lp5 RT_g4 hi_; exfalso; omega
      | succ n_lp5 ih_lp5 =>
        intro g4 i hm_lp5 RT_g4 hi_
        obtain ⟨th_g4, tp_g4, sz_g4, at9_g4, fr_g4, tk_g4, vl_g4, fk_g4, fp_g4, il_g4, up_g4, lo_g4, hM_g4, hW_g4⟩ := RT_g4.mh
        have := nxS_le hWf y9 (whW w y9) i
        refine wn_ld (pc' := 29) (q := 5) (kin := 0) (v := .int (nI (i))) rfl (fun _ _ _ => rfl) rfl rfl ?_
        refine wn_ld (pc' := 30) (q := 0) (kin := 2) (v := .ref (71)) rfl (fun _ _ _ => rfl) rfl rfl ?_
        refine wn_get (pc' := 33) (v := .ref (72)) rfl rfl hM_g4 rfl ?_
        refine wn_ic (pc' := 34) (w := nI 3) rfl rfl (by decide) ?_
        refine wn_ialdv (pc' := 35) (j := 3) (v := (nI (ntW w))) rfl rfl hW_g4 rfl (by omega) (by decide) (e5) ?_
        refine wn_icmpN (t := 157) (f := 38) rfl rfl rfl (by omega) (by omega) (fun c6 => ?_) (fun c6 => ?_)
        · have c6 : (ntW w) ≤ i := c6
          obtain rfl : i = ntW w := by omega
          refine wn_ld (pc' := 158) (q := 3) (kin := 0) (v := .int ((nxS w y9 (whW w y9) (ntW w)).1)) rfl (fun _ _ _ => rfl) rfl rfl ?_
          try simp only [Int32.lt_iff_toInt_lt, Int32.le_iff_toInt_le, i2l_int, Int32.toInt_zero, iin] at c1
          refine wn_iret rfl rfl rfl ⟨congrArg (fun z => some (Value.int z)) ?_, RT_g4⟩
          unfold nextA
          rw [qI_t (by simp only [iin]; omega)]
          first | rfl | (simp only [cl_y]; done) | (simp only [cl_y]; rfl)
        · have c6 : i < (ntW w) := c6
          refine wn_ld (pc' := 39) (q := 0) (kin := 2) (v := .ref (71)) rfl (fun _ _ _ => rfl) rfl rfl ?_
          refine wn_ld (pc' := 41) (q := 5) (kin := 0) (v := .int (nI (i))) rfl (fun _ _ _ => rfl) rfl rfl ?_
          refine wn_virI (pc' := 44) rfl rfl (by decide) rfl rfl hM_g4 (Nat.le_of_ble_eq_true rfl) (m_isHeard _ _ w RT_g4.mh i (by omega)) ?_
          refine wn_ifeqB (t := 50) (f := 47) rfl rfl rfl (fun c7 => ?_) (fun c7 => ?_)
          · have c7 : ¬ (¬ w (178 + 4 * i) = -1) := c7
            refine wn_ic (pc' := 51) (w := nI 0) rfl rfl (by decide) ?_
            refine wn_st (pc' := 53) (q := 6) (kin := 0) (lv' := [(0, .ref (71)), (1, .int (nI (y9))), (2, .int (whW w y9)), (3, .int ((nxS w y9 (whW w y9) i).1)), (4, .int (nI ((nxS w y9 (whW w y9) i).2))), (5, .int (nI (i))), (6, .int (nI (0)))]) rfl (fun _ _ _ => rfl) rfl (Nat.le_of_ble_eq_true rfl) rfl ?_
            refine wn_ic (pc' := 54) (w := nI 0) rfl rfl (by decide) ?_
            refine wn_st (pc' := 56) (q := 7) (kin := 0) (lv' := [(0, .ref (71)), (1, .int (nI (y9))), (2, .int (whW w y9)), (3, .int ((nxS w y9 (whW w y9) i).1)), (4, .int (nI ((nxS w y9 (whW w y9) i).2))), (5, .int (nI (i))), (6, .int (nI (0))), (7, .int (nI (0)))]) rfl (fun _ _ _ => rfl) rfl (Nat.le_of_ble_eq_true rfl) rfl ?_
            have lp9 : ∀ (n_lp9 : Nat) (g8 : aH) (a : Nat), 5 + 1 ≤ a + n_lp9 → RQ h g8 w → a ≤ 5 → Wn (Rn (d + 11)) 215 56 [(0, .ref (71)), (1, .int (nI (y9))), (2, .int (whW w y9)), (3, .int ((nxS w y9 (whW w y9) i).1)), (4, .int (nI ((nxS w y9 (whW w y9) i).2))), (5, .int (nI (i))), (6, .int (nI (mxP (cpN w y9 (whW w y9) i) a))), (7, .int (nI (a)))] [] (g8) (fun r9 h9 => r9 = some (.int (nextA w (nI y9))) ∧ RQ h h9 w) := by
              intro n_lp9
              induction n_lp9 with
              | zero => intro g8 a hm_lp9 RT_g8 ha_; exfalso; omega
              | succ n_lp9 ih_lp9 =>
                intro g8 a hm_lp9 RT_g8 ha_
                obtain ⟨th_g8, tp_g8, sz_g8, at9_g8, fr_g8, tk_g8, vl_g8, fk_g8, fp_g8, il_g8, up_g8, lo_g8, hM_g8, hW_g8⟩ := RT_g8.mh
                have := mxP_le (f := cpN w y9 (whW w y9) i) a (fun k _ => cpN_le hWf y9 (whW w y9) i k)
                have := nxS_le hWf y9 (whW w y9) i
                refine wn_ld (pc' := 58) (q := 7) (kin := 0) (v := .int (nI (a))) rfl (fun _ _ _ => rfl) rfl rfl ?_
                refine wn_ic (pc' := 59) (w := nI 5) rfl rfl (by decide) ?_
                refine wn_icmpN (t := 134) (f := 62) rfl rfl rfl (by omega) (by omega) (fun c10 => ?_) (fun c10 => ?_)
                · have c10 : 5 ≤ a := c10
                  obtain rfl : a = 5 := by omega
                  refine wn_ld (pc' := 136) (q := 6) (kin := 0) (v := .int (nI (mxP (cpN w y9 (whW w y9) i) 5))) rfl (fun _ _ _ => rfl) rfl rfl ?_
                  refine wn_ld (pc' := 138) (q := 4) (kin := 0) (v := .int (nI ((nxS w y9 (whW w y9) i).2))) rfl (fun _ _ _ => rfl) rfl rfl ?_
                  refine wn_icmpN (t := 144) (f := 141) rfl rfl rfl (by omega) (by omega) (fun c11 => ?_) (fun c11 => ?_)
                  · have c11 : (mxP (cpN w y9 (whW w y9) i) 5) < ((nxS w y9 (whW w y9) i).2) := c11
                    refine wn_ld (pc' := 146) (q := 5) (kin := 0) (v := .int (nI (i))) rfl (fun _ _ _ => rfl) rfl rfl ?_
                    refine wn_st (pc' := 147) (q := 3) (kin := 0) (lv' := [(0, .ref (71)), (1, .int (nI (y9))), (2, .int (whW w y9)), (3, .int (nI (i))), (4, .int (nI ((nxS w y9 (whW w y9) i).2))), (5, .int (nI (i))), (6, .int (nI (mxP (cpN w y9 (whW w y9) i) 5))), (7, .int (nI (5)))]) rfl (fun _ _ _ => rfl) rfl (Nat.le_of_ble_eq_true rfl) rfl ?_
                    refine wn_ld (pc' := 149) (q := 6) (kin := 0) (v := .int (nI (mxP (cpN w y9 (whW w y9) i) 5))) rfl (fun _ _ _ => rfl) rfl rfl ?_
                    refine wn_st (pc' := 151) (q := 4) (kin := 0) (lv' := [(0, .ref (71)), (1, .int (nI (y9))), (2, .int (whW w y9)), (3, .int (nI (i))), (4, .int (nI (mxP (cpN w y9 (whW w y9) i) 5))), (5, .int (nI (i))), (6, .int (nI (mxP (cpN w y9 (whW w y9) i) 5))), (7, .int (nI (5)))]) rfl (fun _ _ _ => rfl) rfl (Nat.le_of_ble_eq_true rfl) rfl ?_
                    refine wn_incN (n := 1) (pc' := 154) (lv' := [(0, .ref (71)), (1, .int (nI (y9))), (2, .int (whW w y9)), (3, .int (nI (i))), (4, .int (nI (mxP (cpN w y9 (whW w y9) i) 5))), (5, .int (nI (i + 1))), (6, .int (nI (mxP (cpN w y9 (whW w y9) i) 5))), (7, .int (nI (5)))]) rfl rfl rfl (Nat.le_of_ble_eq_true rfl) rfl (by decide) ?_
                    refine wn_jp (pc' := 27) rfl rfl ?_
                    refine wn_weak (lv' := [(0, .ref (71)), (1, .int (nI (y9))), (2, .int (whW w y9)), (3, .int (nI (i))), (4, .int (nI (mxP (cpN w y9 (whW w y9) i) 5))), (5, .int (nI (i + 1)))]) (by simp) ?_
                    have z9 := ih_lp5 g8 (i + 1) (by omega) RT_g8 (by omega)
                    rw [show ((nxS w y9 (whW w y9) (i + 1)).1) = (nI (i)) from (by exact congrArg Prod.fst (nxS_t (w := w) (y := y9) (s := whW w y9) (k := i) ⟨Classical.not_not.mp c7, by omega⟩))] at z9
                    rw [show (nI ((nxS w y9 (whW w y9) (i + 1)).2)) = (nI (mxP (cpN w y9 (whW w y9) i) 5)) from (by exact congrArg (fun q => nI q.2) (nxS_t (w := w) (y := y9) (s := whW w y9) (k := i) ⟨Classical.not_not.mp c7, by omega⟩))] at z9
                    exact z9
                  · have c11 : ((nxS w y9 (whW w y9) i).2) ≤ (mxP (cpN w y9 (whW w y9) i) 5) := c11
                    refine wn_jp (pc' := 151) rfl rfl ?_
                    refine wn_incN (n := 1) (pc' := 154) (lv' := [(0, .ref (71)), (1, .int (nI (y9))), (2, .int (whW w y9)), (3, .int ((nxS w y9 (whW w y9) i).1)), (4, .int (nI ((nxS w y9 (whW w y9) i).2))), (5, .int (nI (i + 1))), (6, .int (nI (mxP (cpN w y9 (whW w y9) i) 5))), (7, .int (nI (5)))]) rfl rfl rfl (Nat.le_of_ble_eq_true rfl) rfl (by decide) ?_
                    refine wn_jp (pc' := 27) rfl rfl ?_
                    refine wn_weak (lv' := [(0, .ref (71)), (1, .int (nI (y9))), (2, .int (whW w y9)), (3, .int ((nxS w y9 (whW w y9) i).1)), (4, .int (nI ((nxS w y9 (whW w y9) i).2))), (5, .int (nI (i + 1)))]) (by simp) ?_
                    have z9 := ih_lp5 g8 (i + 1) (by omega) RT_g8 (by omega)
                    rw [show ((nxS w y9 (whW w y9) (i + 1)).1) = ((nxS w y9 (whW w y9) i).1) from (by exact congrArg Prod.fst (nxS_f (w := w) (y := y9) (s := whW w y9) (k := i) (fun q => by have := q.2; omega)))] at z9
                    rw [show (nI ((nxS w y9 (whW w y9) (i + 1)).2)) = (nI ((nxS w y9 (whW w y9) i).2)) from (by exact congrArg (fun q => nI q.2) (nxS_f (w := w) (y := y9) (s := whW w y9) (k := i) (fun q => by have := q.2; omega)))] at z9
                    exact z9
                · have c10 : a < 5 := c10
                  refine wn_ic (pc' := 63) (w := nI 0) rfl rfl (by decide) ?_
                  refine wn_st (pc' := 65) (q := 8) (kin := 0) (lv' := [(0, .ref (71)), (1, .int (nI (y9))), (2, .int (whW w y9)), (3, .int ((nxS w y9 (whW w y9) i).1)), (4, .int (nI ((nxS w y9 (whW w y9) i).2))), (5, .int (nI (i))), (6, .int (nI (mxP (cpN w y9 (whW w y9) i) a))), (7, .int (nI (a))), (8, .int (nI (0)))]) rfl (fun _ _ _ => rfl) rfl (Nat.le_of_ble_eq_true rfl) rfl ?_
                  refine wn_ic (pc' := 66) (w := nI 0) rfl rfl (by decide) ?_
                  refine wn_st (pc' := 68) (q := 9) (kin := 0) (lv' := [(0, .ref (71)), (1, .int (nI (y9))), (2, .int (whW w y9)), (3, .int ((nxS w y9 (whW w y9) i).1)), (4, .int (nI ((nxS w y9 (whW w y9) i).2))), (5, .int (nI (i))), (6, .int (nI (mxP (cpN w y9 (whW w y9) i) a))), (7, .int (nI (a))), (8, .int (nI (0))), (9, .int (nI (0)))]) rfl (fun _ _ _ => rfl) rfl (Nat.le_of_ble_eq_true rfl) rfl ?_
                  have lp13 : ∀ (n_lp13 : Nat) (g12 : aH) (v : Nat), (nvW w) + 1 ≤ v + n_lp13 → RQ h g12 w → v ≤ nvW w → Wn (Rn (d + 11)) 215 68 [(0, .ref (71)), (1, .int (nI (y9))), (2, .int (whW w y9)), (3, .int ((nxS w y9 (whW w y9) i).1)), (4, .int (nI ((nxS w y9 (whW w y9) i).2))), (5, .int (nI (i))), (6, .int (nI (mxP (cpN w y9 (whW w y9) i) a))), (7, .int (nI (a))), (8, .int (nI (cntP (fun x7 => (bt (whW w y9) x7 = true) ∧ (sdW w y9 x7 i = a)) v))), (9, .int (nI (v)))] [] (g12) (fun r9 h9 => r9 = some (.int (nextA w (nI y9))) ∧ RQ h h9 w) := by
                    intro n_lp13
                    induction n_lp13 with
                    | zero => intro g12 v hm_lp13 RT_g12 hk_v; exfalso; omega
                    | succ n_lp13 ih_lp13 =>
                      intro g12 v hm_lp13 RT_g12 hk_v
                      obtain ⟨th_g12, tp_g12, sz_g12, at9_g12, fr_g12, tk_g12, vl_g12, fk_g12, fp_g12, il_g12, up_g12, lo_g12, hM_g12, hW_g12⟩ := RT_g12.mh
                      have := cntP_le (fun x7 => (bt (whW w y9) x7 = true) ∧ (sdW w y9 x7 i = a)) v
                      refine wn_ld (pc' := 70) (q := 9) (kin := 0) (v := .int (nI (v))) rfl (fun _ _ _ => rfl) rfl rfl ?_
                      refine wn_ld (pc' := 71) (q := 0) (kin := 2) (v := .ref (71)) rfl (fun _ _ _ => rfl) rfl rfl ?_
                      refine wn_get (pc' := 74) (v := .ref (72)) rfl rfl hM_g12 rfl ?_
                      refine wn_ic (pc' := 75) (w := nI 1) rfl rfl (by decide) ?_
                      refine wn_ialdv (pc' := 76) (j := 1) (v := (nI (nvW w))) rfl rfl hW_g12 rfl (by omega) (by decide) (e1) ?_
                      refine wn_icmpN (t := 119) (f := 79) rfl rfl rfl (by omega) (by omega) (fun c14 => ?_) (fun c14 => ?_)
                      · have c14 : (nvW w) ≤ v := c14
                        obtain rfl : v = nvW w := by omega
                        refine wn_ld (pc' := 121) (q := 6) (kin := 0) (v := .int (nI (mxP (cpN w y9 (whW w y9) i) a))) rfl (fun _ _ _ => rfl) rfl rfl ?_
                        refine wn_ld (pc' := 123) (q := 8) (kin := 0) (v := .int (nI (cntP (fun x7 => (bt (whW w y9) x7 = true) ∧ (sdW w y9 x7 i = a)) (nvW w)))) rfl (fun _ _ _ => rfl) rfl rfl ?_
                        refine wn_maxN (pc' := 126) rfl rfl (Nat.le_of_ble_eq_true rfl) (by omega) (by omega) ?_
                        refine wn_st (pc' := 128) (q := 6) (kin := 0) (lv' := [(0, .ref (71)), (1, .int (nI (y9))), (2, .int (whW w y9)), (3, .int ((nxS w y9 (whW w y9) i).1)), (4, .int (nI ((nxS w y9 (whW w y9) i).2))), (5, .int (nI (i))), (6, .int (nI (max (mxP (cpN w y9 (whW w y9) i) a) (cntP (fun x7 => (bt (whW w y9) x7 = true) ∧ (sdW w y9 x7 i = a)) (nvW w))))), (7, .int (nI (a))), (8, .int (nI (cntP (fun x7 => (bt (whW w y9) x7 = true) ∧ (sdW w y9 x7 i = a)) (nvW w)))), (9, .int (nI ((nvW w))))]) rfl (fun _ _ _ => rfl) rfl (Nat.le_of_ble_eq_true rfl) rfl ?_
                        refine wn_incN (n := 1) (pc' := 131) (lv' := [(0, .ref (71)), (1, .int (nI (y9))), (2, .int (whW w y9)), (3, .int ((nxS w y9 (whW w y9) i).1)), (4, .int (nI ((nxS w y9 (whW w y9) i).2))), (5, .int (nI (i))), (6, .int (nI (max (mxP (cpN w y9 (whW w y9) i) a) (cntP (fun x7 => (bt (whW w y9) x7 = true) ∧ (sdW w y9 x7 i = a)) (nvW w))))), (7, .int (nI (a + 1))), (8, .int (nI (cntP (fun x7 => (bt (whW w y9) x7 = true) ∧ (sdW w y9 x7 i = a)) (nvW w)))), (9, .int (nI ((nvW w))))]) rfl rfl rfl (Nat.le_of_ble_eq_true rfl) rfl (by decide) ?_
                        refine wn_jp (pc' := 56) rfl rfl ?_
                        refine wn_weak (lv' := [(0, .ref (71)), (1, .int (nI (y9))), (2, .int (whW w y9)), (3, .int ((nxS w y9 (whW w y9) i).1)), (4, .int (nI ((nxS w y9 (whW w y9) i).2))), (5, .int (nI (i))), (6, .int (nI (max (mxP (cpN w y9 (whW w y9) i) a) (cntP (fun x7 => (bt (whW w y9) x7 = true) ∧ (sdW w y9 x7 i = a)) (nvW w))))), (7, .int (nI (a + 1)))]) (by simp) ?_
                        have z9 := ih_lp9 g12 (a + 1) (by omega) RT_g12 (by omega)
                        rw [show (nI (mxP (cpN w y9 (whW w y9) i) (a + 1))) = (nI (max (mxP (cpN w y9 (whW w y9) i) a) (cntP (fun x7 => (bt (whW w y9) x7 = true) ∧ (sdW w y9 x7 i = a)) (nvW w)))) from (by rfl)] at z9
                        exact z9
                      · have c14 : v < (nvW w) := c14
                        refine wn_ld (pc' := 81) (q := 8) (kin := 0) (v := .int (nI (cntP (fun x7 => (bt (whW w y9) x7 = true) ∧ (sdW w y9 x7 i = a)) v))) rfl (fun _ _ _ => rfl) rfl rfl ?_
                        refine wn_ld (pc' := 82) (q := 2) (kin := 0) (v := .int (whW w y9)) rfl (fun _ _ _ => rfl) rfl rfl ?_
                        refine wn_ld (pc' := 84) (q := 9) (kin := 0) (v := .int (nI (v))) rfl (fun _ _ _ => rfl) rfl rfl ?_
                        refine wn_pu (pc' := 85) (st' := [.int ((whW w y9) >>> ((nI (v)) &&& 31)), .int (nI (cntP (fun x7 => (bt (whW w y9) x7 = true) ∧ (sdW w y9 x7 i = a)) v))]) rfl (fun _ _ _ => rfl) rfl rfl ?_
                        refine wn_ic (pc' := 86) (w := nI 1) rfl rfl (by decide) ?_
                        refine wn_pu (pc' := 87) (st' := [.int (((whW w y9) >>> ((nI (v)) &&& 31)) &&& (nI (1))), .int (nI (cntP (fun x7 => (bt (whW w y9) x7 = true) ∧ (sdW w y9 x7 i = a)) v))]) rfl (fun _ _ _ => rfl) rfl rfl ?_
                        rw [tst_b (show v < 31 by omega)]
                        refine wn_ic (pc' := 88) (w := nI 1) rfl rfl (by decide) ?_
                        refine wn_icneB1 (t := 109) (f := 91) rfl rfl rfl (fun c15 => ?_) (fun c15 => ?_)
                        · have c15 : ¬ (bt (whW w y9) v = true) := c15
                          refine wn_ic (pc' := 110) (w := nI 0) rfl rfl (by decide) ?_
                          refine wn_addN (pc' := 111) rfl rfl ?_
                          refine wn_st (pc' := 113) (q := 8) (kin := 0) (lv' := [(0, .ref (71)), (1, .int (nI (y9))), (2, .int (whW w y9)), (3, .int ((nxS w y9 (whW w y9) i).1)), (4, .int (nI ((nxS w y9 (whW w y9) i).2))), (5, .int (nI (i))), (6, .int (nI (mxP (cpN w y9 (whW w y9) i) a))), (7, .int (nI (a))), (8, .int (nI ((cntP (fun x7 => (bt (whW w y9) x7 = true) ∧ (sdW w y9 x7 i = a)) v) + 0))), (9, .int (nI (v)))]) rfl (fun _ _ _ => rfl) rfl (Nat.le_of_ble_eq_true rfl) rfl ?_
                          refine wn_incN (n := 1) (pc' := 116) (lv' := [(0, .ref (71)), (1, .int (nI (y9))), (2, .int (whW w y9)), (3, .int ((nxS w y9 (whW w y9) i).1)), (4, .int (nI ((nxS w y9 (whW w y9) i).2))), (5, .int (nI (i))), (6, .int (nI (mxP (cpN w y9 (whW w y9) i) a))), (7, .int (nI (a))), (8, .int (nI ((cntP (fun x7 => (bt (whW w y9) x7 = true) ∧ (sdW w y9 x7 i = a)) v) + 0))), (9, .int (nI (v + 1)))]) rfl rfl rfl (Nat.le_of_ble_eq_true rfl) rfl (by decide) ?_
                          refine wn_jp (pc' := 68) rfl rfl ?_
                          refine wn_weak (lv' := [(0, .ref (71)), (1, .int (nI (y9))), (2, .int (whW w y9)), (3, .int ((nxS w y9 (whW w y9) i).1)), (4, .int (nI ((nxS w y9 (whW w y9) i).2))), (5, .int (nI (i))), (6, .int (nI (mxP (cpN w y9 (whW w y9) i) a))), (7, .int (nI (a))), (8, .int (nI ((cntP (fun x7 => (bt (whW w y9) x7 = true) ∧ (sdW w y9 x7 i = a)) v) + 0))), (9, .int (nI (v + 1)))]) (by simp) ?_
                          have z9 := ih_lp13 g12 (v + 1) (by omega) RT_g12 (by omega)
                          rw [show (nI (cntP (fun x7 => (bt (whW w y9) x7 = true) ∧ (sdW w y9 x7 i = a)) (v + 1))) = (nI ((cntP (fun x7 => (bt (whW w y9) x7 = true) ∧ (sdW w y9 x7 i = a)) v) + 0)) from (by exact congrArg nI (cntP_f (p := fun x7 => (bt (whW w y9) x7 = true) ∧ (sdW w y9 x7 i = a)) (fun q8 => c15 q8.1)))] at z9
                          exact z9
                        · have c15 : (bt (whW w y9) v = true) := c15
                          refine wn_ld (pc' := 92) (q := 0) (kin := 2) (v := .ref (71)) rfl (fun _ _ _ => rfl) rfl rfl ?_
                          refine wn_ld (pc' := 94) (q := 9) (kin := 0) (v := .int (nI (v))) rfl (fun _ _ _ => rfl) rfl rfl ?_
                          refine wn_ld (pc' := 96) (q := 5) (kin := 0) (v := .int (nI (i))) rfl (fun _ _ _ => rfl) rfl rfl ?_
                          refine wn_ld (pc' := 97) (q := 1) (kin := 0) (v := .int (nI (y9))) rfl (fun _ _ _ => rfl) rfl rfl ?_
                          have := sdW_5 hWf (y := y9) (show v < nvW w by omega) (show i < ntW w by omega)
                          refine wn_virS (pc' := 100) rfl rfl (by decide) rfl rfl hM_g12 (Nat.le_of_ble_eq_true rfl) (m_saidIn _ _ w hWf RT_g12.2.2.2 v i y9 (by omega) (by omega) (by omega)) (fun r9 h16 e17 => ?_)
                          obtain ⟨rfl, RQ_h16⟩ := e17
                          have RT_h16 := RQ.tr RT_g12 RQ_h16
                          obtain ⟨th_h16, tp_h16, sz_h16, at9_h16, fr_h16, tk_h16, vl_h16, fk_h16, fp_h16, il_h16, up_h16, lo_h16, hM_h16, hW_h16⟩ := RQ_h16.mh
                          show Wn _ _ 100 _ [.int (nI (sdW w y9 v i)), .int (nI (cntP (fun x7 => (bt (whW w y9) x7 = true) ∧ (sdW w y9 x7 i = a)) v))] h16 _
                          refine wn_ld (pc' := 102) (q := 7) (kin := 0) (v := .int (nI (a))) rfl (fun _ _ _ => rfl) rfl rfl ?_
                          refine wn_icmpN (t := 109) (f := 105) rfl rfl rfl (by omega) (by omega) (fun c18 => ?_) (fun c18 => ?_)
                          · have c18 : ¬ (sdW w y9 v i) = a := c18
                            refine wn_ic (pc' := 110) (w := nI 0) rfl rfl (by decide) ?_
                            refine wn_addN (pc' := 111) rfl rfl ?_
                            refine wn_st (pc' := 113) (q := 8) (kin := 0) (lv' := [(0, .ref (71)), (1, .int (nI (y9))), (2, .int (whW w y9)), (3, .int ((nxS w y9 (whW w y9) i).1)), (4, .int (nI ((nxS w y9 (whW w y9) i).2))), (5, .int (nI (i))), (6, .int (nI (mxP (cpN w y9 (whW w y9) i) a))), (7, .int (nI (a))), (8, .int (nI ((cntP (fun x7 => (bt (whW w y9) x7 = true) ∧ (sdW w y9 x7 i = a)) v) + 0))), (9, .int (nI (v)))]) rfl (fun _ _ _ => rfl) rfl (Nat.le_of_ble_eq_true rfl) rfl ?_
                            refine wn_incN (n := 1) (pc' := 116) (lv' := [(0, .ref (71)), (1, .int (nI (y9))), (2, .int (whW w y9)), (3, .int ((nxS w y9 (whW w y9) i).1)), (4, .int (nI ((nxS w y9 (whW w y9) i).2))), (5, .int (nI (i))), (6, .int (nI (mxP (cpN w y9 (whW w y9) i) a))), (7, .int (nI (a))), (8, .int (nI ((cntP (fun x7 => (bt (whW w y9) x7 = true) ∧ (sdW w y9 x7 i = a)) v) + 0))), (9, .int (nI (v + 1)))]) rfl rfl rfl (Nat.le_of_ble_eq_true rfl) rfl (by decide) ?_
                            refine wn_jp (pc' := 68) rfl rfl ?_
                            refine wn_weak (lv' := [(0, .ref (71)), (1, .int (nI (y9))), (2, .int (whW w y9)), (3, .int ((nxS w y9 (whW w y9) i).1)), (4, .int (nI ((nxS w y9 (whW w y9) i).2))), (5, .int (nI (i))), (6, .int (nI (mxP (cpN w y9 (whW w y9) i) a))), (7, .int (nI (a))), (8, .int (nI ((cntP (fun x7 => (bt (whW w y9) x7 = true) ∧ (sdW w y9 x7 i = a)) v) + 0))), (9, .int (nI (v + 1)))]) (by simp) ?_
                            have z9 := ih_lp13 h16 (v + 1) (by omega) RT_h16 (by omega)
                            rw [show (nI (cntP (fun x7 => (bt (whW w y9) x7 = true) ∧ (sdW w y9 x7 i = a)) (v + 1))) = (nI ((cntP (fun x7 => (bt (whW w y9) x7 = true) ∧ (sdW w y9 x7 i = a)) v) + 0)) from (by exact congrArg nI (cntP_f (p := fun x7 => (bt (whW w y9) x7 = true) ∧ (sdW w y9 x7 i = a)) (fun q8 => c18 q8.2)))] at z9
                            exact z9
                          · have c18 : (sdW w y9 v i) = a := c18
                            refine wn_ic (pc' := 106) (w := nI 1) rfl rfl (by decide) ?_
                            refine wn_jp (pc' := 110) rfl rfl ?_
                            refine wn_addN (pc' := 111) rfl rfl ?_
                            refine wn_st (pc' := 113) (q := 8) (kin := 0) (lv' := [(0, .ref (71)), (1, .int (nI (y9))), (2, .int (whW w y9)), (3, .int ((nxS w y9 (whW w y9) i).1)), (4, .int (nI ((nxS w y9 (whW w y9) i).2))), (5, .int (nI (i))), (6, .int (nI (mxP (cpN w y9 (whW w y9) i) a))), (7, .int (nI (a))), (8, .int (nI ((cntP (fun x7 => (bt (whW w y9) x7 = true) ∧ (sdW w y9 x7 i = a)) v) + 1))), (9, .int (nI (v)))]) rfl (fun _ _ _ => rfl) rfl (Nat.le_of_ble_eq_true rfl) rfl ?_
                            refine wn_incN (n := 1) (pc' := 116) (lv' := [(0, .ref (71)), (1, .int (nI (y9))), (2, .int (whW w y9)), (3, .int ((nxS w y9 (whW w y9) i).1)), (4, .int (nI ((nxS w y9 (whW w y9) i).2))), (5, .int (nI (i))), (6, .int (nI (mxP (cpN w y9 (whW w y9) i) a))), (7, .int (nI (a))), (8, .int (nI ((cntP (fun x7 => (bt (whW w y9) x7 = true) ∧ (sdW w y9 x7 i = a)) v) + 1))), (9, .int (nI (v + 1)))]) rfl rfl rfl (Nat.le_of_ble_eq_true rfl) rfl (by decide) ?_
                            refine wn_jp (pc' := 68) rfl rfl ?_
                            refine wn_weak (lv' := [(0, .ref (71)), (1, .int (nI (y9))), (2, .int (whW w y9)), (3, .int ((nxS w y9 (whW w y9) i).1)), (4, .int (nI ((nxS w y9 (whW w y9) i).2))), (5, .int (nI (i))), (6, .int (nI (mxP (cpN w y9 (whW w y9) i) a))), (7, .int (nI (a))), (8, .int (nI ((cntP (fun x7 => (bt (whW w y9) x7 = true) ∧ (sdW w y9 x7 i = a)) v) + 1))), (9, .int (nI (v + 1)))]) (by simp) ?_
                            have z9 := ih_lp13 h16 (v + 1) (by omega) RT_h16 (by omega)
                            rw [show (nI (cntP (fun x7 => (bt (whW w y9) x7 = true) ∧ (sdW w y9 x7 i = a)) (v + 1))) = (nI ((cntP (fun x7 => (bt (whW w y9) x7 = true) ∧ (sdW w y9 x7 i = a)) v) + 1)) from (by exact congrArg nI (cntP_t (p := fun x7 => (bt (whW w y9) x7 = true) ∧ (sdW w y9 x7 i = a)) ⟨c15, c18⟩))] at z9
                            exact z9
                  refine wn_weak (lv' := [(0, .ref (71)), (1, .int (nI (y9))), (2, .int (whW w y9)), (3, .int ((nxS w y9 (whW w y9) i).1)), (4, .int (nI ((nxS w y9 (whW w y9) i).2))), (5, .int (nI (i))), (6, .int (nI (mxP (cpN w y9 (whW w y9) i) a))), (7, .int (nI (a))), (8, .int (nI (0))), (9, .int (nI (0)))]) (by simp) ?_
                  have z9 := lp13 ((nvW w) + 1) g8 0 (by omega) RT_g8 (by omega)
                  rw [show (nI (cntP (fun x7 => (bt (whW w y9) x7 = true) ∧ (sdW w y9 x7 i = a)) 0)) = (nI (0)) from (by rfl)] at z9
                  exact z9
            refine wn_weak (lv' := [(0, .ref (71)), (1, .int (nI (y9))), (2, .int (whW w y9)), (3, .int ((nxS w y9 (whW w y9) i).1)), (4, .int (nI ((nxS w y9 (whW w y9) i).2))), (5, .int (nI (i))), (6, .int (nI (0))), (7, .int (nI (0)))]) (by simp) ?_
            have z9 := lp9 (5 + 1) g4 0 (by omega) RT_g4 (by omega)
            rw [show (nI (mxP (cpN w y9 (whW w y9) i) 0)) = (nI (0)) from (by rfl)] at z9
            exact z9
          · have c7 : (¬ w (178 + 4 * i) = -1) := c7
            refine wn_jp (pc' := 151) rfl rfl ?_
            refine wn_incN (n := 1) (pc' := 154) (lv' := [(0, .ref (71)), (1, .int (nI (y9))), (2, .int (whW w y9)), (3, .int ((nxS w y9 (whW w y9) i).1)), (4, .int (nI ((nxS w y9 (whW w y9) i).2))), (5, .int (nI (i + 1)))]) rfl rfl rfl (Nat.le_of_ble_eq_true rfl) rfl (by decide) ?_
            refine wn_jp (pc' := 27) rfl rfl ?_
            refine wn_weak (lv' := [(0, .ref (71)), (1, .int (nI (y9))), (2, .int (whW w y9)), (3, .int ((nxS w y9 (whW w y9) i).1)), (4, .int (nI ((nxS w y9 (whW w y9) i).2))), (5, .int (nI (i + 1)))]) (by simp) ?_
            have z9 := ih_lp5 g4 (i + 1) (by omega) RT_g4 (by omega)
            rw [show ((nxS w y9 (whW w y9) (i + 1)).1) = ((nxS w y9 (whW w y9) i).1) from (by exact congrArg Prod.fst (nxS_f (w := w) (y := y9) (s := whW w y9) (k := i) (fun q => c7 q.1)))] at z9
            rw [show (nI ((nxS w y9 (whW w y9) (i + 1)).2)) = (nI ((nxS w y9 (whW w y9) i).2)) from (by exact congrArg (fun q => nI q.2) (nxS_f (w := w) (y := y9) (s := whW w y9) (k := i) (fun q => c7 q.1)))] at z9
            exact z9
    refine wn_weak (lv' := [(0, .ref (71)), (1, .int (nI (y9))), (2, .int (whW w y9)), (3, .int (-1)), (4, .int (nI (cntP (fun k => bt (whW w y9) k = true) 24))), (5, .int (nI (0)))]) (by simp) ?_
    have z9 := lp5 ((ntW w) + 1) h2 0 (by omega) RT_h2 (by omega)
    rw [show ((nxS w y9 (whW w y9) 0).1) = (-1) from (by rfl)] at z9
    rw [show (nI ((nxS w y9 (whW w y9) 0).2)) = (nI (cntP (fun k => bt (whW w y9) k = true) 24)) from (by rfl)] at z9
    exact z9
  · have c1 : ¬ (iin y 61) := c1
    refine wn_bp (pc' := 9) (w := -2) rfl rfl (by decide) ?_
    try simp only [Int32.lt_iff_toInt_lt, Int32.le_iff_toInt_le, i2l_int, Int32.toInt_zero, iin] at c1
    refine wn_iret rfl rfl rfl ⟨congrArg (fun z => some (Value.int z)) ?_, (RQ.rfl' HQ)⟩
    unfold nextA
    rw [qI_f (by simp only [iin]; omega)]

noncomputable def twoA (w : Nat → Int32) (y : Int32) : Int32 := qI (iin y 61) (twO (twG w y.toNatClampNeg) (nvW w) (nvW w)).1 (-2)
theorem m_two (d : Nat) (h : aH) (w : Nat → Int32) (hWf : WfW w) (HQ : MQs h w) (y : Int32) : Sp (Rn (d + 10)) 216 [.ref (71), .int (y)] h (fun r9 h9 => r9 = some (.int (twoA w y)) ∧ RQ h h9 w) := by
  obtain ⟨⟨e1, e2⟩, ⟨e3, e4⟩, ⟨e5, e6⟩⟩ := Wf_n hWf
  obtain ⟨⟨e7, e8⟩, ⟨e9, e10⟩⟩ := Wf_m hWf
  have p2b := stN_le hWf
  obtain ⟨th, tp, sz, at9, fr, tk, vl, fk, fp, il, up, lo, sa9, tn, q0, q1, q2, q3, q4⟩ := id HQ
  refine Sp_of (by decide) (Nat.le_of_ble_eq_true rfl) ?_
  show Wn _ _ 0 [(0, .ref (71)), (1, .int (y))] [] _ _
  refine wn_ld (pc' := 1) (q := 1) (kin := 0) (v := .int (y)) rfl (fun _ _ _ => rfl) rfl rfl ?_
  refine wn_staI (pc' := 4) rfl rfl (by decide) rfl rfl (Nat.le_of_ble_eq_true rfl) (m_isYear _ _ _) ?_
  refine wn_ifneB (t := 10) (f := 7) rfl rfl rfl (fun c1 => ?_) (fun c1 => ?_)
  · have c1 : (iin y 61) := c1
    obtain ⟨y9, hy9, rfl⟩ := iin_of c1
    have ti_y := nI_toInt (n := y9) (show y9 < 2 ^ 31 by omega)
    have cl_y := nI_clamp (n := y9) (show y9 < 2 ^ 31 by omega)
    refine wn_ic (pc' := 11) (w := -1) rfl rfl (by decide) ?_
    refine wn_st (pc' := 12) (q := 2) (kin := 0) (lv' := [(0, .ref (71)), (1, .int (nI (y9))), (2, .int (-1))]) rfl (fun _ _ _ => rfl) rfl (Nat.le_of_ble_eq_true rfl) rfl ?_
    refine wn_ic (pc' := 13) (w := -1) rfl rfl (by decide) ?_
    refine wn_st (pc' := 14) (q := 3) (kin := 0) (lv' := [(0, .ref (71)), (1, .int (nI (y9))), (2, .int (-1)), (3, .int (-1))]) rfl (fun _ _ _ => rfl) rfl (Nat.le_of_ble_eq_true rfl) rfl ?_
    refine wn_ic (pc' := 15) (w := nI 0) rfl rfl (by decide) ?_
    refine wn_st (pc' := 17) (q := 4) (kin := 0) (lv' := [(0, .ref (71)), (1, .int (nI (y9))), (2, .int (-1)), (3, .int (-1)), (4, .int (nI (0)))]) rfl (fun _ _ _ => rfl) rfl (Nat.le_of_ble_eq_true rfl) rfl ?_
    have lp3 : ∀ (n_lp3 : Nat) (g2 : aH) (v : Nat), (nvW w) + 1 ≤ v + n_lp3 → RQ h g2 w → v ≤ nvW w → Wn (Rn (d + 9)) 216 17 [(0, .ref (71)), (1, .int (nI (y9))), (2, .int ((twO (twG w y9) (nvW w) v).1)), (3, .int (mI (twO (twG w y9) (nvW w) v).2)), (4, .int (nI (v)))] [] (g2) (fun r9 h9 => r9 = some (.int (twoA w (nI y9))) ∧ RQ h h9 w) := by
      intro n_lp3
      induction n_lp3 with
      | zero => intro g2 v hm_lp3 RT_g2 hv_; exfalso; omega
      | succ n_lp3 ih_lp3 =>
        intro g2 v hm_lp3 RT_g2 hv_
        obtain ⟨th_g2, tp_g2, sz_g2, at9_g2, fr_g2, tk_g2, vl_g2, fk_g2, fp_g2, il_g2, up_g2, lo_g2, hM_g2, hW_g2⟩ := RT_g2.mh
        refine wn_ld (pc' := 19) (q := 4) (kin := 0) (v := .int (nI (v))) rfl (fun _ _ _ => rfl) rfl rfl ?_
        refine wn_ld (pc' := 20) (q := 0) (kin := 2) (v := .ref (71)) rfl (fun _ _ _ => rfl) rfl rfl ?_
        refine wn_get (pc' := 23) (v := .ref (72)) rfl rfl hM_g2 rfl ?_
        refine wn_ic (pc' := 24) (w := nI 1) rfl rfl (by decide) ?_
        refine wn_ialdv (pc' := 25) (j := 1) (v := (nI (nvW w))) rfl rfl hW_g2 rfl (by omega) (by decide) (e1) ?_
        refine wn_icmpN (t := 144) (f := 28) rfl rfl rfl (by omega) (by omega) (fun c4 => ?_) (fun c4 => ?_)
        · have c4 : (nvW w) ≤ v := c4
          obtain rfl : v = nvW w := by omega
          refine wn_ld (pc' := 145) (q := 2) (kin := 0) (v := .int ((twO (twG w y9) (nvW w) (nvW w)).1)) rfl (fun _ _ _ => rfl) rfl rfl ?_
          try simp only [Int32.lt_iff_toInt_lt, Int32.le_iff_toInt_le, i2l_int, Int32.toInt_zero, iin] at c1
          refine wn_iret rfl rfl rfl ⟨congrArg (fun z => some (Value.int z)) ?_, RT_g2⟩
          unfold twoA
          rw [qI_t (by simp only [iin]; omega)]
          first | rfl | (simp only [cl_y]; done) | (simp only [cl_y]; rfl)
        · have c4 : v < (nvW w) := c4
          refine wn_ld (pc' := 30) (q := 4) (kin := 0) (v := .int (nI (v))) rfl (fun _ _ _ => rfl) rfl rfl ?_
          refine wn_ic (pc' := 31) (w := nI 1) rfl rfl (by decide) ?_
          refine wn_addN (pc' := 32) rfl rfl ?_
          refine wn_st (pc' := 34) (q := 5) (kin := 0) (lv' := [(0, .ref (71)), (1, .int (nI (y9))), (2, .int ((twO (twG w y9) (nvW w) v).1)), (3, .int (mI (twO (twG w y9) (nvW w) v).2)), (4, .int (nI (v))), (5, .int (nI (v + 1)))]) rfl (fun _ _ _ => rfl) rfl (Nat.le_of_ble_eq_true rfl) rfl ?_
          have lp6 : ∀ (n_lp6 : Nat) (g5 : aH) (k : Nat), (nvW w) + 1 ≤ (v + 1 + k) + n_lp6 → RQ h g5 w → v + 1 + k ≤ nvW w → Wn (Rn (d + 9)) 216 34 [(0, .ref (71)), (1, .int (nI (y9))), (2, .int ((twI (twG w y9) v (twO (twG w y9) (nvW w) v) k).1)), (3, .int (mI (twI (twG w y9) v (twO (twG w y9) (nvW w) v) k).2)), (4, .int (nI (v))), (5, .int (nI (v + 1 + k)))] [] (g5) (fun r9 h9 => r9 = some (.int (twoA w (nI y9))) ∧ RQ h h9 w) := by
            intro n_lp6
            induction n_lp6 with
            | zero => intro g5 k hm_lp6 RT_g5 hk_; exfalso; omega
            | succ n_lp6 ih_lp6 =>
              intro g5 k hm_lp6 RT_g5 hk_
              obtain ⟨th_g5, tp_g5, sz_g5, at9_g5, fr_g5, tk_g5, vl_g5, fk_g5, fp_g5, il_g5, up_g5, lo_g5, hM_g5, hW_g5⟩ := RT_g5.mh
              have := twI_le (g := twG w y9) (b := 10) (v := v) (s := twO (twG w y9) (nvW w) v) (fun v u => twG_le hWf y9 v u) (twO_le (fun v u => twG_le hWf y9 v u) v) k
              refine wn_ld (pc' := 36) (q := 5) (kin := 0) (v := .int (nI (v + 1 + k))) rfl (fun _ _ _ => rfl) rfl rfl ?_
              refine wn_ld (pc' := 37) (q := 0) (kin := 2) (v := .ref (71)) rfl (fun _ _ _ => rfl) rfl rfl ?_
              refine wn_get (pc' := 40) (v := .ref (72)) rfl rfl hM_g5 rfl ?_
              refine wn_ic (pc' := 41) (w := nI 1) rfl rfl (by decide) ?_
              refine wn_ialdv (pc' := 42) (j := 1) (v := (nI (nvW w))) rfl rfl hW_g5 rfl (by omega) (by decide) (e1) ?_
              refine wn_icmpN (t := 138) (f := 45) rfl rfl rfl (by omega) (by omega) (fun c7 => ?_) (fun c7 => ?_)
              · have c7 : (nvW w) ≤ (v + 1 + k) := c7
                refine wn_incN (n := 1) (pc' := 141) (lv' := [(0, .ref (71)), (1, .int (nI (y9))), (2, .int ((twI (twG w y9) v (twO (twG w y9) (nvW w) v) k).1)), (3, .int (mI (twI (twG w y9) v (twO (twG w y9) (nvW w) v) k).2)), (4, .int (nI (v + 1))), (5, .int (nI (v + 1 + k)))]) rfl rfl rfl (Nat.le_of_ble_eq_true rfl) rfl (by decide) ?_
                refine wn_jp (pc' := 17) rfl rfl ?_
                refine wn_weak (lv' := [(0, .ref (71)), (1, .int (nI (y9))), (2, .int ((twI (twG w y9) v (twO (twG w y9) (nvW w) v) k).1)), (3, .int (mI (twI (twG w y9) v (twO (twG w y9) (nvW w) v) k).2)), (4, .int (nI (v + 1)))]) (by simp) ?_
                have z9 := ih_lp3 g5 (v + 1) (by omega) RT_g5 (by omega)
                rw [show ((twO (twG w y9) (nvW w) (v + 1)).1) = ((twI (twG w y9) v (twO (twG w y9) (nvW w) v) k).1) from (by rw [show k = nvW w - (v + 1) by omega]; rfl)] at z9
                rw [show (mI (twO (twG w y9) (nvW w) (v + 1)).2) = (mI (twI (twG w y9) v (twO (twG w y9) (nvW w) v) k).2) from (by rw [show k = nvW w - (v + 1) by omega]; rfl)] at z9
                exact z9
              · have c7 : (v + 1 + k) < (nvW w) := c7
                refine wn_ic (pc' := 46) (w := nI 0) rfl rfl (by decide) ?_
                refine wn_st (pc' := 48) (q := 6) (kin := 0) (lv' := [(0, .ref (71)), (1, .int (nI (y9))), (2, .int ((twI (twG w y9) v (twO (twG w y9) (nvW w) v) k).1)), (3, .int (mI (twI (twG w y9) v (twO (twG w y9) (nvW w) v) k).2)), (4, .int (nI (v))), (5, .int (nI (v + 1 + k))), (6, .int (nI (0)))]) rfl (fun _ _ _ => rfl) rfl (Nat.le_of_ble_eq_true rfl) rfl ?_
                refine wn_ic (pc' := 49) (w := nI 0) rfl rfl (by decide) ?_
                refine wn_st (pc' := 51) (q := 7) (kin := 0) (lv' := [(0, .ref (71)), (1, .int (nI (y9))), (2, .int ((twI (twG w y9) v (twO (twG w y9) (nvW w) v) k).1)), (3, .int (mI (twI (twG w y9) v (twO (twG w y9) (nvW w) v) k).2)), (4, .int (nI (v))), (5, .int (nI (v + 1 + k))), (6, .int (nI (0))), (7, .int (nI (0)))]) rfl (fun _ _ _ => rfl) rfl (Nat.le_of_ble_eq_true rfl) rfl ?_
                have lp9 : ∀ (n_lp9 : Nat) (g8 : aH) (i : Nat), (ntW w) + 1 ≤ i + n_lp9 → RQ h g8 w → i ≤ ntW w → Wn (Rn (d + 9)) 216 51 [(0, .ref (71)), (1, .int (nI (y9))), (2, .int ((twI (twG w y9) v (twO (twG w y9) (nvW w) v) k).1)), (3, .int (mI (twI (twG w y9) v (twO (twG w y9) (nvW w) v) k).2)), (4, .int (nI (v))), (5, .int (nI (v + 1 + k))), (6, .int (nI (cntP (fun x7 => (¬ w (178 + 4 * x7) = -1) ∧ ((fitW w y9 v x7) ∨ (fitW w y9 (v + 1 + k) x7))) i))), (7, .int (nI (i)))] [] (g8) (fun r9 h9 => r9 = some (.int (twoA w (nI y9))) ∧ RQ h h9 w) := by
                  intro n_lp9
                  induction n_lp9 with
                  | zero => intro g8 i hm_lp9 RT_g8 hk_i; exfalso; omega
                  | succ n_lp9 ih_lp9 =>
                    intro g8 i hm_lp9 RT_g8 hk_i
                    obtain ⟨th_g8, tp_g8, sz_g8, at9_g8, fr_g8, tk_g8, vl_g8, fk_g8, fp_g8, il_g8, up_g8, lo_g8, hM_g8, hW_g8⟩ := RT_g8.mh
                    have := cntP_le (fun x7 => (¬ w (178 + 4 * x7) = -1) ∧ ((fitW w y9 v x7) ∨ (fitW w y9 (v + 1 + k) x7))) i
                    refine wn_ld (pc' := 53) (q := 7) (kin := 0) (v := .int (nI (i))) rfl (fun _ _ _ => rfl) rfl rfl ?_
                    refine wn_ld (pc' := 54) (q := 0) (kin := 2) (v := .ref (71)) rfl (fun _ _ _ => rfl) rfl rfl ?_
                    refine wn_get (pc' := 57) (v := .ref (72)) rfl rfl hM_g8 rfl ?_
                    refine wn_ic (pc' := 58) (w := nI 3) rfl rfl (by decide) ?_
                    refine wn_ialdv (pc' := 59) (j := 3) (v := (nI (ntW w))) rfl rfl hW_g8 rfl (by omega) (by decide) (e5) ?_
                    refine wn_icmpN (t := 111) (f := 62) rfl rfl rfl (by omega) (by omega) (fun c10 => ?_) (fun c10 => ?_)
                    · have c10 : (ntW w) ≤ i := c10
                      obtain rfl : i = ntW w := by omega
                      have := twG_le hWf y9 v (v + 1 + k)
                      show Wn _ _ 111 [(0, .ref (71)), (1, .int (nI (y9))), (2, .int ((twI (twG w y9) v (twO (twG w y9) (nvW w) v) k).1)), (3, .int (mI (twI (twG w y9) v (twO (twG w y9) (nvW w) v) k).2)), (4, .int (nI (v))), (5, .int (nI (v + 1 + k))), (6, .int (nI (twG w y9 v (v + 1 + k)))), (7, .int (nI ((ntW w))))] _ _ _
                      refine wn_ld (pc' := 113) (q := 6) (kin := 0) (v := .int (nI (twG w y9 v (v + 1 + k)))) rfl (fun _ _ _ => rfl) rfl rfl ?_
                      refine wn_ld (pc' := 114) (q := 3) (kin := 0) (v := .int (mI (twI (twG w y9) v (twO (twG w y9) (nvW w) v) k).2)) rfl (fun _ _ _ => rfl) rfl rfl ?_
                      refine wn_icmp (t := 120) (f := 117) rfl rfl rfl (fun c11 => ?_) (fun c11 => ?_)
                      · have c11 : ((mI (twI (twG w y9) v (twO (twG w y9) (nvW w) v) k).2)) < ((nI (twG w y9 v (v + 1 + k)))) := c11
                        refine wn_ld (pc' := 122) (q := 6) (kin := 0) (v := .int (nI (twG w y9 v (v + 1 + k)))) rfl (fun _ _ _ => rfl) rfl rfl ?_
                        refine wn_st (pc' := 123) (q := 3) (kin := 0) (lv' := [(0, .ref (71)), (1, .int (nI (y9))), (2, .int ((twI (twG w y9) v (twO (twG w y9) (nvW w) v) k).1)), (3, .int (nI (twG w y9 v (v + 1 + k)))), (4, .int (nI (v))), (5, .int (nI (v + 1 + k))), (6, .int (nI (twG w y9 v (v + 1 + k)))), (7, .int (nI ((ntW w))))]) rfl (fun _ _ _ => rfl) rfl (Nat.le_of_ble_eq_true rfl) rfl ?_
                        refine wn_bp (pc' := 125) (w := nI 100) rfl rfl (by decide) ?_
                        refine wn_ld (pc' := 127) (q := 4) (kin := 0) (v := .int (nI (v))) rfl (fun _ _ _ => rfl) rfl rfl ?_
                        refine wn_mulN (pc' := 128) rfl rfl ?_
                        refine wn_ld (pc' := 130) (q := 5) (kin := 0) (v := .int (nI (v + 1 + k))) rfl (fun _ _ _ => rfl) rfl rfl ?_
                        refine wn_addN (pc' := 131) rfl rfl ?_
                        refine wn_st (pc' := 132) (q := 2) (kin := 0) (lv' := [(0, .ref (71)), (1, .int (nI (y9))), (2, .int (nI ((100 * v) + (v + 1 + k)))), (3, .int (nI (twG w y9 v (v + 1 + k)))), (4, .int (nI (v))), (5, .int (nI (v + 1 + k))), (6, .int (nI (twG w y9 v (v + 1 + k)))), (7, .int (nI ((ntW w))))]) rfl (fun _ _ _ => rfl) rfl (Nat.le_of_ble_eq_true rfl) rfl ?_
                        refine wn_incN (n := 1) (pc' := 135) (lv' := [(0, .ref (71)), (1, .int (nI (y9))), (2, .int (nI ((100 * v) + (v + 1 + k)))), (3, .int (nI (twG w y9 v (v + 1 + k)))), (4, .int (nI (v))), (5, .int (nI (v + 1 + k + 1))), (6, .int (nI (twG w y9 v (v + 1 + k)))), (7, .int (nI ((ntW w))))]) rfl rfl rfl (Nat.le_of_ble_eq_true rfl) rfl (by decide) ?_
                        refine wn_jp (pc' := 34) rfl rfl ?_
                        refine wn_weak (lv' := [(0, .ref (71)), (1, .int (nI (y9))), (2, .int (nI ((100 * v) + (v + 1 + k)))), (3, .int (nI (twG w y9 v (v + 1 + k)))), (4, .int (nI (v))), (5, .int (nI (v + 1 + k + 1)))]) (by simp) ?_
                        have z9 := ih_lp6 g8 (k + 1) (by omega) RT_g8 (by omega)
                        rw [show ((twI (twG w y9) v (twO (twG w y9) (nvW w) v) (k + 1)).1) = (nI ((100 * v) + (v + 1 + k))) from (by exact congrArg Prod.fst (twI_t (Nat.not_lt.mpr ((mI_cmp (by omega) (by omega)).1.mp c11))))] at z9
                        rw [show (mI (twI (twG w y9) v (twO (twG w y9) (nvW w) v) (k + 1)).2) = (nI (twG w y9 v (v + 1 + k))) from (by rw [twI_t (Nat.not_lt.mpr ((mI_cmp (by omega) (by omega)).1.mp c11))]; exact mI_s _)] at z9
                        rw [show (nI (v + 1 + (k + 1))) = (nI (v + 1 + k + 1)) from (by rfl)] at z9
                        exact z9
                      · have c11 : ((nI (twG w y9 v (v + 1 + k)))) ≤ ((mI (twI (twG w y9) v (twO (twG w y9) (nvW w) v) k).2)) := c11
                        refine wn_jp (pc' := 132) rfl rfl ?_
                        refine wn_incN (n := 1) (pc' := 135) (lv' := [(0, .ref (71)), (1, .int (nI (y9))), (2, .int ((twI (twG w y9) v (twO (twG w y9) (nvW w) v) k).1)), (3, .int (mI (twI (twG w y9) v (twO (twG w y9) (nvW w) v) k).2)), (4, .int (nI (v))), (5, .int (nI (v + 1 + k + 1))), (6, .int (nI (twG w y9 v (v + 1 + k)))), (7, .int (nI ((ntW w))))]) rfl rfl rfl (Nat.le_of_ble_eq_true rfl) rfl (by decide) ?_
                        refine wn_jp (pc' := 34) rfl rfl ?_
                        refine wn_weak (lv' := [(0, .ref (71)), (1, .int (nI (y9))), (2, .int ((twI (twG w y9) v (twO (twG w y9) (nvW w) v) k).1)), (3, .int (mI (twI (twG w y9) v (twO (twG w y9) (nvW w) v) k).2)), (4, .int (nI (v))), (5, .int (nI (v + 1 + k + 1)))]) (by simp) ?_
                        have z9 := ih_lp6 g8 (k + 1) (by omega) RT_g8 (by omega)
                        rw [show ((twI (twG w y9) v (twO (twG w y9) (nvW w) v) (k + 1)).1) = ((twI (twG w y9) v (twO (twG w y9) (nvW w) v) k).1) from (by exact congrArg Prod.fst (twI_f ((mI_cmp (by omega) (by omega)).2.mp c11)))] at z9
                        rw [show (mI (twI (twG w y9) v (twO (twG w y9) (nvW w) v) (k + 1)).2) = (mI (twI (twG w y9) v (twO (twG w y9) (nvW w) v) k).2) from (by exact (congrArg (fun q => mI q.2) (twI_f ((mI_cmp (by omega) (by omega)).2.mp c11))))] at z9
                        rw [show (nI (v + 1 + (k + 1))) = (nI (v + 1 + k + 1)) from (by rfl)] at z9
                        exact z9
                    · have c10 : i < (ntW w) := c10
                      refine wn_ld (pc' := 64) (q := 6) (kin := 0) (v := .int (nI (cntP (fun x7 => (¬ w (178 + 4 * x7) = -1) ∧ ((fitW w y9 v x7) ∨ (fitW w y9 (v + 1 + k) x7))) i))) rfl (fun _ _ _ => rfl) rfl rfl ?_
                      refine wn_ld (pc' := 65) (q := 0) (kin := 2) (v := .ref (71)) rfl (fun _ _ _ => rfl) rfl rfl ?_
                      refine wn_ld (pc' := 67) (q := 7) (kin := 0) (v := .int (nI (i))) rfl (fun _ _ _ => rfl) rfl rfl ?_
                      refine wn_virI (pc' := 70) rfl rfl (by decide) rfl rfl hM_g8 (Nat.le_of_ble_eq_true rfl) (m_isHeard _ _ w RT_g8.mh i (by omega)) ?_
                      refine wn_ifeqB (t := 101) (f := 73) rfl rfl rfl (fun c12 => ?_) (fun c12 => ?_)
                      · have c12 : ¬ (¬ w (178 + 4 * i) = -1) := c12
                        refine wn_ic (pc' := 102) (w := nI 0) rfl rfl (by decide) ?_
                        refine wn_addN (pc' := 103) rfl rfl ?_
                        refine wn_st (pc' := 105) (q := 6) (kin := 0) (lv' := [(0, .ref (71)), (1, .int (nI (y9))), (2, .int ((twI (twG w y9) v (twO (twG w y9) (nvW w) v) k).1)), (3, .int (mI (twI (twG w y9) v (twO (twG w y9) (nvW w) v) k).2)), (4, .int (nI (v))), (5, .int (nI (v + 1 + k))), (6, .int (nI ((cntP (fun x7 => (¬ w (178 + 4 * x7) = -1) ∧ ((fitW w y9 v x7) ∨ (fitW w y9 (v + 1 + k) x7))) i) + 0))), (7, .int (nI (i)))]) rfl (fun _ _ _ => rfl) rfl (Nat.le_of_ble_eq_true rfl) rfl ?_
                        refine wn_incN (n := 1) (pc' := 108) (lv' := [(0, .ref (71)), (1, .int (nI (y9))), (2, .int ((twI (twG w y9) v (twO (twG w y9) (nvW w) v) k).1)), (3, .int (mI (twI (twG w y9) v (twO (twG w y9) (nvW w) v) k).2)), (4, .int (nI (v))), (5, .int (nI (v + 1 + k))), (6, .int (nI ((cntP (fun x7 => (¬ w (178 + 4 * x7) = -1) ∧ ((fitW w y9 v x7) ∨ (fitW w y9 (v + 1 + k) x7))) i) + 0))), (7, .int (nI (i + 1)))]) rfl rfl rfl (Nat.le_of_ble_eq_true rfl) rfl (by decide) ?_
                        refine wn_jp (pc' := 51) rfl rfl ?_
                        refine wn_weak (lv' := [(0, .ref (71)), (1, .int (nI (y9))), (2, .int ((twI (twG w y9) v (twO (twG w y9) (nvW w) v) k).1)), (3, .int (mI (twI (twG w y9) v (twO (twG w y9) (nvW w) v) k).2)), (4, .int (nI (v))), (5, .int (nI (v + 1 + k))), (6, .int (nI ((cntP (fun x7 => (¬ w (178 + 4 * x7) = -1) ∧ ((fitW w y9 v x7) ∨ (fitW w y9 (v + 1 + k) x7))) i) + 0))), (7, .int (nI (i + 1)))]) (by simp) ?_
                        have z9 := ih_lp9 g8 (i + 1) (by omega) RT_g8 (by omega)
                        rw [show (nI (cntP (fun x7 => (¬ w (178 + 4 * x7) = -1) ∧ ((fitW w y9 v x7) ∨ (fitW w y9 (v + 1 + k) x7))) (i + 1))) = (nI ((cntP (fun x7 => (¬ w (178 + 4 * x7) = -1) ∧ ((fitW w y9 v x7) ∨ (fitW w y9 (v + 1 + k) x7))) i) + 0)) from (by exact congrArg nI (cntP_f (p := fun x7 => (¬ w (178 + 4 * x7) = -1) ∧ ((fitW w y9 v x7) ∨ (fitW w y9 (v + 1 + k) x7))) (fun q8 => c12 q8.1)))] at z9
                        exact z9
                      · have c12 : (¬ w (178 + 4 * i) = -1) := c12
                        refine wn_ld (pc' := 74) (q := 0) (kin := 2) (v := .ref (71)) rfl (fun _ _ _ => rfl) rfl rfl ?_
                        refine wn_ld (pc' := 76) (q := 4) (kin := 0) (v := .int (nI (v))) rfl (fun _ _ _ => rfl) rfl rfl ?_
                        refine wn_ld (pc' := 78) (q := 7) (kin := 0) (v := .int (nI (i))) rfl (fun _ _ _ => rfl) rfl rfl ?_
                        refine wn_ld (pc' := 79) (q := 1) (kin := 0) (v := .int (nI (y9))) rfl (fun _ _ _ => rfl) rfl rfl ?_
                        refine wn_virS (pc' := 82) rfl rfl (by decide) rfl rfl hM_g8 (Nat.le_of_ble_eq_true rfl) (m_fitsOne _ _ w hWf RT_g8.2.2.2 v i y9 (by omega) (by omega) (by omega)) (fun r9 h13 e14 => ?_)
                        obtain ⟨rfl, RQ_h13⟩ := e14
                        have RT_h13 := RQ.tr RT_g8 RQ_h13
                        obtain ⟨th_h13, tp_h13, sz_h13, at9_h13, fr_h13, tk_h13, vl_h13, fk_h13, fp_h13, il_h13, up_h13, lo_h13, hM_h13, hW_h13⟩ := RQ_h13.mh
                        show Wn _ _ 82 _ [.int (bI (fitW w y9 v i)), .int (nI (cntP (fun x7 => (¬ w (178 + 4 * x7) = -1) ∧ ((fitW w y9 v x7) ∨ (fitW w y9 (v + 1 + k) x7))) i))] h13 _
                        refine wn_ifneB (t := 97) (f := 85) rfl rfl rfl (fun c15 => ?_) (fun c15 => ?_)
                        · have c15 : (fitW w y9 v i) := c15
                          refine wn_ic (pc' := 98) (w := nI 1) rfl rfl (by decide) ?_
                          refine wn_jp (pc' := 102) rfl rfl ?_
                          refine wn_addN (pc' := 103) rfl rfl ?_
                          refine wn_st (pc' := 105) (q := 6) (kin := 0) (lv' := [(0, .ref (71)), (1, .int (nI (y9))), (2, .int ((twI (twG w y9) v (twO (twG w y9) (nvW w) v) k).1)), (3, .int (mI (twI (twG w y9) v (twO (twG w y9) (nvW w) v) k).2)), (4, .int (nI (v))), (5, .int (nI (v + 1 + k))), (6, .int (nI ((cntP (fun x7 => (¬ w (178 + 4 * x7) = -1) ∧ ((fitW w y9 v x7) ∨ (fitW w y9 (v + 1 + k) x7))) i) + 1))), (7, .int (nI (i)))]) rfl (fun _ _ _ => rfl) rfl (Nat.le_of_ble_eq_true rfl) rfl ?_
                          refine wn_incN (n := 1) (pc' := 108) (lv' := [(0, .ref (71)), (1, .int (nI (y9))), (2, .int ((twI (twG w y9) v (twO (twG w y9) (nvW w) v) k).1)), (3, .int (mI (twI (twG w y9) v (twO (twG w y9) (nvW w) v) k).2)), (4, .int (nI (v))), (5, .int (nI (v + 1 + k))), (6, .int (nI ((cntP (fun x7 => (¬ w (178 + 4 * x7) = -1) ∧ ((fitW w y9 v x7) ∨ (fitW w y9 (v + 1 + k) x7))) i) + 1))), (7, .int (nI (i + 1)))]) rfl rfl rfl (Nat.le_of_ble_eq_true rfl) rfl (by decide) ?_
                          refine wn_jp (pc' := 51) rfl rfl ?_
                          refine wn_weak (lv' := [(0, .ref (71)), (1, .int (nI (y9))), (2, .int ((twI (twG w y9) v (twO (twG w y9) (nvW w) v) k).1)), (3, .int (mI (twI (twG w y9) v (twO (twG w y9) (nvW w) v) k).2)), (4, .int (nI (v))), (5, .int (nI (v + 1 + k))), (6, .int (nI ((cntP (fun x7 => (¬ w (178 + 4 * x7) = -1) ∧ ((fitW w y9 v x7) ∨ (fitW w y9 (v + 1 + k) x7))) i) + 1))), (7, .int (nI (i + 1)))]) (by simp) ?_
                          have z9 := ih_lp9 h13 (i + 1) (by omega) RT_h13 (by omega)
                          rw [show (nI (cntP (fun x7 => (¬ w (178 + 4 * x7) = -1) ∧ ((fitW w y9 v x7) ∨ (fitW w y9 (v + 1 + k) x7))) (i + 1))) = (nI ((cntP (fun x7 => (¬ w (178 + 4 * x7) = -1) ∧ ((fitW w y9 v x7) ∨ (fitW w y9 (v + 1 + k) x7))) i) + 1)) from (by exact congrArg nI (cntP_t (p := fun x7 => (¬ w (178 + 4 * x7) = -1) ∧ ((fitW w y9 v x7) ∨ (fitW w y9 (v + 1 + k) x7))) ⟨c12, (Or.inl c15)⟩))] at z9
                          exact z9
                        · have c15 : ¬ (fitW w y9 v i) := c15
                          refine wn_ld (pc' := 86) (q := 0) (kin := 2) (v := .ref (71)) rfl (fun _ _ _ => rfl) rfl rfl ?_
                          refine wn_ld (pc' := 88) (q := 5) (kin := 0) (v := .int (nI (v + 1 + k))) rfl (fun _ _ _ => rfl) rfl rfl ?_
                          refine wn_ld (pc' := 90) (q := 7) (kin := 0) (v := .int (nI (i))) rfl (fun _ _ _ => rfl) rfl rfl ?_
                          refine wn_ld (pc' := 91) (q := 1) (kin := 0) (v := .int (nI (y9))) rfl (fun _ _ _ => rfl) rfl rfl ?_
                          refine wn_virS (pc' := 94) rfl rfl (by decide) rfl rfl hM_h13 (Nat.le_of_ble_eq_true rfl) (m_fitsOne _ _ w hWf RQ_h13.2.2.2 (v + 1 + k) i y9 (by omega) (by omega) (by omega)) (fun r9 h16 e17 => ?_)
                          obtain ⟨rfl, RQ_h16⟩ := e17
                          have RT_h16 := RQ.tr RT_h13 RQ_h16
                          obtain ⟨th_h16, tp_h16, sz_h16, at9_h16, fr_h16, tk_h16, vl_h16, fk_h16, fp_h16, il_h16, up_h16, lo_h16, hM_h16, hW_h16⟩ := RQ_h16.mh
                          show Wn _ _ 94 _ [.int (bI (fitW w y9 (v + 1 + k) i)), .int (nI (cntP (fun x7 => (¬ w (178 + 4 * x7) = -1) ∧ ((fitW w y9 v x7) ∨ (fitW w y9 (v + 1 + k) x7))) i))] h16 _
                          refine wn_ifeqB (t := 101) (f := 97) rfl rfl rfl (fun c18 => ?_) (fun c18 => ?_)
                          · have c18 : ¬ (fitW w y9 (v + 1 + k) i) := c18
                            refine wn_ic (pc' := 102) (w := nI 0) rfl rfl (by decide) ?_
                            refine wn_addN (pc' := 103) rfl rfl ?_
                            refine wn_st (pc' := 105) (q := 6) (kin := 0) (lv' := [(0, .ref (71)), (1, .int (nI (y9))), (2, .int ((twI (twG w y9) v (twO (twG w y9) (nvW w) v) k).1)), (3, .int (mI (twI (twG w y9) v (twO (twG w y9) (nvW w) v) k).2)), (4, .int (nI (v))), (5, .int (nI (v + 1 + k))), (6, .int (nI ((cntP (fun x7 => (¬ w (178 + 4 * x7) = -1) ∧ ((fitW w y9 v x7) ∨ (fitW w y9 (v + 1 + k) x7))) i) + 0))), (7, .int (nI (i)))]) rfl (fun _ _ _ => rfl) rfl (Nat.le_of_ble_eq_true rfl) rfl ?_
                            refine wn_incN (n := 1) (pc' := 108) (lv' := [(0, .ref (71)), (1, .int (nI (y9))), (2, .int ((twI (twG w y9) v (twO (twG w y9) (nvW w) v) k).1)), (3, .int (mI (twI (twG w y9) v (twO (twG w y9) (nvW w) v) k).2)), (4, .int (nI (v))), (5, .int (nI (v + 1 + k))), (6, .int (nI ((cntP (fun x7 => (¬ w (178 + 4 * x7) = -1) ∧ ((fitW w y9 v x7) ∨ (fitW w y9 (v + 1 + k) x7))) i) + 0))), (7, .int (nI (i + 1)))]) rfl rfl rfl (Nat.le_of_ble_eq_true rfl) rfl (by decide) ?_
                            refine wn_jp (pc' := 51) rfl rfl ?_
                            refine wn_weak (lv' := [(0, .ref (71)), (1, .int (nI (y9))), (2, .int ((twI (twG w y9) v (twO (twG w y9) (nvW w) v) k).1)), (3, .int (mI (twI (twG w y9) v (twO (twG w y9) (nvW w) v) k).2)), (4, .int (nI (v))), (5, .int (nI (v + 1 + k))), (6, .int (nI ((cntP (fun x7 => (¬ w (178 + 4 * x7) = -1) ∧ ((fitW w y9 v x7) ∨ (fitW w y9 (v + 1 + k) x7))) i) + 0))), (7, .int (nI (i + 1)))]) (by simp) ?_
                            have z9 := ih_lp9 h16 (i + 1) (by omega) RT_h16 (by omega)
                            rw [show (nI (cntP (fun x7 => (¬ w (178 + 4 * x7) = -1) ∧ ((fitW w y9 v x7) ∨ (fitW w y9 (v + 1 + k) x7))) (i + 1))) = (nI ((cntP (fun x7 => (¬ w (178 + 4 * x7) = -1) ∧ ((fitW w y9 v x7) ∨ (fitW w y9 (v + 1 + k) x7))) i) + 0)) from (by exact congrArg nI (cntP_f (p := fun x7 => (¬ w (178 + 4 * x7) = -1) ∧ ((fitW w y9 v x7) ∨ (fitW w y9 (v + 1 + k) x7))) (fun q8 => (fun q7 => q7.elim c15 c18) q8.2)))] at z9
                            exact z9
                          · have c18 : (fitW w y9 (v + 1 + k) i) := c18
                            refine wn_ic (pc' := 98) (w := nI 1) rfl rfl (by decide) ?_
                            refine wn_jp (pc' := 102) rfl rfl ?_
                            refine wn_addN (pc' := 103) rfl rfl ?_
                            refine wn_st (pc' := 105) (q := 6) (kin := 0) (lv' := [(0, .ref (71)), (1, .int (nI (y9))), (2, .int ((twI (twG w y9) v (twO (twG w y9) (nvW w) v) k).1)), (3, .int (mI (twI (twG w y9) v (twO (twG w y9) (nvW w) v) k).2)), (4, .int (nI (v))), (5, .int (nI (v + 1 + k))), (6, .int (nI ((cntP (fun x7 => (¬ w (178 + 4 * x7) = -1) ∧ ((fitW w y9 v x7) ∨ (fitW w y9 (v + 1 + k) x7))) i) + 1))), (7, .int (nI (i)))]) rfl (fun _ _ _ => rfl) rfl (Nat.le_of_ble_eq_true rfl) rfl ?_
                            refine wn_incN (n := 1) (pc' := 108) (lv' := [(0, .ref (71)), (1, .int (nI (y9))), (2, .int ((twI (twG w y9) v (twO (twG w y9) (nvW w) v) k).1)), (3, .int (mI (twI (twG w y9) v (twO (twG w y9) (nvW w) v) k).2)), (4, .int (nI (v))), (5, .int (nI (v + 1 + k))), (6, .int (nI ((cntP (fun x7 => (¬ w (178 + 4 * x7) = -1) ∧ ((fitW w y9 v x7) ∨ (fitW w y9 (v + 1 + k) x7))) i) + 1))), (7, .int (nI (i + 1)))]) rfl rfl rfl (Nat.le_of_ble_eq_true rfl) rfl (by decide) ?_
                            refine wn_jp (pc' := 51) rfl rfl ?_
                            refine wn_weak (lv' := [(0, .ref (71)), (1, .int (nI (y9))), (2, .int ((twI (twG w y9) v (twO (twG w y9) (nvW w) v) k).1)), (3, .int (mI (twI (twG w y9) v (twO (twG w y9) (nvW w) v) k).2)), (4, .int (nI (v))), (5, .int (nI (v + 1 + k))), (6, .int (nI ((cntP (fun x7 => (¬ w (178 + 4 * x7) = -1) ∧ ((fitW w y9 v x7) ∨ (fitW w y9 (v + 1 + k) x7))) i) + 1))), (7, .int (nI (i + 1)))]) (by simp) ?_
                            have z9 := ih_lp9 h16 (i + 1) (by omega) RT_h16 (by omega)
                            rw [show (nI (cntP (fun x7 => (¬ w (178 + 4 * x7) = -1) ∧ ((fitW w y9 v x7) ∨ (fitW w y9 (v + 1 + k) x7))) (i + 1))) = (nI ((cntP (fun x7 => (¬ w (178 + 4 * x7) = -1) ∧ ((fitW w y9 v x7) ∨ (fitW w y9 (v + 1 + k) x7))) i) + 1)) from (by exact congrArg nI (cntP_t (p := fun x7 => (¬ w (178 + 4 * x7) = -1) ∧ ((fitW w y9 v x7) ∨ (fitW w y9 (v + 1 + k) x7))) ⟨c12, (Or.inr c18)⟩))] at z9
                            exact z9
                refine wn_weak (lv' := [(0, .ref (71)), (1, .int (nI (y9))), (2, .int ((twI (twG w y9) v (twO (twG w y9) (nvW w) v) k).1)), (3, .int (mI (twI (twG w y9) v (twO (twG w y9) (nvW w) v) k).2)), (4, .int (nI (v))), (5, .int (nI (v + 1 + k))), (6, .int (nI (0))), (7, .int (nI (0)))]) (by simp) ?_
                have z9 := lp9 ((ntW w) + 1) g5 0 (by omega) RT_g5 (by omega)
                rw [show (nI (cntP (fun x7 => (¬ w (178 + 4 * x7) = -1) ∧ ((fitW w y9 v x7) ∨ (fitW w y9 (v + 1 + k) x7))) 0)) = (nI (0)) from (by rfl)] at z9
                exact z9
          refine wn_weak (lv' := [(0, .ref (71)), (1, .int (nI (y9))), (2, .int ((twO (twG w y9) (nvW w) v).1)), (3, .int (mI (twO (twG w y9) (nvW w) v).2)), (4, .int (nI (v))), (5, .int (nI (v + 1)))]) (by simp) ?_
          have z9 := lp6 ((nvW w) + 1) g2 0 (by omega) RT_g2 (by omega)
          rw [show ((twI (twG w y9) v (twO (twG w y9) (nvW w) v) 0).1) = ((twO (twG w y9) (nvW w) v).1) from (by rfl)] at z9
          rw [show (mI (twI (twG w y9) v (twO (twG w y9) (nvW w) v) 0).2) = (mI (twO (twG w y9) (nvW w) v).2) from (by rfl)] at z9
          rw [show (nI (v + 1 + 0)) = (nI (v + 1)) from (by rfl)] at z9
          exact z9
    refine wn_weak (lv' := [(0, .ref (71)), (1, .int (nI (y9))), (2, .int (-1)), (3, .int (-1)), (4, .int (nI (0)))]) (by simp) ?_
    have z9 := lp3 ((nvW w) + 1) h 0 (by omega) (RQ.rfl' HQ) (by omega)
    rw [show ((twO (twG w y9) (nvW w) 0).1) = (-1) from (by rfl)] at z9
    rw [show (mI (twO (twG w y9) (nvW w) 0).2) = (-1) from (by exact mI_0)] at z9
    exact z9
  · have c1 : ¬ (iin y 61) := c1
    refine wn_bp (pc' := 9) (w := -2) rfl rfl (by decide) ?_
    try simp only [Int32.lt_iff_toInt_lt, Int32.le_iff_toInt_le, i2l_int, Int32.toInt_zero, iin] at c1
    refine wn_iret rfl rfl rfl ⟨congrArg (fun z => some (Value.int z)) ?_, (RQ.rfl' HQ)⟩
    unfold twoA
    rw [qI_f (by simp only [iin]; omega)]

