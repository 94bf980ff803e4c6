/-! AREAS: the reference's and the class's; their cases -/
theorem RM.mh {h h' : aH} {w : Nat → Int32} (R : RM h h' w) : MH h' w := R.2.2.2.mh
theorem m_measures (d : Nat) (h : aH) (w : Nat → Int32) (hWf : WfW w) (HQ : MQs h w) (le : Nat → Int32) (i80 : isI h 80 24 le) (k y : Nat) (hk : k ≤ 11) (hy : y ≤ 60) : Sp (Rn (d + 11)) 191 [.ref (71), .int (nI (k)), .int (nI (y))] h (fun r9 h9 => r9 = none ∧ RM h h9 w ∧ ∃ le1, isI h9 80 24 le1 ∧ ∀ q, q < 24 → le1 q = nI (itA w k y (nvW w) q)) := by
  obtain ⟨⟨e1, e2⟩, ⟨e3, e4⟩, ⟨e5, e6⟩⟩ := Wf_n hWf
  obtain ⟨⟨e7, e8⟩, ⟨e9, e10⟩⟩ := Wf_m hWf
  have p2b := stN_le hWf
  obtain ⟨th, tp, sz, at9, fr, tk, vl, fk, fp, il, up, lo, sa9, tn, q0, q1, q2, q3, q4⟩ := id HQ
  refine Sp_of (by decide) (Nat.le_of_ble_eq_true rfl) ?_
  show Wn _ _ 0 [(0, .ref (71)), (1, .int (nI (k))), (2, .int (nI (y)))] [] _ _
  refine wn_ic (pc' := 1) (w := nI 0) rfl rfl (by decide) ?_
  refine wn_st (pc' := 2) (q := 3) (kin := 0) (lv' := [(0, .ref (71)), (1, .int (nI (k))), (2, .int (nI (y))), (3, .int (nI (0)))]) rfl (fun _ _ _ => rfl) rfl (Nat.le_of_ble_eq_true rfl) rfl ?_
  have lp2 : ∀ (n_lp2 : Nat) (g1 : aH) (le_g1 : Nat → Int32) (v : Nat), 24 + 1 ≤ v + n_lp2 → RM h g1 w → isI g1 80 24 le_g1 → v ≤ 24 → (∀ q, q < v → le_g1 q = nI q) → Wn (Rn (d + 10)) 191 2 [(0, .ref (71)), (1, .int (nI (k))), (2, .int (nI (y))), (3, .int (nI (v)))] [] (g1) (fun r9 h9 => r9 = none ∧ RM h h9 w ∧ ∃ le1, isI h9 80 24 le1 ∧ ∀ q, q < 24 → le1 q = nI (itA w k y (nvW w) q)) := by
    intro n_lp2
    induction n_lp2 with
    | zero => intro g1 le_g1 v hm_lp2 RT_g1 i80_g1 hv hL; exfalso; omega
    | succ n_lp2 ih_lp2 =>
      intro g1 le_g1 v hm_lp2 RT_g1 i80_g1 hv hL
      obtain ⟨th_g1, tp_g1, sz_g1, at9_g1, fr_g1, tk_g1, vl_g1, fk_g1, fp_g1, il_g1, up_g1, lo_g1, hM_g1, hW_g1⟩ := RT_g1.mh
      refine wn_ld (pc' := 3) (q := 3) (kin := 0) (v := .int (nI (v))) rfl (fun _ _ _ => rfl) rfl rfl ?_
      refine wn_bp (pc' := 5) (w := nI 24) rfl rfl (by decide) ?_
      refine wn_icmpN (t := 21) (f := 8) rfl rfl rfl (by omega) (by omega) (fun c3 => ?_) (fun c3 => ?_)
      · have c3 : 24 ≤ v := c3
        obtain rfl : v = 24 := by omega
        refine wn_ic (pc' := 22) (w := nI 0) rfl rfl (by decide) ?_
        refine wn_st (pc' := 23) (q := 3) (kin := 0) (lv' := [(0, .ref (71)), (1, .int (nI (k))), (2, .int (nI (y))), (3, .int (nI (0)))]) rfl (fun _ _ _ => rfl) rfl (Nat.le_of_ble_eq_true rfl) rfl ?_
        have lp5 : ∀ (n_lp5 : Nat) (g4 : aH) (le2_g4 : Nat → Int32) (t : Nat), (nvW w) + 1 ≤ t + n_lp5 → RM h g4 w → isI g4 80 24 le2_g4 → t ≤ nvW w → (∀ q, q < 24 → le2_g4 q = nI (itA w k y t q)) → Wn (Rn (d + 10)) 191 23 [(0, .ref (71)), (1, .int (nI (k))), (2, .int (nI (y))), (3, .int (nI (t)))] [] (g4) (fun r9 h9 => r9 = none ∧ RM h h9 w ∧ ∃ le1, isI h9 80 24 le1 ∧ ∀ q, q < 24 → le1 q = nI (itA w k y (nvW w) q)) := by
          intro n_lp5
          induction n_lp5 with
          | zero => intro g4 le2_g4 t hm_lp5 RT_g4 i80_g4 ht hT; exfalso; omega
          | succ n_lp5 ih_lp5 =>
            intro g4 le2_g4 t hm_lp5 RT_g4 i80_g4 ht hT
            obtain ⟨th_g4, tp_g4, sz_g4, at9_g4, fr_g4, tk_g4, vl_g4, fk_g4, fp_g4, il_g4, up_g4, lo_g4, hM_g4, hW_g4⟩ := RT_g4.mh
            refine wn_ld (pc' := 24) (q := 3) (kin := 0) (v := .int (nI (t))) rfl (fun _ _ _ => rfl) rfl rfl ?_
            refine wn_ld (pc' := 25) (q := 0) (kin := 2) (v := .ref (71)) rfl (fun _ _ _ => rfl) rfl rfl ?_
            refine wn_get (pc' := 28) (v := .ref (72)) rfl rfl hM_g4 rfl ?_
            refine wn_ic (pc' := 29) (w := nI 1) rfl rfl (by decide) ?_
            refine wn_ialdv (pc' := 30) (j := 1) (v := (nI (nvW w))) rfl rfl hW_g4 rfl (by omega) (by decide) (e1) ?_
            refine wn_icmpN (t := 130) (f := 33) rfl rfl rfl (by omega) (by omega) (fun c6 => ?_) (fun c6 => ?_)
            · have c6 : (nvW w) ≤ t := c6
              obtain rfl : t = nvW w := by omega
              exact wn_vret rfl rfl ⟨rfl, RT_g4, _, i80_g4, hT⟩
            · have c6 : t < (nvW w) := c6
              refine wn_ic (pc' := 34) (w := nI 0) rfl rfl (by decide) ?_
              refine wn_st (pc' := 36) (q := 4) (kin := 0) (lv' := [(0, .ref (71)), (1, .int (nI (k))), (2, .int (nI (y))), (3, .int (nI (t))), (4, .int (nI (0)))]) rfl (fun _ _ _ => rfl) rfl (Nat.le_of_ble_eq_true rfl) rfl ?_
              have lp8 : ∀ (n_lp8 : Nat) (g7 : aH) (le3_g7 : Nat → Int32) (r : Nat), (nrW w) + 1 ≤ r + n_lp8 → RM h g7 w → isI g7 80 24 le3_g7 → r ≤ nrW w → (∀ q, q < 24 → le3_g7 q = nI (rndA w k y (itA w k y t) r q)) → Wn (Rn (d + 10)) 191 36 [(0, .ref (71)), (1, .int (nI (k))), (2, .int (nI (y))), (3, .int (nI (t))), (4, .int (nI (r)))] [] (g7) (fun r9 h9 => r9 = none ∧ RM h h9 w ∧ ∃ le1, isI h9 80 24 le1 ∧ ∀ q, q < 24 → le1 q = nI (itA w k y (nvW w) q)) := by
                intro n_lp8
                induction n_lp8 with
                | zero => intro g7 le3_g7 r hm_lp8 RT_g7 i80_g7 hr hR; exfalso; omega
                | succ n_lp8 ih_lp8 =>
                  intro g7 le3_g7 r hm_lp8 RT_g7 i80_g7 hr hR
                  obtain ⟨th_g7, tp_g7, sz_g7, at9_g7, fr_g7, tk_g7, vl_g7, fk_g7, fp_g7, il_g7, up_g7, lo_g7, hM_g7, hW_g7⟩ := RT_g7.mh
                  refine wn_ld (pc' := 38) (q := 4) (kin := 0) (v := .int (nI (r))) rfl (fun _ _ _ => rfl) rfl rfl ?_
                  refine wn_ld (pc' := 39) (q := 0) (kin := 2) (v := .ref (71)) rfl (fun _ _ _ => rfl) rfl rfl ?_
                  refine wn_get (pc' := 42) (v := .ref (72)) rfl rfl hM_g7 rfl ?_
                  refine wn_ic (pc' := 43) (w := nI 2) rfl rfl (by decide) ?_
                  refine wn_ialdv (pc' := 44) (j := 2) (v := (nI (nrW w))) rfl rfl hW_g7 rfl (by omega) (by decide) (e3) ?_
                  refine wn_icmpN (t := 124) (f := 47) rfl rfl rfl (by omega) (by omega) (fun c9 => ?_) (fun c9 => ?_)
                  · have c9 : (nrW w) ≤ r := c9
                    obtain rfl : r = nrW w := by omega
                    refine wn_incN (n := 1) (pc' := 127) (lv' := [(0, .ref (71)), (1, .int (nI (k))), (2, .int (nI (y))), (3, .int (nI (t + 1))), (4, .int (nI ((nrW w))))]) rfl rfl rfl (Nat.le_of_ble_eq_true rfl) rfl (by decide) ?_
                    refine wn_jp (pc' := 23) rfl rfl ?_
                    refine wn_weak (lv' := [(0, .ref (71)), (1, .int (nI (k))), (2, .int (nI (y))), (3, .int (nI (t + 1)))]) (by simp) ?_
                    have z9 := ih_lp5 g7 le3_g7 (t + 1) (by omega) RT_g7 i80_g7 (by omega) hR
                    exact z9
                  · have c9 : r < (nrW w) := c9
                    refine wn_ld (pc' := 48) (q := 0) (kin := 2) (v := .ref (71)) rfl (fun _ _ _ => rfl) rfl rfl ?_
                    refine wn_ld (pc' := 50) (q := 4) (kin := 0) (v := .int (nI (r))) rfl (fun _ _ _ => rfl) rfl rfl ?_
                    refine wn_ld (pc' := 51) (q := 2) (kin := 0) (v := .int (nI (y))) rfl (fun _ _ _ => rfl) rfl rfl ?_
                    have := bnW_le hWf y r
                    refine wn_virS (pc' := 54) rfl rfl (by decide) rfl rfl hM_g7 (Nat.le_of_ble_eq_true rfl) (m_bundleOf _ _ w hWf RT_g7.2.2.2 r y (by omega) (by omega)) (fun r9 h10 e11 => ?_)
                    obtain ⟨rfl, RQ_h10⟩ := e11
                    have RT_h10 := RM.rq RT_g7 RQ_h10
                    obtain ⟨th_h10, tp_h10, sz_h10, at9_h10, fr_h10, tk_h10, vl_h10, fk_h10, fp_h10, il_h10, up_h10, lo_h10, hM_h10, hW_h10⟩ := RQ_h10.mh
                    show Wn _ _ 54 _ [.int (nI (bnW w y r))] h10 _
                    refine wn_ld (pc' := 55) (q := 1) (kin := 0) (v := .int (nI (k))) rfl (fun _ _ _ => rfl) rfl rfl ?_
                    refine wn_icmpN (t := 61) (f := 58) rfl rfl rfl (by omega) (by omega) (fun c12 => ?_) (fun c12 => ?_)
                    · have c12 : (bnW w y r) < k := c12
                      refine wn_ld (pc' := 62) (q := 0) (kin := 2) (v := .ref (71)) rfl (fun _ _ _ => rfl) rfl rfl ?_
                      refine wn_get (pc' := 65) (v := .ref (80)) rfl rfl hM_h10 rfl ?_
                      refine wn_ld (pc' := 66) (q := 0) (kin := 2) (v := .ref (71)) rfl (fun _ _ _ => rfl) rfl rfl ?_
                      refine wn_ld (pc' := 68) (q := 4) (kin := 0) (v := .int (nI (r))) rfl (fun _ _ _ => rfl) rfl rfl ?_
                      refine wn_ic (pc' := 69) (w := nI 0) rfl rfl (by decide) ?_
                      have := wf_rdb hWf (show r < nrW w by omega)
                      refine wn_virI (pc' := 72) rfl rfl (by decide) rfl rfl hM_h10 (Nat.le_of_ble_eq_true rfl) (m_ofRoad _ _ w RQ_h10.mh r 0 (by omega)) ?_
                      rw [show 56 + 3 * r + 0 = 56 + 3 * r by omega]
                      rw [wf_rda hWf (show r < nrW w by omega)]
                      have := rnd_le (w := w) (k := k) (y := y) t r (rdA w r)
                      refine wn_ialdv (pc' := 73) (j := rdA w r) (v := (nI (rndA w k y (itA w k y t) r (rdA w r)))) rfl rfl ((RQ_h10.2.1 80 (by decide) (by decide) (by decide)).trans i80_g7) rfl (by omega) (by decide) (hR (rdA w r) (by omega)) ?_
                      refine wn_ld (pc' := 74) (q := 0) (kin := 2) (v := .ref (71)) rfl (fun _ _ _ => rfl) rfl rfl ?_
                      refine wn_get (pc' := 77) (v := .ref (80)) rfl rfl hM_h10 rfl ?_
                      refine wn_ld (pc' := 78) (q := 0) (kin := 2) (v := .ref (71)) rfl (fun _ _ _ => rfl) rfl rfl ?_
                      refine wn_ld (pc' := 80) (q := 4) (kin := 0) (v := .int (nI (r))) rfl (fun _ _ _ => rfl) rfl rfl ?_
                      refine wn_ic (pc' := 81) (w := nI 1) rfl rfl (by decide) ?_
                      have := wf_rdb hWf (show r < nrW w by omega)
                      refine wn_virI (pc' := 84) rfl rfl (by decide) rfl rfl hM_h10 (Nat.le_of_ble_eq_true rfl) (m_ofRoad _ _ w RQ_h10.mh r 1 (by omega)) ?_
                      rw [show 56 + 3 * r + 1 = 57 + 3 * r by omega]
                      rw [wf_rdB hWf (show r < nrW w by omega)]
                      have := rnd_le (w := w) (k := k) (y := y) t r (rdB w r)
                      refine wn_ialdv (pc' := 85) (j := rdB w r) (v := (nI (rndA w k y (itA w k y t) r (rdB w r)))) rfl rfl ((RQ_h10.2.1 80 (by decide) (by decide) (by decide)).trans i80_g7) rfl (by omega) (by decide) (hR (rdB w r) (by omega)) ?_
                      refine wn_minN (pc' := 88) rfl rfl (Nat.le_of_ble_eq_true rfl) (by omega) (by omega) ?_
                      refine wn_st (pc' := 90) (q := 5) (kin := 0) (lv' := [(0, .ref (71)), (1, .int (nI (k))), (2, .int (nI (y))), (3, .int (nI (t))), (4, .int (nI (r))), (5, .int (nI (min (rndA w k y (itA w k y t) r (rdA w r)) (rndA w k y (itA w k y t) r (rdB w r)))))]) rfl (fun _ _ _ => rfl) rfl (Nat.le_of_ble_eq_true rfl) rfl ?_
                      refine wn_ld (pc' := 91) (q := 0) (kin := 2) (v := .ref (71)) rfl (fun _ _ _ => rfl) rfl rfl ?_
                      refine wn_get (pc' := 94) (v := .ref (80)) rfl rfl hM_h10 rfl ?_
                      refine wn_ld (pc' := 95) (q := 0) (kin := 2) (v := .ref (71)) rfl (fun _ _ _ => rfl) rfl rfl ?_
                      refine wn_ld (pc' := 97) (q := 4) (kin := 0) (v := .int (nI (r))) rfl (fun _ _ _ => rfl) rfl rfl ?_
                      refine wn_ic (pc' := 98) (w := nI 0) rfl rfl (by decide) ?_
                      have := wf_rdb hWf (show r < nrW w by omega)
                      refine wn_virI (pc' := 101) rfl rfl (by decide) rfl rfl hM_h10 (Nat.le_of_ble_eq_true rfl) (m_ofRoad _ _ w RQ_h10.mh r 0 (by omega)) ?_
                      rw [show 56 + 3 * r + 0 = 56 + 3 * r by omega]
                      rw [wf_rda hWf (show r < nrW w by omega)]
                      refine wn_ld (pc' := 103) (q := 5) (kin := 0) (v := .int (nI (min (rndA w k y (itA w k y t) r (rdA w r)) (rndA w k y (itA w k y t) r (rdB w r))))) rfl (fun _ _ _ => rfl) rfl rfl ?_
                      refine wn_iast (pc' := 104) (j := rdA w r) rfl rfl ((RQ_h10.2.1 80 (by decide) (by decide) (by decide)).trans i80_g7) rfl (by omega) (by decide) ?_
                      refine wn_ld (pc' := 105) (q := 0) (kin := 2) (v := .ref (71)) rfl (fun _ _ _ => rfl) rfl rfl ?_
                      refine wn_get (pc' := 108) (v := .ref (80)) rfl rfl (gs_ne (by decide) hM_h10) rfl ?_
                      refine wn_ld (pc' := 109) (q := 0) (kin := 2) (v := .ref (71)) rfl (fun _ _ _ => rfl) rfl rfl ?_
                      refine wn_ld (pc' := 111) (q := 4) (kin := 0) (v := .int (nI (r))) rfl (fun _ _ _ => rfl) rfl rfl ?_
                      refine wn_ic (pc' := 112) (w := nI 1) rfl rfl (by decide) ?_
                      have := wf_rdb hWf (show r < nrW w by omega)
                      refine wn_virI (pc' := 115) rfl rfl (by decide) rfl rfl (gs_ne (by decide) hM_h10) (Nat.le_of_ble_eq_true rfl) (m_ofRoad _ _ w (MQs.mh (MQs.st80 RQ_h10.2.2.2)) r 1 (by omega)) ?_
                      rw [show 56 + 3 * r + 1 = 57 + 3 * r by omega]
                      rw [wf_rdB hWf (show r < nrW w by omega)]
                      refine wn_ld (pc' := 117) (q := 5) (kin := 0) (v := .int (nI (min (rndA w k y (itA w k y t) r (rdA w r)) (rndA w k y (itA w k y t) r (rdB w r))))) rfl (fun _ _ _ => rfl) rfl rfl ?_
                      refine wn_iast (pc' := 118) (j := rdB w r) rfl rfl (gs_self ((RQ_h10.2.1 80 (by decide) (by decide) (by decide)).trans i80_g7)) rfl (by omega) (by decide) ?_
                      refine wn_incN (n := 1) (pc' := 121) (lv' := [(0, .ref (71)), (1, .int (nI (k))), (2, .int (nI (y))), (3, .int (nI (t))), (4, .int (nI (r + 1))), (5, .int (nI (min (rndA w k y (itA w k y t) r (rdA w r)) (rndA w k y (itA w k y t) r (rdB w r)))))]) rfl rfl rfl (Nat.le_of_ble_eq_true rfl) rfl (by decide) ?_
                      refine wn_jp (pc' := 36) rfl rfl ?_
                      refine wn_weak (lv' := [(0, .ref (71)), (1, .int (nI (k))), (2, .int (nI (y))), (3, .int (nI (t))), (4, .int (nI (r + 1)))]) (by simp) ?_
                      have z9 := ih_lp8 ((h10.set 80 (.inl (0, 24, .inl (upd le3_g7 (rdA w r) ((nI (min (rndA w k y (itA w k y t) r (rdA w r)) (rndA w k y (itA w k y t) r (rdB w r))))))))).set 80 (.inl (0, 24, .inl (upd (upd le3_g7 (rdA w r) ((nI (min (rndA w k y (itA w k y t) r (rdA w r)) (rndA w k y (itA w k y t) r (rdB w r)))))) (rdB w r) ((nI (min (rndA w k y (itA w k y t) r (rdA w r)) (rndA w k y (itA w k y t) r (rdB w r))))))))) (upd (upd le3_g7 (rdA w r) ((nI (min (rndA w k y (itA w k y t) r (rdA w r)) (rndA w k y (itA w k y t) r (rdB w r)))))) (rdB w r) ((nI (min (rndA w k y (itA w k y t) r (rdA w r)) (rndA w k y (itA w k y t) r (rdB w r)))))) (r + 1) (by omega) (RM.st80 (RM.st80 RT_h10)) (gs_self (gs_self ((RQ_h10.2.1 80 (by decide) (by decide) (by decide)).trans i80_g7))) (by omega) (lab_upd hR c12)
                      exact z9
                    · have c12 : k ≤ (bnW w y r) := c12
                      refine wn_jp (pc' := 118) rfl rfl ?_
                      refine wn_incN (n := 1) (pc' := 121) (lv' := [(0, .ref (71)), (1, .int (nI (k))), (2, .int (nI (y))), (3, .int (nI (t))), (4, .int (nI (r + 1)))]) rfl rfl rfl (Nat.le_of_ble_eq_true rfl) rfl (by decide) ?_
                      refine wn_jp (pc' := 36) rfl rfl ?_
                      refine wn_weak (lv' := [(0, .ref (71)), (1, .int (nI (k))), (2, .int (nI (y))), (3, .int (nI (t))), (4, .int (nI (r + 1)))]) (by simp) ?_
                      have z9 := ih_lp8 h10 le3_g7 (r + 1) (by omega) RT_h10 ((RQ_h10.2.1 80 (by decide) (by decide) (by decide)).trans i80_g7) (by omega) (by rw [show rndA w k y (itA w k y t) (r + 1) = rndA w k y (itA w k y t) r from stpA_f (by omega)]; exact hR)
                      exact z9
              refine wn_weak (lv' := [(0, .ref (71)), (1, .int (nI (k))), (2, .int (nI (y))), (3, .int (nI (t))), (4, .int (nI (0)))]) (by simp) ?_
              have z9 := lp8 ((nrW w) + 1) g4 le2_g4 0 (by omega) RT_g4 i80_g4 (by omega) hT
              exact z9
        refine wn_weak (lv' := [(0, .ref (71)), (1, .int (nI (k))), (2, .int (nI (y))), (3, .int (nI (0)))]) (by simp) ?_
        have z9 := lp5 ((nvW w) + 1) g1 le_g1 0 (by omega) RT_g1 i80_g1 (by omega) hL
        exact z9
      · have c3 : v < 24 := c3
        refine wn_ld (pc' := 9) (q := 0) (kin := 2) (v := .ref (71)) rfl (fun _ _ _ => rfl) rfl rfl ?_
        refine wn_get (pc' := 12) (v := .ref (80)) rfl rfl hM_g1 rfl ?_
        refine wn_ld (pc' := 13) (q := 3) (kin := 0) (v := .int (nI (v))) rfl (fun _ _ _ => rfl) rfl rfl ?_
        refine wn_ld (pc' := 14) (q := 3) (kin := 0) (v := .int (nI (v))) rfl (fun _ _ _ => rfl) rfl rfl ?_
        refine wn_iast (pc' := 15) (j := v) rfl rfl i80_g1 rfl (by omega) (by decide) ?_
        refine wn_incN (n := 1) (pc' := 18) (lv' := [(0, .ref (71)), (1, .int (nI (k))), (2, .int (nI (y))), (3, .int (nI (v + 1)))]) rfl rfl rfl (Nat.le_of_ble_eq_true rfl) rfl (by decide) ?_
        refine wn_jp (pc' := 2) rfl rfl ?_
        refine wn_weak (lv' := [(0, .ref (71)), (1, .int (nI (k))), (2, .int (nI (y))), (3, .int (nI (v + 1)))]) (by simp) ?_
        have z9 := ih_lp2 (g1.set 80 (.inl (0, 24, .inl (upd le_g1 (v) ((nI (v))))))) (upd le_g1 (v) ((nI (v)))) (v + 1) (by omega) (RM.st80 RT_g1) (gs_self i80_g1) (by omega) (fun q hq => by by_cases e : q = v; (subst e; exact pk_us); (rw [pk_un (by omega)]; exact hL q (by omega)))
        exact z9
  refine wn_weak (lv' := [(0, .ref (71)), (1, .int (nI (k))), (2, .int (nI (y))), (3, .int (nI (0)))]) (by simp) ?_
  have z9 := lp2 (24 + 1) h le 0 (by omega) (RM.rfl' HQ) i80 (by omega) (fun _ q => absurd q (by omega))
  exact z9

theorem m_area (d : Nat) (h : aH) (w : Nat → Int32) (hWf : WfW w) (HQ : MQs h w) (le : Nat → Int32) (i80 : isI h 80 24 le) (v k y : Int32) : Sp (Rn (d + 12)) 193 [.ref (71), .int (v), .int (k), .int (y)] h (fun r9 h9 => r9 = some (.int (areaA w v k y)) ∧ RM h h9 w ∧ ∃ le', isI h9 80 24 le') := by
  obtain ⟨⟨e1, e2⟩, ⟨e3, e4⟩, ⟨e5, e6⟩⟩ := Wf_n hWf
  obtain ⟨⟨e7, e8⟩, ⟨e9, e10⟩⟩ := Wf_m hWf
  have p2b := stN_le hWf
  obtain ⟨th, tp, sz, at9, fr, tk, vl, fk, fp, il, up, lo, sa9, tn, q0, q1, q2, q3, q4⟩ := id HQ
  refine Sp_of (by decide) (Nat.le_of_ble_eq_true rfl) ?_
  show Wn _ _ 0 [(0, .ref (71)), (1, .int (v)), (2, .int (k)), (3, .int (y))] [] _ _
  refine wn_ld (pc' := 1) (q := 0) (kin := 2) (v := .ref (71)) rfl (fun _ _ _ => rfl) rfl rfl ?_
  refine wn_ld (pc' := 2) (q := 1) (kin := 0) (v := .int (v)) rfl (fun _ _ _ => rfl) rfl rfl ?_
  refine wn_virI (pc' := 5) rfl rfl (by decide) rfl rfl q0 (Nat.le_of_ble_eq_true rfl) (m_isVillage _ _ w HQ.mh _ e1 (by omega) _) ?_
  refine wn_ifeqB (t := 27) (f := 8) rfl rfl rfl (fun c1 => ?_) (fun c1 => ?_)
  · have c1 : ¬ (iin v (nvW w)) := c1
    refine wn_bp (pc' := 29) (w := -2) rfl rfl (by decide) ?_
    try simp only [Int32.lt_iff_toInt_lt, Int32.le_iff_toInt_le, i2l_int, Int32.toInt_zero, iin] at c1
    refine wn_iret rfl rfl rfl ⟨congrArg (fun z => some (Value.int z)) ?_, (RM.rfl' HQ), _, i80⟩
    unfold areaA
    rw [qI_f (by simp only [iin]; omega)]
  · have c1 : (iin v (nvW w)) := c1
    obtain ⟨v9, hv9, rfl⟩ := iin_of c1
    have ti_v := nI_toInt (n := v9) (show v9 < 2 ^ 31 by omega)
    have cl_v := nI_clamp (n := v9) (show v9 < 2 ^ 31 by omega)
    refine wn_ld (pc' := 9) (q := 2) (kin := 0) (v := .int (k)) rfl (fun _ _ _ => rfl) rfl rfl ?_
    refine wn_pu (pc' := 10) (st' := [.long (Int32.toInt64 (k))]) rfl (fun _ _ _ => rfl) rfl rfl ?_
    refine wn_pu (pc' := 11) (st' := .long (lN 1) :: [.long (Int32.toInt64 (k))]) rfl (fun _ _ _ => rfl) rfl rfl ?_
    refine wn_go (pc' := 14) (lv' := [(0, .ref (71)), (1, .int (nI (v9))), (2, .int (k)), (3, .int (y))]) (st' := [.long ((11 : Int64)), .long (lN 1), .long (Int32.toInt64 (k))]) rfl (fun _ _ _ k9 => k9) ?_
    refine wn_staI (pc' := 17) rfl rfl (by decide) rfl rfl (Nat.le_of_ble_eq_true rfl) (m_inR _ _ k (1) 11 (lN 1) ((11 : Int64)) (by decide) (by decide)) ?_
    refine wn_ifeqB (t := 27) (f := 20) rfl rfl rfl (fun c2 => ?_) (fun c2 => ?_)
    · have c2 : ¬ ((1 : Int) ≤ k.toInt ∧ k.toInt ≤ 11) := c2
      refine wn_bp (pc' := 29) (w := -2) rfl rfl (by decide) ?_
      try simp only [Int32.lt_iff_toInt_lt, Int32.le_iff_toInt_le, i2l_int, Int32.toInt_zero, iin] at c1
      try simp only [Int32.lt_iff_toInt_lt, Int32.le_iff_toInt_le, i2l_int, Int32.toInt_zero, iin] at c2
      refine wn_iret rfl rfl rfl ⟨congrArg (fun z => some (Value.int z)) ?_, (RM.rfl' HQ), _, i80⟩
      unfold areaA
      rw [qI_f (by simp only [iin]; omega)]
    · have c2 : ((1 : Int) ≤ k.toInt ∧ k.toInt ≤ 11) := c2
      obtain ⟨k9, hk1, hk9, rfl⟩ := k11_of c2.1 c2.2
      have ti_k := nI_toInt (n := k9) (show k9 < 2 ^ 31 by omega)
      have cl_k := nI_clamp (n := k9) (show k9 < 2 ^ 31 by omega)
      refine wn_ld (pc' := 21) (q := 3) (kin := 0) (v := .int (y)) rfl (fun _ _ _ => rfl) rfl rfl ?_
      refine wn_staI (pc' := 24) rfl rfl (by decide) rfl rfl (Nat.le_of_ble_eq_true rfl) (m_isYear _ _ _) ?_
      refine wn_ifneB (t := 30) (f := 27) rfl rfl rfl (fun c3 => ?_) (fun c3 => ?_)
      · have c3 : (iin y 61) := c3
        obtain ⟨y9, hy9, rfl⟩ := iin_of c3
        have ti_y := nI_toInt (n := y9) (show y9 < 2 ^ 31 by omega)
        have cl_y := nI_clamp (n := y9) (show y9 < 2 ^ 31 by omega)
        refine wn_ld (pc' := 31) (q := 0) (kin := 2) (v := .ref (71)) rfl (fun _ _ _ => rfl) rfl rfl ?_
        refine wn_ld (pc' := 32) (q := 2) (kin := 0) (v := .int (nI (k9))) rfl (fun _ _ _ => rfl) rfl rfl ?_
        refine wn_ld (pc' := 33) (q := 3) (kin := 0) (v := .int (nI (y9))) rfl (fun _ _ _ => rfl) rfl rfl ?_
        refine wn_virS (pc' := 36) rfl rfl (by decide) rfl rfl q0 (Nat.le_of_ble_eq_true rfl) (m_measures _ _ w hWf HQ _ i80 k9 y9 (by omega) (by omega)) (fun r9 h4 e5 => ?_)
        obtain ⟨rfl, RM_h4, le_h4, i80_h4, lv_h4⟩ := e5
        obtain ⟨th_h4, tp_h4, sz_h4, at9_h4, fr_h4, tk_h4, vl_h4, fk_h4, fp_h4, il_h4, up_h4, lo_h4, hM_h4, hW_h4⟩ := RM_h4.mh
        show Wn _ _ 36 _ [] h4 _
        refine wn_ld (pc' := 37) (q := 0) (kin := 2) (v := .ref (71)) rfl (fun _ _ _ => rfl) rfl rfl ?_
        refine wn_get (pc' := 40) (v := .ref (80)) rfl rfl hM_h4 rfl ?_
        refine wn_ld (pc' := 41) (q := 1) (kin := 0) (v := .int (nI (v9))) rfl (fun _ _ _ => rfl) rfl rfl ?_
        have := itA_le (w := w) (k := k9) (y := y9) (nvW w) v9
        refine wn_ialdv (pc' := 42) (j := v9) (v := (nI (itA w k9 y9 (nvW w) v9))) rfl rfl i80_h4 rfl (by omega) (by decide) (lv_h4 v9 (by omega)) ?_
        try simp only [Int32.lt_iff_toInt_lt, Int32.le_iff_toInt_le, i2l_int, Int32.toInt_zero, iin] at c1
        try simp only [Int32.lt_iff_toInt_lt, Int32.le_iff_toInt_le, i2l_int, Int32.toInt_zero, iin] at c2
        try simp only [Int32.lt_iff_toInt_lt, Int32.le_iff_toInt_le, i2l_int, Int32.toInt_zero, iin] at c3
        refine wn_iret rfl rfl rfl ⟨congrArg (fun z => some (Value.int z)) ?_, RM_h4, _, i80_h4⟩
        unfold areaA
        rw [qI_t (by simp only [iin]; omega)]
        first | rfl | (simp only [cl_v, cl_k, cl_y]; done) | (simp only [cl_v, cl_k, cl_y]; rfl)
      · have c3 : ¬ (iin y 61) := c3
        refine wn_bp (pc' := 29) (w := -2) rfl rfl (by decide) ?_
        try simp only [Int32.lt_iff_toInt_lt, Int32.le_iff_toInt_le, i2l_int, Int32.toInt_zero, iin] at c1
        try simp only [Int32.lt_iff_toInt_lt, Int32.le_iff_toInt_le, i2l_int, Int32.toInt_zero, iin] at c2
        try simp only [Int32.lt_iff_toInt_lt, Int32.le_iff_toInt_le, i2l_int, Int32.toInt_zero, iin] at c3
        refine wn_iret rfl rfl rfl ⟨congrArg (fun z => some (Value.int z)) ?_, (RM.rfl' HQ), _, i80⟩
        unfold areaA
        rw [qI_f (by simp only [iin]; omega)]

theorem m_areas (d : Nat) (h : aH) (w : Nat → Int32) (hWf : WfW w) (HQ : MQs h w) (le : Nat → Int32) (i80 : isI h 80 24 le) (k y : Int32) : Sp (Rn (d + 12)) 192 [.ref (71), .int (k), .int (y)] h (fun r9 h9 => r9 = some (.int (areasA w k y)) ∧ RM h h9 w ∧ ∃ le', isI h9 80 24 le') := by
  obtain ⟨⟨e1, e2⟩, ⟨e3, e4⟩, ⟨e5, e6⟩⟩ := Wf_n hWf
  obtain ⟨⟨e7, e8⟩, ⟨e9, e10⟩⟩ := Wf_m hWf
  have p2b := stN_le hWf
  obtain ⟨th, tp, sz, at9, fr, tk, vl, fk, fp, il, up, lo, sa9, tn, q0, q1, q2, q3, q4⟩ := id HQ
  refine Sp_of (by decide) (Nat.le_of_ble_eq_true rfl) ?_
  show Wn _ _ 0 [(0, .ref (71)), (1, .int (k)), (2, .int (y))] [] _ _
  refine wn_ld (pc' := 1) (q := 1) (kin := 0) (v := .int (k)) rfl (fun _ _ _ => rfl) rfl rfl ?_
  refine wn_pu (pc' := 2) (st' := [.long (Int32.toInt64 (k))]) rfl (fun _ _ _ => rfl) rfl rfl ?_
  refine wn_pu (pc' := 3) (st' := .long (lN 1) :: [.long (Int32.toInt64 (k))]) rfl (fun _ _ _ => rfl) rfl rfl ?_
  refine wn_go (pc' := 6) (lv' := [(0, .ref (71)), (1, .int (k)), (2, .int (y))]) (st' := [.long ((11 : Int64)), .long (lN 1), .long (Int32.toInt64 (k))]) rfl (fun _ _ _ k9 => k9) ?_
  refine wn_staI (pc' := 9) rfl rfl (by decide) rfl rfl (Nat.le_of_ble_eq_true rfl) (m_inR _ _ k (1) 11 (lN 1) ((11 : Int64)) (by decide) (by decide)) ?_
  refine wn_ifeqB (t := 19) (f := 12) rfl rfl rfl (fun c1 => ?_) (fun c1 => ?_)
  · have c1 : ¬ ((1 : Int) ≤ k.toInt ∧ k.toInt ≤ 11) := c1
    refine wn_bp (pc' := 21) (w := -2) rfl rfl (by decide) ?_
    try simp only [Int32.lt_iff_toInt_lt, Int32.le_iff_toInt_le, i2l_int, Int32.toInt_zero, iin] at c1
    refine wn_iret rfl rfl rfl ⟨congrArg (fun z => some (Value.int z)) ?_, (RM.rfl' HQ), _, i80⟩
    unfold areasA
    rw [qI_f (by simp only [iin]; omega)]
  · have c1 : ((1 : Int) ≤ k.toInt ∧ k.toInt ≤ 11) := c1
    obtain ⟨k9, hk1, hk9, rfl⟩ := k11_of c1.1 c1.2
    have ti_k := nI_toInt (n := k9) (show k9 < 2 ^ 31 by omega)
    have cl_k := nI_clamp (n := k9) (show k9 < 2 ^ 31 by omega)
    refine wn_ld (pc' := 13) (q := 2) (kin := 0) (v := .int (y)) rfl (fun _ _ _ => rfl) rfl rfl ?_
    refine wn_staI (pc' := 16) rfl rfl (by decide) rfl rfl (Nat.le_of_ble_eq_true rfl) (m_isYear _ _ _) ?_
    refine wn_ifneB (t := 22) (f := 19) rfl rfl rfl (fun c2 => ?_) (fun c2 => ?_)
    · have c2 : (iin y 61) := c2
      obtain ⟨y9, hy9, rfl⟩ := iin_of c2
      have ti_y := nI_toInt (n := y9) (show y9 < 2 ^ 31 by omega)
      have cl_y := nI_clamp (n := y9) (show y9 < 2 ^ 31 by omega)
      refine wn_ld (pc' := 23) (q := 0) (kin := 2) (v := .ref (71)) rfl (fun _ _ _ => rfl) rfl rfl ?_
      refine wn_ld (pc' := 24) (q := 1) (kin := 0) (v := .int (nI (k9))) rfl (fun _ _ _ => rfl) rfl rfl ?_
      refine wn_ld (pc' := 25) (q := 2) (kin := 0) (v := .int (nI (y9))) rfl (fun _ _ _ => rfl) rfl rfl ?_
      refine wn_virS (pc' := 28) rfl rfl (by decide) rfl rfl q0 (Nat.le_of_ble_eq_true rfl) (m_measures _ _ w hWf HQ _ i80 k9 y9 (by omega) (by omega)) (fun r9 h3 e4 => ?_)
      obtain ⟨rfl, RM_h3, le_h3, i80_h3, lv_h3⟩ := e4
      obtain ⟨th_h3, tp_h3, sz_h3, at9_h3, fr_h3, tk_h3, vl_h3, fk_h3, fp_h3, il_h3, up_h3, lo_h3, hM_h3, hW_h3⟩ := RM_h3.mh
      show Wn _ _ 28 _ [] h3 _
      refine wn_ic (pc' := 29) (w := nI 0) rfl rfl (by decide) ?_
      refine wn_st (pc' := 30) (q := 3) (kin := 0) (lv' := [(0, .ref (71)), (1, .int (nI (k9))), (2, .int (nI (y9))), (3, .int (nI (0)))]) rfl (fun _ _ _ => rfl) rfl (Nat.le_of_ble_eq_true rfl) rfl ?_
      refine wn_ic (pc' := 31) (w := nI 0) rfl rfl (by decide) ?_
      refine wn_st (pc' := 33) (q := 4) (kin := 0) (lv' := [(0, .ref (71)), (1, .int (nI (k9))), (2, .int (nI (y9))), (3, .int (nI (0))), (4, .int (nI (0)))]) rfl (fun _ _ _ => rfl) rfl (Nat.le_of_ble_eq_true rfl) rfl ?_
      have lp5 : ∀ (n_lp5 : Nat) (v : Nat), (nvW w) + 1 ≤ v + n_lp5 → v ≤ nvW w → Wn (Rn (d + 11)) 192 33 [(0, .ref (71)), (1, .int (nI (k9))), (2, .int (nI (y9))), (3, .int (nI (cntP (fun x7 => itA w k9 y9 (nvW w) x7 = x7) v))), (4, .int (nI (v)))] [] (h3) (fun r9 h9 => r9 = some (.int (areasA w (nI k9) (nI y9))) ∧ RM h h9 w ∧ ∃ le', isI h9 80 24 le') := by
        intro n_lp5
        induction n_lp5 with
        | zero => intro v hm_lp5 hk_v; exfalso; omega
        | succ n_lp5 ih_lp5 =>
          intro v hm_lp5 hk_v
          have := cntP_le (fun x7 => itA w k9 y9 (nvW w) x7 = x7) v
          refine wn_ld (pc' := 35) (q := 4) (kin := 0) (v := .int (nI (v))) rfl (fun _ _ _ => rfl) rfl rfl ?_
          refine wn_ld (pc' := 36) (q := 0) (kin := 2) (v := .ref (71)) rfl (fun _ _ _ => rfl) rfl rfl ?_
          refine wn_get (pc' := 39) (v := .ref (72)) rfl rfl hM_h3 rfl ?_
          refine wn_ic (pc' := 40) (w := nI 1) rfl rfl (by decide) ?_
          refine wn_ialdv (pc' := 41) (j := 1) (v := (nI (nvW w))) rfl rfl hW_h3 rfl (by omega) (by decide) (e1) ?_
          refine wn_icmpN (t := 70) (f := 44) rfl rfl rfl (by omega) (by omega) (fun c6 => ?_) (fun c6 => ?_)
          · have c6 : (nvW w) ≤ v := c6
            obtain rfl : v = nvW w := by omega
            refine wn_ld (pc' := 71) (q := 3) (kin := 0) (v := .int (nI (cntP (fun x7 => itA w k9 y9 (nvW w) x7 = x7) (nvW w)))) rfl (fun _ _ _ => rfl) rfl rfl ?_
            try simp only [Int32.lt_iff_toInt_lt, Int32.le_iff_toInt_le, i2l_int, Int32.toInt_zero, iin] at c1
            try simp only [Int32.lt_iff_toInt_lt, Int32.le_iff_toInt_le, i2l_int, Int32.toInt_zero, iin] at c2
            refine wn_iret rfl rfl rfl ⟨congrArg (fun z => some (Value.int z)) ?_, RM_h3, _, i80_h3⟩
            unfold areasA
            rw [qI_t (by simp only [iin]; omega)]
            first | rfl | (simp only [cl_k, cl_y]; done) | (simp only [cl_k, cl_y]; rfl)
          · have c6 : v < (nvW w) := c6
            refine wn_ld (pc' := 45) (q := 3) (kin := 0) (v := .int (nI (cntP (fun x7 => itA w k9 y9 (nvW w) x7 = x7) v))) rfl (fun _ _ _ => rfl) rfl rfl ?_
            refine wn_ld (pc' := 46) (q := 0) (kin := 2) (v := .ref (71)) rfl (fun _ _ _ => rfl) rfl rfl ?_
            refine wn_get (pc' := 49) (v := .ref (80)) rfl rfl hM_h3 rfl ?_
            refine wn_ld (pc' := 51) (q := 4) (kin := 0) (v := .int (nI (v))) rfl (fun _ _ _ => rfl) rfl rfl ?_
            have := itA_le (w := w) (k := k9) (y := y9) (nvW w) v
            refine wn_ialdv (pc' := 52) (j := v) (v := (nI (itA w k9 y9 (nvW w) v))) rfl rfl i80_h3 rfl (by omega) (by decide) (lv_h3 v (by omega)) ?_
            refine wn_ld (pc' := 54) (q := 4) (kin := 0) (v := .int (nI (v))) rfl (fun _ _ _ => rfl) rfl rfl ?_
            refine wn_icmpN (t := 61) (f := 57) rfl rfl rfl (by omega) (by omega) (fun c7 => ?_) (fun c7 => ?_)
            · have c7 : ¬ (itA w k9 y9 (nvW w) v) = v := c7
              refine wn_ic (pc' := 62) (w := nI 0) rfl rfl (by decide) ?_
              refine wn_addN (pc' := 63) rfl rfl ?_
              refine wn_st (pc' := 64) (q := 3) (kin := 0) (lv' := [(0, .ref (71)), (1, .int (nI (k9))), (2, .int (nI (y9))), (3, .int (nI ((cntP (fun x7 => itA w k9 y9 (nvW w) x7 = x7) v) + 0))), (4, .int (nI (v)))]) rfl (fun _ _ _ => rfl) rfl (Nat.le_of_ble_eq_true rfl) rfl ?_
              refine wn_incN (n := 1) (pc' := 67) (lv' := [(0, .ref (71)), (1, .int (nI (k9))), (2, .int (nI (y9))), (3, .int (nI ((cntP (fun x7 => itA w k9 y9 (nvW w) x7 = x7) v) + 0))), (4, .int (nI (v + 1)))]) rfl rfl rfl (Nat.le_of_ble_eq_true rfl) rfl (by decide) ?_
              refine wn_jp (pc' := 33) rfl rfl ?_
              refine wn_weak (lv' := [(0, .ref (71)), (1, .int (nI (k9))), (2, .int (nI (y9))), (3, .int (nI ((cntP (fun x7 => itA w k9 y9 (nvW w) x7 = x7) v) + 0))), (4, .int (nI (v + 1)))]) (by simp) ?_
              have z9 := ih_lp5 (v + 1) (by omega) (by omega)
              rw [show (nI (cntP (fun x7 => itA w k9 y9 (nvW w) x7 = x7) (v + 1))) = (nI ((cntP (fun x7 => itA w k9 y9 (nvW w) x7 = x7) v) + 0)) from (by exact congrArg nI (cntP_f (p := fun x7 => itA w k9 y9 (nvW w) x7 = x7) c7))] at z9
              exact z9
            · have c7 : (itA w k9 y9 (nvW w) v) = v := c7
              refine wn_ic (pc' := 58) (w := nI 1) rfl rfl (by decide) ?_
              refine wn_jp (pc' := 62) rfl rfl ?_
              refine wn_addN (pc' := 63) rfl rfl ?_
              refine wn_st (pc' := 64) (q := 3) (kin := 0) (lv' := [(0, .ref (71)), (1, .int (nI (k9))), (2, .int (nI (y9))), (3, .int (nI ((cntP (fun x7 => itA w k9 y9 (nvW w) x7 = x7) v) + 1))), (4, .int (nI (v)))]) rfl (fun _ _ _ => rfl) rfl (Nat.le_of_ble_eq_true rfl) rfl ?_
              refine wn_incN (n := 1) (pc' := 67) (lv' := [(0, .ref (71)), (1, .int (nI (k9))), (2, .int (nI (y9))), (3, .int (nI ((cntP (fun x7 => itA w k9 y9 (nvW w) x7 = x7) v) + 1))), (4, .int (nI (v + 1)))]) rfl rfl rfl (Nat.le_of_ble_eq_true rfl) rfl (by decide) ?_
              refine wn_jp (pc' := 33) rfl rfl ?_
              refine wn_weak (lv' := [(0, .ref (71)), (1, .int (nI (k9))), (2, .int (nI (y9))), (3, .int (nI ((cntP (fun x7 => itA w k9 y9 (nvW w) x7 = x7) v) + 1))), (4, .int (nI (v + 1)))]) (by simp) ?_
              have z9 := ih_lp5 (v + 1) (by omega) (by omega)
              rw [show (nI (cntP (fun x7 => itA w k9 y9 (nvW w) x7 = x7) (v + 1))) = (nI ((cntP (fun x7 => itA w k9 y9 (nvW w) x7 = x7) v) + 1)) from (by exact congrArg nI (cntP_t (p := fun x7 => itA w k9 y9 (nvW w) x7 = x7) c7))] at z9
              exact z9
      refine wn_weak (lv' := [(0, .ref (71)), (1, .int (nI (k9))), (2, .int (nI (y9))), (3, .int (nI (0))), (4, .int (nI (0)))]) (by simp) ?_
      have z9 := lp5 ((nvW w) + 1) 0 (by omega) (by omega)
      rw [show (nI (cntP (fun x7 => itA w k9 y9 (nvW w) x7 = x7) 0)) = (nI (0)) from (by rfl)] at z9
      exact z9
    · have c2 : ¬ (iin y 61) := c2
      refine wn_bp (pc' := 21) (w := -2) rfl rfl (by decide) ?_
      try simp only [Int32.lt_iff_toInt_lt, Int32.le_iff_toInt_le, i2l_int, Int32.toInt_zero, iin] at c1
      try simp only [Int32.lt_iff_toInt_lt, Int32.le_iff_toInt_le, i2l_int, Int32.toInt_zero, iin] at c2
      refine wn_iret rfl rfl rfl ⟨congrArg (fun z => some (Value.int z)) ?_, (RM.rfl' HQ), _, i80⟩
      unfold areasA
      rw [qI_f (by simp only [iin]; omega)]

theorem x_labelAreas (d : Nat) (h : aH) (ls : Nat) (w : Nat → Int32) (hWf : WfW w) (V : XV h ls w) (bu lb : Nat → Int32) (b0 : isI h 58 40 bu) (b9 : isI h 59 24 lb) (k : Nat) (hk : k ≤ 11) (y : Nat) (hy : y ≤ 60) (Ra : ∀ i, i < ntW w → Rch h w i y) : Sp (Rn (d + 6)) 82 [.ref (0), .int (nI (k)), .int (nI (y))] h (fun r9 h9 => r9 = none ∧ Fr [58, 59] h h9 ∧ ∃ b1 l1, isI h9 58 40 b1 ∧ isI h9 59 24 l1 ∧ ∀ v, v < nvW w → l1 v = nI (itA w k y (nvW w) v)) := by
  obtain ⟨⟨e1, e2⟩, ⟨e3, e4⟩, ⟨e5, e6⟩⟩ := Wf_n hWf
  obtain ⟨⟨e7, e8⟩, ⟨e9, e10⟩⟩ := Wf_m hWf
  obtain ⟨v0, ⟨x9, v1⟩, ⟨v2, ⟨sz, rf, rt, rv, ag, vr, sd, tl, l0, l1, l2, l3, l4, l5, l6, l7, l8, g1, g2, g3, g4, g5⟩, ⟨sec, it, fi, se, sg, lst, rs, rp, pj, pk, pv, k0, k1, k2, k3, k4, k5, k6, k7, k8, k9, k10, k11, k12, k13⟩, ⟨hv, hc, y0, y1, y2, y3, y4⟩, ⟨an, wk, n0, n1, n2, n3, n4⟩⟩, v3⟩ := id V
  rw [e1, e3, e5] at l0
  rw [e7, e9] at k1
  refine Sp_of (by decide) (Nat.le_of_ble_eq_true rfl) ?_
  show Wn _ _ 0 [(0, .ref (0)), (1, .int (nI (k))), (2, .int (nI (y)))] [] _ _
  refine wn_ld (pc' := 1) (q := 0) (kin := 2) (v := .ref (0)) rfl (fun _ _ _ => rfl) rfl rfl ?_
  refine wn_get (pc' := 4) (v := .ref (23)) rfl rfl v1 rfl ?_
  refine wn_get (pc' := 7) (v := .ref (ls)) rfl rfl v2 rfl ?_
  refine wn_st (pc' := 8) (q := 3) (kin := 2) (lv' := [(0, .ref (0)), (1, .int (nI (k))), (2, .int (nI (y))), (3, .ref (ls))]) rfl (fun _ _ _ => rfl) rfl (Nat.le_of_ble_eq_true rfl) rfl ?_
  refine wn_ld (pc' := 9) (q := 0) (kin := 2) (v := .ref (0)) rfl (fun _ _ _ => rfl) rfl rfl ?_
  refine wn_ld (pc' := 10) (q := 2) (kin := 0) (v := .int (nI (y))) rfl (fun _ _ _ => rfl) rfl rfl ?_
  refine wn_virS (pc' := 13) rfl rfl (by decide) rfl rfl v1 (Nat.le_of_ble_eq_true rfl) (x_fillBundles _ _ ls w hWf V _ b0 y (by omega) Ra) (fun r9 h1 e2 => ?_)
  obtain ⟨rfl, f_h1, b_h1, i_h1, bv_h1⟩ := e2
  have f2_h1 : Fr [58, 59] h h1 := ⟨f_h1.1, fun k hk => f_h1.2 k (fun q => hk (by simp only [List.mem_cons, List.not_mem_nil, or_false] at q ⊢; omega))⟩
  show Wn _ _ 13 _ [] h1 _
  refine wn_ic (pc' := 14) (w := nI 0) rfl rfl (by decide) ?_
  refine wn_st (pc' := 16) (q := 4) (kin := 0) (lv' := [(0, .ref (0)), (1, .int (nI (k))), (2, .int (nI (y))), (3, .ref (ls)), (4, .int (nI (0)))]) rfl (fun _ _ _ => rfl) rfl (Nat.le_of_ble_eq_true rfl) rfl ?_
  have lp4 : ∀ (n_lp4 : Nat) (g3 : aH) (la1 : Nat → Int32) (v : Nat), (nvW w) + 1 ≤ v + n_lp4 → Fr [58, 59] h g3 → isI g3 58 40 b_h1 → isI g3 59 24 la1 → v ≤ nvW w → (∀ q, q < v → la1 q = nI q) → Wn (Rn (d + 5)) 82 16 [(0, .ref (0)), (1, .int (nI (k))), (2, .int (nI (y))), (3, .ref (ls)), (4, .int (nI (v)))] [] (g3) (fun r9 h9 => r9 = none ∧ Fr [58, 59] h h9 ∧ ∃ b1 l1, isI h9 58 40 b1 ∧ isI h9 59 24 l1 ∧ ∀ v, v < nvW w → l1 v = nI (itA w k y (nvW w) v)) := by
    intro n_lp4
    induction n_lp4 with
    | zero => intro g3 la1 v hm_lp4 hf_g3 c_58_g3 c_59_g3 hv_ hL; exfalso; omega
    | succ n_lp4 ih_lp4 =>
      intro g3 la1 v hm_lp4 hf_g3 c_58_g3 c_59_g3 hv_ hL
      have V_g3 : XV g3 ls w := XV.frl V hf_g3 (by decide)
      refine wn_ld (pc' := 18) (q := 4) (kin := 0) (v := .int (nI (v))) rfl (fun _ _ _ => rfl) rfl rfl ?_
      refine wn_ld (pc' := 19) (q := 3) (kin := 2) (v := .ref (ls)) rfl (fun _ _ _ => rfl) rfl rfl ?_
      refine wn_get (pc' := 22) (v := .int (nI (nvW w))) rfl rfl ((hf_g3.2 ls (by simp only [List.mem_cons, List.not_mem_nil, or_false]; omega)).trans l0) rfl ?_
      refine wn_icmpN (t := 40) (f := 25) rfl rfl rfl (by omega) (by omega) (fun c5 => ?_) (fun c5 => ?_)
      · have c5 : (nvW w) ≤ v := c5
        obtain rfl : v = nvW w := by omega
        refine wn_ic (pc' := 41) (w := nI 1) rfl rfl (by decide) ?_
        refine wn_st (pc' := 43) (q := 4) (kin := 0) (lv' := [(0, .ref (0)), (1, .int (nI (k))), (2, .int (nI (y))), (3, .ref (ls)), (4, .int (nI (1)))]) rfl (fun _ _ _ => rfl) rfl (Nat.le_of_ble_eq_true rfl) rfl ?_
        refine wn_ic (pc' := 44) (w := nI 0) rfl rfl (by decide) ?_
        refine wn_st (pc' := 46) (q := 5) (kin := 0) (lv' := [(0, .ref (0)), (1, .int (nI (k))), (2, .int (nI (y))), (3, .ref (ls)), (4, .int (nI (1))), (5, .int (nI (0)))]) rfl (fun _ _ _ => rfl) rfl (Nat.le_of_ble_eq_true rfl) rfl ?_
        have lp7 : ∀ (n_lp7 : Nat) (g6 : aH) (la2 : Nat → Int32) (p : Nat) (ch : Int32), 24 + 1 ≤ p + n_lp7 → Fr [58, 59] h g6 → isI g6 58 40 b_h1 → isI g6 59 24 la2 → p ≤ 24 → (∀ q, q < nvW w → la2 q = nI (itA w k y p q)) → (ch = 0 → itA w k y (p + 1) = itA w k y p) → Wn (Rn (d + 5)) 82 46 [(0, .ref (0)), (1, .int (nI (k))), (2, .int (nI (y))), (3, .ref (ls)), (4, .int (ch)), (5, .int (nI (p)))] [] (g6) (fun r9 h9 => r9 = none ∧ Fr [58, 59] h h9 ∧ ∃ b1 l1, isI h9 58 40 b1 ∧ isI h9 59 24 l1 ∧ ∀ v, v < nvW w → l1 v = nI (itA w k y (nvW w) v)) := by
          intro n_lp7
          induction n_lp7 with
          | zero => intro g6 la2 p ch hm_lp7 hf_g6 c_58_g6 c_59_g6 hp hP hC; exfalso; omega
          | succ n_lp7 ih_lp7 =>
            intro g6 la2 p ch hm_lp7 hf_g6 c_58_g6 c_59_g6 hp hP hC
            have V_g6 : XV g6 ls w := XV.frl V hf_g6 (by decide)
            refine wn_ld (pc' := 48) (q := 5) (kin := 0) (v := .int (nI (p))) rfl (fun _ _ _ => rfl) rfl rfl ?_
            refine wn_bp (pc' := 50) (w := nI 24) rfl rfl (by decide) ?_
            refine wn_icmpN (t := 171) (f := 53) rfl rfl rfl (by omega) (by omega) (fun c8 => ?_) (fun c8 => ?_)
            · have c8 : 24 ≤ p := c8
              exact wn_vret rfl rfl ⟨rfl, hf_g6, _, _, c_58_g6, c_59_g6, by rw [← it_end (k := k) (y := y) hWf (p := p) (Or.inl (by omega))]; exact hP⟩
            · have c8 : p < 24 := c8
              refine wn_ld (pc' := 55) (q := 4) (kin := 0) (v := .int (ch)) rfl (fun _ _ _ => rfl) rfl rfl ?_
              refine wn_ifc (t := 171) (f := 58) rfl rfl rfl (fun c9 => ?_) (fun c9 => ?_)
              · have c9 : ((ch)) = 0 := c9
                exact wn_vret rfl rfl ⟨rfl, hf_g6, _, _, c_58_g6, c_59_g6, by rw [← it_end (k := k) (y := y) hWf (p := p) (Or.inr (hC c9))]; exact hP⟩
              · have c9 : ¬ ((ch)) = 0 := c9
                refine wn_ic (pc' := 59) (w := nI 0) rfl rfl (by decide) ?_
                refine wn_st (pc' := 61) (q := 4) (kin := 0) (lv' := [(0, .ref (0)), (1, .int (nI (k))), (2, .int (nI (y))), (3, .ref (ls)), (4, .int (nI (0))), (5, .int (nI (p)))]) rfl (fun _ _ _ => rfl) rfl (Nat.le_of_ble_eq_true rfl) rfl ?_
                refine wn_ic (pc' := 62) (w := nI 0) rfl rfl (by decide) ?_
                refine wn_st (pc' := 64) (q := 6) (kin := 0) (lv' := [(0, .ref (0)), (1, .int (nI (k))), (2, .int (nI (y))), (3, .ref (ls)), (4, .int (nI (0))), (5, .int (nI (p))), (6, .int (nI (0)))]) rfl (fun _ _ _ => rfl) rfl (Nat.le_of_ble_eq_true rfl) rfl ?_
                have lp11 : ∀ (n_lp11 : Nat) (g10 : aH) (la3 : Nat → Int32) (r : Nat) (c9 : Int32), (nrW w) + 1 ≤ r + n_lp11 → Fr [58, 59] h g10 → isI g10 58 40 b_h1 → isI g10 59 24 la3 → r ≤ nrW w → (∀ q, q < nvW w → la3 q = nI (rndA w k y (itA w k y p) r q)) → (c9 = 0 → rndA w k y (itA w k y p) r = itA w k y p) → Wn (Rn (d + 5)) 82 64 [(0, .ref (0)), (1, .int (nI (k))), (2, .int (nI (y))), (3, .ref (ls)), (4, .int (c9)), (5, .int (nI (p))), (6, .int (nI (r)))] [] (g10) (fun r9 h9 => r9 = none ∧ Fr [58, 59] h h9 ∧ ∃ b1 l1, isI h9 58 40 b1 ∧ isI h9 59 24 l1 ∧ ∀ v, v < nvW w → l1 v = nI (itA w k y (nvW w) v)) := by
                  intro n_lp11
                  induction n_lp11 with
                  | zero => intro g10 la3 r c9 hm_lp11 hf_g10 c_58_g10 c_59_g10 hr hR hD; exfalso; omega
                  | succ n_lp11 ih_lp11 =>
                    intro g10 la3 r c9 hm_lp11 hf_g10 c_58_g10 c_59_g10 hr hR hD
                    have V_g10 : XV g10 ls w := XV.frl V hf_g10 (by decide)
                    refine wn_ld (pc' := 66) (q := 6) (kin := 0) (v := .int (nI (r))) rfl (fun _ _ _ => rfl) rfl rfl ?_
                    refine wn_ld (pc' := 67) (q := 3) (kin := 2) (v := .ref (ls)) rfl (fun _ _ _ => rfl) rfl rfl ?_
                    refine wn_get (pc' := 70) (v := .int (nI (nrW w))) rfl rfl ((hf_g10.2 ls (by simp only [List.mem_cons, List.not_mem_nil, or_false]; omega)).trans l0) rfl ?_
                    refine wn_icmpN (t := 165) (f := 73) rfl rfl rfl (by omega) (by omega) (fun c12 => ?_) (fun c12 => ?_)
                    · have c12 : (nrW w) ≤ r := c12
                      obtain rfl : r = nrW w := by omega
                      refine wn_incN (n := 1) (pc' := 168) (lv' := [(0, .ref (0)), (1, .int (nI (k))), (2, .int (nI (y))), (3, .ref (ls)), (4, .int (c9)), (5, .int (nI (p + 1))), (6, .int (nI ((nrW w))))]) rfl rfl rfl (Nat.le_of_ble_eq_true rfl) rfl (by decide) ?_
                      refine wn_jp (pc' := 46) rfl rfl ?_
                      refine wn_weak (lv' := [(0, .ref (0)), (1, .int (nI (k))), (2, .int (nI (y))), (3, .ref (ls)), (4, .int (c9)), (5, .int (nI (p + 1)))]) (by simp) ?_
                      have z9 := ih_lp7 g10 la3 (p + 1) c9 (by omega) hf_g10 c_58_g10 c_59_g10 (by omega) hR (fun q => by have e := hD q; show rndA w k y (rndA w k y (itA w k y p) (nrW w)) (nrW w) = rndA w k y (itA w k y p) (nrW w); rw [e]; exact e)
                      exact z9
                    · have c12 : r < (nrW w) := c12
                      refine wn_ld (pc' := 74) (q := 3) (kin := 2) (v := .ref (ls)) rfl (fun _ _ _ => rfl) rfl rfl ?_
                      refine wn_get (pc' := 77) (v := .ref (ls + 2)) rfl rfl ((hf_g10.2 ls (by simp only [List.mem_cons, List.not_mem_nil, or_false]; omega)).trans l0) rfl ?_
                      refine wn_ld (pc' := 79) (q := 6) (kin := 0) (v := .int (nI (r))) rfl (fun _ _ _ => rfl) rfl rfl ?_
                      have := wf_rdb hWf (show r < nrW w by omega)
                      refine wn_ialdv (pc' := 80) (j := r) (v := (nI (rdA w r))) rfl rfl ((hf_g10.2 (ls + 2) (by simp only [List.mem_cons, List.not_mem_nil, or_false]; omega)).trans l2) rfl (by omega) (by decide) ((g2 r (by omega)).1.trans (wf_rda hWf (by omega))) ?_
                      refine wn_st (pc' := 82) (q := 7) (kin := 0) (lv' := [(0, .ref (0)), (1, .int (nI (k))), (2, .int (nI (y))), (3, .ref (ls)), (4, .int (c9)), (5, .int (nI (p))), (6, .int (nI (r))), (7, .int (nI (rdA w r)))]) rfl (fun _ _ _ => rfl) rfl (Nat.le_of_ble_eq_true rfl) rfl ?_
                      refine wn_ld (pc' := 83) (q := 3) (kin := 2) (v := .ref (ls)) rfl (fun _ _ _ => rfl) rfl rfl ?_
                      refine wn_get (pc' := 86) (v := .ref (ls + 3)) rfl rfl ((hf_g10.2 ls (by simp only [List.mem_cons, List.not_mem_nil, or_false]; omega)).trans l0) rfl ?_
                      refine wn_ld (pc' := 88) (q := 6) (kin := 0) (v := .int (nI (r))) rfl (fun _ _ _ => rfl) rfl rfl ?_
                      have := wf_rdb hWf (show r < nrW w by omega)
                      refine wn_ialdv (pc' := 89) (j := r) (v := (nI (rdB w r))) rfl rfl ((hf_g10.2 (ls + 3) (by simp only [List.mem_cons, List.not_mem_nil, or_false]; omega)).trans l3) rfl (by omega) (by decide) ((g2 r (by omega)).2.1.trans (wf_rdB hWf (by omega))) ?_
                      refine wn_st (pc' := 91) (q := 8) (kin := 0) (lv' := [(0, .ref (0)), (1, .int (nI (k))), (2, .int (nI (y))), (3, .ref (ls)), (4, .int (c9)), (5, .int (nI (p))), (6, .int (nI (r))), (7, .int (nI (rdA w r))), (8, .int (nI (rdB w r)))]) rfl (fun _ _ _ => rfl) rfl (Nat.le_of_ble_eq_true rfl) rfl ?_
                      refine wn_ld (pc' := 92) (q := 0) (kin := 2) (v := .ref (0)) rfl (fun _ _ _ => rfl) rfl rfl ?_
                      refine wn_get (pc' := 95) (v := .ref (58)) rfl rfl ((hf_g10.2 0 (by decide)).trans v1) rfl ?_
                      refine wn_ld (pc' := 97) (q := 6) (kin := 0) (v := .int (nI (r))) rfl (fun _ _ _ => rfl) rfl rfl ?_
                      have := bnW_le hWf y r
                      refine wn_ialdv (pc' := 98) (j := r) (v := (nI (bnW w y r))) rfl rfl c_58_g10 rfl (by omega) (by decide) (bv_h1 r (by omega)) ?_
                      refine wn_ld (pc' := 99) (q := 1) (kin := 0) (v := .int (nI (k))) rfl (fun _ _ _ => rfl) rfl rfl ?_
                      refine wn_icmpN (t := 159) (f := 102) rfl rfl rfl (by omega) (by omega) (fun c13 => ?_) (fun c13 => ?_)
                      · have c13 : k ≤ (bnW w y r) := c13
                        refine wn_incN (n := 1) (pc' := 162) (lv' := [(0, .ref (0)), (1, .int (nI (k))), (2, .int (nI (y))), (3, .ref (ls)), (4, .int (c9)), (5, .int (nI (p))), (6, .int (nI (r + 1))), (7, .int (nI (rdA w r))), (8, .int (nI (rdB w r)))]) rfl rfl rfl (Nat.le_of_ble_eq_true rfl) rfl (by decide) ?_
                        refine wn_jp (pc' := 64) rfl rfl ?_
                        refine wn_weak (lv' := [(0, .ref (0)), (1, .int (nI (k))), (2, .int (nI (y))), (3, .ref (ls)), (4, .int (c9)), (5, .int (nI (p))), (6, .int (nI (r + 1)))]) (by simp) ?_
                        have z9 := ih_lp11 g10 la3 (r + 1) c9 (by omega) hf_g10 c_58_g10 c_59_g10 (by omega) (by rw [show rndA w k y (itA w k y p) (r + 1) = rndA w k y (itA w k y p) r from stpA_f (by omega)]; exact hR) (fun q => (show rndA w k y (itA w k y p) (r + 1) = rndA w k y (itA w k y p) r from stpA_f (by omega)).trans (hD q))
                        exact z9
                      · have c13 : (bnW w y r) < k := c13
                        refine wn_ld (pc' := 103) (q := 0) (kin := 2) (v := .ref (0)) rfl (fun _ _ _ => rfl) rfl rfl ?_
                        refine wn_get (pc' := 106) (v := .ref (59)) rfl rfl ((hf_g10.2 0 (by decide)).trans v1) rfl ?_
                        refine wn_ld (pc' := 108) (q := 7) (kin := 0) (v := .int (nI (rdA w r))) rfl (fun _ _ _ => rfl) rfl rfl ?_
                        have := rnd_le (w := w) (k := k) (y := y) p r (rdA w r)
                        refine wn_ialdv (pc' := 109) (j := rdA w r) (v := (nI (rndA w k y (itA w k y p) r (rdA w r)))) rfl rfl c_59_g10 rfl (by omega) (by decide) (hR (rdA w r) (by omega)) ?_
                        refine wn_ld (pc' := 110) (q := 0) (kin := 2) (v := .ref (0)) rfl (fun _ _ _ => rfl) rfl rfl ?_
                        refine wn_get (pc' := 113) (v := .ref (59)) rfl rfl ((hf_g10.2 0 (by decide)).trans v1) rfl ?_
                        refine wn_ld (pc' := 115) (q := 8) (kin := 0) (v := .int (nI (rdB w r))) rfl (fun _ _ _ => rfl) rfl rfl ?_
                        have := rnd_le (w := w) (k := k) (y := y) p r (rdB w r)
                        refine wn_ialdv (pc' := 116) (j := rdB w r) (v := (nI (rndA w k y (itA w k y p) r (rdB w r)))) rfl rfl c_59_g10 rfl (by omega) (by decide) (hR (rdB w r) (by omega)) ?_
                        refine wn_icmpN (t := 159) (f := 119) rfl rfl rfl (by omega) (by omega) (fun c14 => ?_) (fun c14 => ?_)
                        · have c14 : (rndA w k y (itA w k y p) r (rdA w r)) = (rndA w k y (itA w k y p) r (rdB w r)) := c14
                          refine wn_incN (n := 1) (pc' := 162) (lv' := [(0, .ref (0)), (1, .int (nI (k))), (2, .int (nI (y))), (3, .ref (ls)), (4, .int (c9)), (5, .int (nI (p))), (6, .int (nI (r + 1))), (7, .int (nI (rdA w r))), (8, .int (nI (rdB w r)))]) rfl rfl rfl (Nat.le_of_ble_eq_true rfl) rfl (by decide) ?_
                          refine wn_jp (pc' := 64) rfl rfl ?_
                          refine wn_weak (lv' := [(0, .ref (0)), (1, .int (nI (k))), (2, .int (nI (y))), (3, .ref (ls)), (4, .int (c9)), (5, .int (nI (p))), (6, .int (nI (r + 1)))]) (by simp) ?_
                          have z9 := ih_lp11 g10 la3 (r + 1) c9 (by omega) hf_g10 c_58_g10 c_59_g10 (by omega) (by rw [show rndA w k y (itA w k y p) (r + 1) = rndA w k y (itA w k y p) r from stpA_e (by omega)]; exact hR) (fun q => (show rndA w k y (itA w k y p) (r + 1) = rndA w k y (itA w k y p) r from stpA_e (by omega)).trans (hD q))
                          exact z9
                        · have c14 : ¬ (rndA w k y (itA w k y p) r (rdA w r)) = (rndA w k y (itA w k y p) r (rdB w r)) := c14
                          refine wn_ld (pc' := 120) (q := 0) (kin := 2) (v := .ref (0)) rfl (fun _ _ _ => rfl) rfl rfl ?_
                          refine wn_get (pc' := 123) (v := .ref (59)) rfl rfl ((hf_g10.2 0 (by decide)).trans v1) rfl ?_
                          refine wn_ld (pc' := 125) (q := 7) (kin := 0) (v := .int (nI (rdA w r))) rfl (fun _ _ _ => rfl) rfl rfl ?_
                          have := rnd_le (w := w) (k := k) (y := y) p r (rdA w r)
                          refine wn_ialdv (pc' := 126) (j := rdA w r) (v := (nI (rndA w k y (itA w k y p) r (rdA w r)))) rfl rfl c_59_g10 rfl (by omega) (by decide) (hR (rdA w r) (by omega)) ?_
                          refine wn_ld (pc' := 127) (q := 0) (kin := 2) (v := .ref (0)) rfl (fun _ _ _ => rfl) rfl rfl ?_
                          refine wn_get (pc' := 130) (v := .ref (59)) rfl rfl ((hf_g10.2 0 (by decide)).trans v1) rfl ?_
                          refine wn_ld (pc' := 132) (q := 8) (kin := 0) (v := .int (nI (rdB w r))) rfl (fun _ _ _ => rfl) rfl rfl ?_
                          have := rnd_le (w := w) (k := k) (y := y) p r (rdB w r)
                          refine wn_ialdv (pc' := 133) (j := rdB w r) (v := (nI (rndA w k y (itA w k y p) r (rdB w r)))) rfl rfl c_59_g10 rfl (by omega) (by decide) (hR (rdB w r) (by omega)) ?_
                          refine wn_minN (pc' := 136) rfl rfl (Nat.le_of_ble_eq_true rfl) (by omega) (by omega) ?_
                          refine wn_st (pc' := 138) (q := 9) (kin := 0) (lv' := [(0, .ref (0)), (1, .int (nI (k))), (2, .int (nI (y))), (3, .ref (ls)), (4, .int (c9)), (5, .int (nI (p))), (6, .int (nI (r))), (7, .int (nI (rdA w r))), (8, .int (nI (rdB w r))), (9, .int (nI (min (rndA w k y (itA w k y p) r (rdA w r)) (rndA w k y (itA w k y p) r (rdB w r)))))]) rfl (fun _ _ _ => rfl) rfl (Nat.le_of_ble_eq_true rfl) rfl ?_
                          refine wn_ld (pc' := 139) (q := 0) (kin := 2) (v := .ref (0)) rfl (fun _ _ _ => rfl) rfl rfl ?_
                          refine wn_get (pc' := 142) (v := .ref (59)) rfl rfl ((hf_g10.2 0 (by decide)).trans v1) rfl ?_
                          refine wn_ld (pc' := 144) (q := 7) (kin := 0) (v := .int (nI (rdA w r))) rfl (fun _ _ _ => rfl) rfl rfl ?_
                          refine wn_ld (pc' := 146) (q := 9) (kin := 0) (v := .int (nI (min (rndA w k y (itA w k y p) r (rdA w r)) (rndA w k y (itA w k y p) r (rdB w r))))) rfl (fun _ _ _ => rfl) rfl rfl ?_
                          refine wn_iast (pc' := 147) (j := rdA w r) rfl rfl c_59_g10 rfl (by omega) (by decide) ?_
                          refine wn_ld (pc' := 148) (q := 0) (kin := 2) (v := .ref (0)) rfl (fun _ _ _ => rfl) rfl rfl ?_
                          refine wn_get (pc' := 151) (v := .ref (59)) rfl rfl (gs_ne (by decide) ((hf_g10.2 0 (by decide)).trans v1)) rfl ?_
                          refine wn_ld (pc' := 153) (q := 8) (kin := 0) (v := .int (nI (rdB w r))) rfl (fun _ _ _ => rfl) rfl rfl ?_
                          refine wn_ld (pc' := 155) (q := 9) (kin := 0) (v := .int (nI (min (rndA w k y (itA w k y p) r (rdA w r)) (rndA w k y (itA w k y p) r (rdB w r))))) rfl (fun _ _ _ => rfl) rfl rfl ?_
                          refine wn_iast (pc' := 156) (j := rdB w r) rfl rfl (gs_self c_59_g10) rfl (by omega) (by decide) ?_
                          refine wn_ic (pc' := 157) (w := nI 1) rfl rfl (by decide) ?_
                          refine wn_st (pc' := 159) (q := 4) (kin := 0) (lv' := [(0, .ref (0)), (1, .int (nI (k))), (2, .int (nI (y))), (3, .ref (ls)), (4, .int (nI (1))), (5, .int (nI (p))), (6, .int (nI (r))), (7, .int (nI (rdA w r))), (8, .int (nI (rdB w r))), (9, .int (nI (min (rndA w k y (itA w k y p) r (rdA w r)) (rndA w k y (itA w k y p) r (rdB w r)))))]) rfl (fun _ _ _ => rfl) rfl (Nat.le_of_ble_eq_true rfl) rfl ?_
                          refine wn_incN (n := 1) (pc' := 162) (lv' := [(0, .ref (0)), (1, .int (nI (k))), (2, .int (nI (y))), (3, .ref (ls)), (4, .int (nI (1))), (5, .int (nI (p))), (6, .int (nI (r + 1))), (7, .int (nI (rdA w r))), (8, .int (nI (rdB w r))), (9, .int (nI (min (rndA w k y (itA w k y p) r (rdA w r)) (rndA w k y (itA w k y p) r (rdB w r)))))]) rfl rfl rfl (Nat.le_of_ble_eq_true rfl) rfl (by decide) ?_
                          refine wn_jp (pc' := 64) rfl rfl ?_
                          refine wn_weak (lv' := [(0, .ref (0)), (1, .int (nI (k))), (2, .int (nI (y))), (3, .ref (ls)), (4, .int (nI (1))), (5, .int (nI (p))), (6, .int (nI (r + 1)))]) (by simp) ?_
                          have z9 := ih_lp11 ((g10.set 59 (.inl (0, 24, .inl (upd la3 (rdA w r) ((nI (min (rndA w k y (itA w k y p) r (rdA w r)) (rndA w k y (itA w k y p) r (rdB w r))))))))).set 59 (.inl (0, 24, .inl (upd (upd la3 (rdA w r) ((nI (min (rndA w k y (itA w k y p) r (rdA w r)) (rndA w k y (itA w k y p) r (rdB w r)))))) (rdB w r) ((nI (min (rndA w k y (itA w k y p) r (rdA w r)) (rndA w k y (itA w k y p) r (rdB w r))))))))) (upd (upd la3 (rdA w r) ((nI (min (rndA w k y (itA w k y p) r (rdA w r)) (rndA w k y (itA w k y p) r (rdB w r)))))) (rdB w r) ((nI (min (rndA w k y (itA w k y p) r (rdA w r)) (rndA w k y (itA w k y p) r (rdB w r)))))) (r + 1) (nI 1) (by omega) (Fr.st (Fr.st hf_g10 (by decide)) (by decide)) (gs_ne (by decide) (gs_ne (by decide) c_58_g10)) (gs_self (gs_self c_59_g10)) (by omega) (lab_upd hR c13) (fun q => absurd q (by decide))
                          exact z9
                refine wn_weak (lv' := [(0, .ref (0)), (1, .int (nI (k))), (2, .int (nI (y))), (3, .ref (ls)), (4, .int (nI (0))), (5, .int (nI (p))), (6, .int (nI (0)))]) (by simp) ?_
                have z9 := lp11 ((nrW w) + 1) g6 la2 0 (nI 0) (by omega) hf_g6 c_58_g6 c_59_g6 (by omega) hP (fun _ => rfl)
                exact z9
        refine wn_weak (lv' := [(0, .ref (0)), (1, .int (nI (k))), (2, .int (nI (y))), (3, .ref (ls)), (4, .int (nI (1))), (5, .int (nI (0)))]) (by simp) ?_
        have z9 := lp7 (24 + 1) g3 la1 0 (nI 1) (by omega) hf_g3 c_58_g3 c_59_g3 (by omega) hL (fun q => absurd q (by decide))
        exact z9
      · have c5 : v < (nvW w) := c5
        refine wn_ld (pc' := 26) (q := 0) (kin := 2) (v := .ref (0)) rfl (fun _ _ _ => rfl) rfl rfl ?_
        refine wn_get (pc' := 29) (v := .ref (59)) rfl rfl ((hf_g3.2 0 (by decide)).trans v1) rfl ?_
        refine wn_ld (pc' := 31) (q := 4) (kin := 0) (v := .int (nI (v))) rfl (fun _ _ _ => rfl) rfl rfl ?_
        refine wn_ld (pc' := 33) (q := 4) (kin := 0) (v := .int (nI (v))) rfl (fun _ _ _ => rfl) rfl rfl ?_
        refine wn_iast (pc' := 34) (j := v) rfl rfl c_59_g3 rfl (by omega) (by decide) ?_
        refine wn_incN (n := 1) (pc' := 37) (lv' := [(0, .ref (0)), (1, .int (nI (k))), (2, .int (nI (y))), (3, .ref (ls)), (4, .int (nI (v + 1)))]) rfl rfl rfl (Nat.le_of_ble_eq_true rfl) rfl (by decide) ?_
        refine wn_jp (pc' := 16) rfl rfl ?_
        refine wn_weak (lv' := [(0, .ref (0)), (1, .int (nI (k))), (2, .int (nI (y))), (3, .ref (ls)), (4, .int (nI (v + 1)))]) (by simp) ?_
        have z9 := ih_lp4 (g3.set 59 (.inl (0, 24, .inl (upd la1 (v) ((nI (v))))))) (upd la1 (v) ((nI (v)))) (v + 1) (by omega) (Fr.st hf_g3 (by decide)) (gs_ne (by decide) c_58_g3) (gs_self c_59_g3) (by omega) (fun q hq => by by_cases e : q = v; (subst e; exact pk_us); (rw [pk_un (by omega)]; exact hL q (by omega)))
        exact z9
  refine wn_weak (lv' := [(0, .ref (0)), (1, .int (nI (k))), (2, .int (nI (y))), (3, .ref (ls)), (4, .int (nI (0)))]) (by simp) ?_
  have z9 := lp4 ((nvW w) + 1) h1 lb 0 (by omega) f2_h1 i_h1 ((f_h1.2 59 (by decide)).trans b9) (by omega) (fun _ q => absurd q (by omega))
  exact z9

theorem RX.s89 {h g g' : aH} {ls : Nat} {w f l : Nat → Int32} (R : RX h g ls w) (F : Fr [58, 59] g g') (H : isI g' 58 40 f) (L : isI g' 59 24 l) : RX h g' ls w := by
  obtain ⟨r1, r2, r3, bu, lb, ft, ta, un, a58, a59, a60, a61, a62⟩ := R
  exact ⟨F.1.trans r1, fun q hq => (F.2 q (by simp only [List.mem_cons, List.not_mem_nil, or_false]; omega)).trans (r2 q hq), r3.kp (fun q h1 h2 => F.2 q (by simp only [List.mem_cons, List.not_mem_nil, or_false]; omega)), _, _, ft, ta, un, H, L, a60.kp (F.2 _ (by decide)), a61.kp (F.2 _ (by decide)), a62.kp (F.2 _ (by decide))⟩
theorem x_area (d : Nat) (h : aH) (ls : Nat) (w : Nat → Int32) (hWf : WfW w) (V : XV h ls w) (R0 : RX h h ls w) (v k y : Int32) : Sp (Rn (d + 7)) 81 [.ref (0), .int (v), .int (k), .int (y)] h (fun r9 h9 => r9 = some (.int (areaA w v k y)) ∧ RX h h9 ls w) := by
  obtain ⟨⟨e1, e2⟩, ⟨e3, e4⟩, ⟨e5, e6⟩⟩ := Wf_n hWf
  obtain ⟨⟨e7, e8⟩, ⟨e9, e10⟩⟩ := Wf_m hWf
  obtain ⟨v0, ⟨x9, v1⟩, ⟨v2, ⟨sz, rf, rt, rv, ag, vr, sd, tl, l0, l1, l2, l3, l4, l5, l6, l7, l8, g1, g2, g3, g4, g5⟩, ⟨sec, it, fi, se, sg, lst, rs, rp, pj, pk, pv, k0, k1, k2, k3, k4, k5, k6, k7, k8, k9, k10, k11, k12, k13⟩, ⟨hv, hc, y0, y1, y2, y3, y4⟩, ⟨an, wk, n0, n1, n2, n3, n4⟩⟩, v3⟩ := id V
  rw [e1, e3, e5] at l0
  rw [e7, e9] at k1
  refine Sp_of (by decide) (Nat.le_of_ble_eq_true rfl) ?_
  show Wn _ _ 0 [(0, .ref (0)), (1, .int (v)), (2, .int (k)), (3, .int (y))] [] _ _
  refine wn_ld (pc' := 1) (q := 0) (kin := 2) (v := .ref (0)) rfl (fun _ _ _ => rfl) rfl rfl ?_
  refine wn_ld (pc' := 2) (q := 1) (kin := 0) (v := .int (v)) rfl (fun _ _ _ => rfl) rfl rfl ?_
  refine wn_virI (pc' := 5) rfl rfl (by decide) rfl rfl v1 (Nat.le_of_ble_eq_true rfl) (x_hasVillage _ _ ls w hWf V _) ?_
  refine wn_ifeqB (t := 27) (f := 8) rfl rfl rfl (fun c1 => ?_) (fun c1 => ?_)
  · have c1 : ¬ (iin v (nvW w)) := c1
    refine wn_bp (pc' := 29) (w := -2) rfl rfl (by decide) ?_
    try simp only [Int32.lt_iff_toInt_lt, Int32.le_iff_toInt_le, i2l_int, Int32.toInt_zero, iin] at c1
    refine wn_iret rfl rfl rfl ⟨congrArg (fun z => some (Value.int z)) ?_, (RY.rx (RY.rfl' R0.2.2.1) R0.2.2.2)⟩
    unfold areaA
    rw [qI_f (by simp only [iin]; omega)]
  · have c1 : (iin v (nvW w)) := c1
    obtain ⟨v9, hv9, rfl⟩ := iin_of c1
    have ti_v := nI_toInt (n := v9) (show v9 < 2 ^ 31 by omega)
    have cl_v := nI_clamp (n := v9) (show v9 < 2 ^ 31 by omega)
    refine wn_ld (pc' := 9) (q := 2) (kin := 0) (v := .int (k)) rfl (fun _ _ _ => rfl) rfl rfl ?_
    refine wn_ic (pc' := 10) (w := nI 1) rfl rfl (by decide) ?_
    refine wn_icmp (t := 27) (f := 13) rfl rfl rfl (fun c2 => ?_) (fun c2 => ?_)
    · have c2 : ((k)) < ((nI (1))) := c2
      refine wn_bp (pc' := 29) (w := -2) rfl rfl (by decide) ?_
      have en1 : (nI 1).toInt = 1 := by decide
      try simp only [Int32.lt_iff_toInt_lt, Int32.le_iff_toInt_le, i2l_int, Int32.toInt_zero, iin] at c1
      try simp only [Int32.lt_iff_toInt_lt, Int32.le_iff_toInt_le, i2l_int, Int32.toInt_zero, iin] at c2
      refine wn_iret rfl rfl rfl ⟨congrArg (fun z => some (Value.int z)) ?_, (RY.rx (RY.rfl' R0.2.2.1) R0.2.2.2)⟩
      unfold areaA
      rw [qI_f (by simp only [iin]; omega)]
    · have c2 : ((nI (1))) ≤ ((k)) := c2
      refine wn_ld (pc' := 14) (q := 2) (kin := 0) (v := .int (k)) rfl (fun _ _ _ => rfl) rfl rfl ?_
      refine wn_bp (pc' := 16) (w := nI 11) rfl rfl (by decide) ?_
      refine wn_icmp (t := 27) (f := 19) rfl rfl rfl (fun c3 => ?_) (fun c3 => ?_)
      · have c3 : ((nI (11))) < ((k)) := c3
        refine wn_bp (pc' := 29) (w := -2) rfl rfl (by decide) ?_
        have en1 : (nI 1).toInt = 1 := by decide
        have en11 : (nI 11).toInt = 11 := by decide
        try simp only [Int32.lt_iff_toInt_lt, Int32.le_iff_toInt_le, i2l_int, Int32.toInt_zero, iin] at c1
        try simp only [Int32.lt_iff_toInt_lt, Int32.le_iff_toInt_le, i2l_int, Int32.toInt_zero, iin] at c2
        try simp only [Int32.lt_iff_toInt_lt, Int32.le_iff_toInt_le, i2l_int, Int32.toInt_zero, iin] at c3
        refine wn_iret rfl rfl rfl ⟨congrArg (fun z => some (Value.int z)) ?_, (RY.rx (RY.rfl' R0.2.2.1) R0.2.2.2)⟩
        unfold areaA
        rw [qI_f (by simp only [iin]; omega)]
      · have c3 : ((k)) ≤ ((nI (11))) := c3
        have e1k : (nI 1).toInt = 1 := by decide
        have e11k : (nI 11).toInt = 11 := by decide
        have kk1 := Int32.le_iff_toInt_le.mp c2
        have kk2 := Int32.le_iff_toInt_le.mp c3
        obtain ⟨k9, hk1, hk9, rfl⟩ := k11_of (x := k) (by omega) (by omega)
        have ti_k := nI_toInt (n := k9) (show k9 < 2 ^ 31 by omega)
        have cl_k := nI_clamp (n := k9) (show k9 < 2 ^ 31 by omega)
        refine wn_ld (pc' := 20) (q := 0) (kin := 2) (v := .ref (0)) rfl (fun _ _ _ => rfl) rfl rfl ?_
        refine wn_ld (pc' := 21) (q := 3) (kin := 0) (v := .int (y)) rfl (fun _ _ _ => rfl) rfl rfl ?_
        refine wn_virS (pc' := 24) rfl rfl (by decide) rfl rfl v1 (Nat.le_of_ble_eq_true rfl) (x_reachesYear _ _ ls w hWf V R0.2.2.1 y) (fun r9 h4 e5 => ?_)
        obtain ⟨rfl, R_h4, Ra_h4⟩ := e5
        have RY_h4 := RY.tr (RY.rfl' R0.2.2.1) R_h4
        have V_h4 := RY_h4.xv V
        obtain ⟨v0_h4, ⟨x9_h4, v1_h4⟩, ⟨v2_h4, ⟨sz_h4, rf_h4, rt_h4, rv_h4, ag_h4, vr_h4, sd_h4, tl_h4, l0_h4, l1_h4, l2_h4, l3_h4, l4_h4, l5_h4, l6_h4, l7_h4, l8_h4, g1_h4, g2_h4, g3_h4, g4_h4, g5_h4⟩, ⟨sec_h4, it_h4, fi_h4, se_h4, sg_h4, lst_h4, rs_h4, rp_h4, pj_h4, pk_h4, pv_h4, k0_h4, k1_h4, k2_h4, k3_h4, k4_h4, k5_h4, k6_h4, k7_h4, k8_h4, k9_h4, k10_h4, k11_h4, k12_h4, k13_h4⟩, ⟨hv_h4, hc_h4, y0_h4, y1_h4, y2_h4, y3_h4, y4_h4⟩, ⟨an_h4, wk_h4, n0_h4, n1_h4, n2_h4, n3_h4, n4_h4⟩⟩, v3_h4⟩ := id V_h4
        rw [e1, e3, e5] at l0_h4
        rw [e7, e9] at k1_h4
        show Wn _ _ 24 _ [.int (bI (iin y 61))] h4 _
        refine wn_ifneB (t := 30) (f := 27) rfl rfl rfl (fun c6 => ?_) (fun c6 => ?_)
        · have c6 : (iin y 61) := c6
          obtain ⟨y9, hy9, rfl⟩ := iin_of c6
          have ti_y := nI_toInt (n := y9) (show y9 < 2 ^ 31 by omega)
          have cl_y := nI_clamp (n := y9) (show y9 < 2 ^ 31 by omega)
          have Rd_h4 : ∀ i, i < ntW w → Rch h4 w i y9 := by have q := Ra_h4 c6; rw [cl_y] at q; exact q
          refine wn_ld (pc' := 31) (q := 0) (kin := 2) (v := .ref (0)) rfl (fun _ _ _ => rfl) rfl rfl ?_
          refine wn_ld (pc' := 32) (q := 2) (kin := 0) (v := .int (nI (k9))) rfl (fun _ _ _ => rfl) rfl rfl ?_
          refine wn_ld (pc' := 33) (q := 3) (kin := 0) (v := .int (nI (y9))) rfl (fun _ _ _ => rfl) rfl rfl ?_
          refine wn_virS (pc' := 36) rfl rfl (by decide) rfl rfl v1_h4 (Nat.le_of_ble_eq_true rfl) (x_labelAreas _ _ ls w hWf V_h4 _ _ (ScrX.i58 (RY.rx RY_h4 R0.2.2.2).2.2.2).choose_spec (ScrX.i59 (RY.rx RY_h4 R0.2.2.2).2.2.2).choose_spec k9 (by omega) y9 (by omega) Rd_h4) (fun r9 h7 e8 => ?_)
          obtain ⟨rfl, f_h7, b_h7, l_h7, i8_h7, i9_h7, lv_h7⟩ := e8
          have RX_h7 := RX.s89 (RY.rx RY_h4 R0.2.2.2) f_h7 i8_h7 i9_h7
          have V_h7 := RX_h7.xv V
          obtain ⟨v0_h7, ⟨x9_h7, v1_h7⟩, ⟨v2_h7, ⟨sz_h7, rf_h7, rt_h7, rv_h7, ag_h7, vr_h7, sd_h7, tl_h7, l0_h7, l1_h7, l2_h7, l3_h7, l4_h7, l5_h7, l6_h7, l7_h7, l8_h7, g1_h7, g2_h7, g3_h7, g4_h7, g5_h7⟩, ⟨sec_h7, it_h7, fi_h7, se_h7, sg_h7, lst_h7, rs_h7, rp_h7, pj_h7, pk_h7, pv_h7, k0_h7, k1_h7, k2_h7, k3_h7, k4_h7, k5_h7, k6_h7, k7_h7, k8_h7, k9_h7, k10_h7, k11_h7, k12_h7, k13_h7⟩, ⟨hv_h7, hc_h7, y0_h7, y1_h7, y2_h7, y3_h7, y4_h7⟩, ⟨an_h7, wk_h7, n0_h7, n1_h7, n2_h7, n3_h7, n4_h7⟩⟩, v3_h7⟩ := id V_h7
          rw [e1, e3, e5] at l0_h7
          rw [e7, e9] at k1_h7
          show Wn _ _ 36 _ [] h7 _
          refine wn_ld (pc' := 37) (q := 0) (kin := 2) (v := .ref (0)) rfl (fun _ _ _ => rfl) rfl rfl ?_
          refine wn_get (pc' := 40) (v := .ref (59)) rfl rfl v1_h7 rfl ?_
          refine wn_ld (pc' := 41) (q := 1) (kin := 0) (v := .int (nI (v9))) rfl (fun _ _ _ => rfl) rfl rfl ?_
          have := itA_le (w := w) (k := k9) (y := y9) (nvW w) v9
          refine wn_ialdv (pc' := 42) (j := v9) (v := (nI (itA w k9 y9 (nvW w) v9))) rfl rfl i9_h7 rfl (by omega) (by decide) (lv_h7 v9 (by omega)) ?_
          have en1 : (nI 1).toInt = 1 := by decide
          have en11 : (nI 11).toInt = 11 := by decide
          try simp only [Int32.lt_iff_toInt_lt, Int32.le_iff_toInt_le, i2l_int, Int32.toInt_zero, iin] at c1
          try simp only [Int32.lt_iff_toInt_lt, Int32.le_iff_toInt_le, i2l_int, Int32.toInt_zero, iin] at c2
          try simp only [Int32.lt_iff_toInt_lt, Int32.le_iff_toInt_le, i2l_int, Int32.toInt_zero, iin] at c3
          try simp only [Int32.lt_iff_toInt_lt, Int32.le_iff_toInt_le, i2l_int, Int32.toInt_zero, iin] at c6
          refine wn_iret rfl rfl rfl ⟨congrArg (fun z => some (Value.int z)) ?_, RX_h7⟩
          unfold areaA
          rw [qI_t (by simp only [iin]; omega)]
          first | rfl | (simp only [cl_v, cl_k, cl_y]; done) | (simp only [cl_v, cl_k, cl_y]; rfl)
        · have c6 : ¬ (iin y 61) := c6
          refine wn_bp (pc' := 29) (w := -2) rfl rfl (by decide) ?_
          have en1 : (nI 1).toInt = 1 := by decide
          have en11 : (nI 11).toInt = 11 := by decide
          try simp only [Int32.lt_iff_toInt_lt, Int32.le_iff_toInt_le, i2l_int, Int32.toInt_zero, iin] at c1
          try simp only [Int32.lt_iff_toInt_lt, Int32.le_iff_toInt_le, i2l_int, Int32.toInt_zero, iin] at c2
          try simp only [Int32.lt_iff_toInt_lt, Int32.le_iff_toInt_le, i2l_int, Int32.toInt_zero, iin] at c3
          try simp only [Int32.lt_iff_toInt_lt, Int32.le_iff_toInt_le, i2l_int, Int32.toInt_zero, iin] at c6
          refine wn_iret rfl rfl rfl ⟨congrArg (fun z => some (Value.int z)) ?_, (RY.rx RY_h4 R0.2.2.2)⟩
          unfold areaA
          rw [qI_f (by simp only [iin]; omega)]

theorem x_areas (d : Nat) (h : aH) (ls : Nat) (w : Nat → Int32) (hWf : WfW w) (V : XV h ls w) (R0 : RX h h ls w) (k y : Int32) : Sp (Rn (d + 7)) 80 [.ref (0), .int (k), .int (y)] h (fun r9 h9 => r9 = some (.int (areasA w k y)) ∧ RX h h9 ls w) := by
  obtain ⟨⟨e1, e2⟩, ⟨e3, e4⟩, ⟨e5, e6⟩⟩ := Wf_n hWf
  obtain ⟨⟨e7, e8⟩, ⟨e9, e10⟩⟩ := Wf_m hWf
  obtain ⟨v0, ⟨x9, v1⟩, ⟨v2, ⟨sz, rf, rt, rv, ag, vr, sd, tl, l0, l1, l2, l3, l4, l5, l6, l7, l8, g1, g2, g3, g4, g5⟩, ⟨sec, it, fi, se, sg, lst, rs, rp, pj, pk, pv, k0, k1, k2, k3, k4, k5, k6, k7, k8, k9, k10, k11, k12, k13⟩, ⟨hv, hc, y0, y1, y2, y3, y4⟩, ⟨an, wk, n0, n1, n2, n3, n4⟩⟩, v3⟩ := id V
  rw [e1, e3, e5] at l0
  rw [e7, e9] at k1
  refine Sp_of (by decide) (Nat.le_of_ble_eq_true rfl) ?_
  show Wn _ _ 0 [(0, .ref (0)), (1, .int (k)), (2, .int (y))] [] _ _
  refine wn_ld (pc' := 1) (q := 1) (kin := 0) (v := .int (k)) rfl (fun _ _ _ => rfl) rfl rfl ?_
  refine wn_ic (pc' := 2) (w := nI 1) rfl rfl (by decide) ?_
  refine wn_icmp (t := 19) (f := 5) rfl rfl rfl (fun c1 => ?_) (fun c1 => ?_)
  · have c1 : ((k)) < ((nI (1))) := c1
    refine wn_bp (pc' := 21) (w := -2) rfl rfl (by decide) ?_
    have en1 : (nI 1).toInt = 1 := by decide
    try simp only [Int32.lt_iff_toInt_lt, Int32.le_iff_toInt_le, i2l_int, Int32.toInt_zero, iin] at c1
    refine wn_iret rfl rfl rfl ⟨congrArg (fun z => some (Value.int z)) ?_, (RY.rx (RY.rfl' R0.2.2.1) R0.2.2.2)⟩
    unfold areasA
    rw [qI_f (by simp only [iin]; omega)]
  · have c1 : ((nI (1))) ≤ ((k)) := c1
    refine wn_ld (pc' := 6) (q := 1) (kin := 0) (v := .int (k)) rfl (fun _ _ _ => rfl) rfl rfl ?_
    refine wn_bp (pc' := 8) (w := nI 11) rfl rfl (by decide) ?_
    refine wn_icmp (t := 19) (f := 11) rfl rfl rfl (fun c2 => ?_) (fun c2 => ?_)
    · have c2 : ((nI (11))) < ((k)) := c2
      refine wn_bp (pc' := 21) (w := -2) rfl rfl (by decide) ?_
      have en1 : (nI 1).toInt = 1 := by decide
      have en11 : (nI 11).toInt = 11 := by decide
      try simp only [Int32.lt_iff_toInt_lt, Int32.le_iff_toInt_le, i2l_int, Int32.toInt_zero, iin] at c1
      try simp only [Int32.lt_iff_toInt_lt, Int32.le_iff_toInt_le, i2l_int, Int32.toInt_zero, iin] at c2
      refine wn_iret rfl rfl rfl ⟨congrArg (fun z => some (Value.int z)) ?_, (RY.rx (RY.rfl' R0.2.2.1) R0.2.2.2)⟩
      unfold areasA
      rw [qI_f (by simp only [iin]; omega)]
    · have c2 : ((k)) ≤ ((nI (11))) := c2
      have e1k : (nI 1).toInt = 1 := by decide
      have e11k : (nI 11).toInt = 11 := by decide
      have kk1 := Int32.le_iff_toInt_le.mp c1
      have kk2 := Int32.le_iff_toInt_le.mp c2
      obtain ⟨k9, hk1, hk9, rfl⟩ := k11_of (x := k) (by omega) (by omega)
      have ti_k := nI_toInt (n := k9) (show k9 < 2 ^ 31 by omega)
      have cl_k := nI_clamp (n := k9) (show k9 < 2 ^ 31 by omega)
      refine wn_ld (pc' := 12) (q := 0) (kin := 2) (v := .ref (0)) rfl (fun _ _ _ => rfl) rfl rfl ?_
      refine wn_ld (pc' := 13) (q := 2) (kin := 0) (v := .int (y)) rfl (fun _ _ _ => rfl) rfl rfl ?_
      refine wn_virS (pc' := 16) rfl rfl (by decide) rfl rfl v1 (Nat.le_of_ble_eq_true rfl) (x_reachesYear _ _ ls w hWf V R0.2.2.1 y) (fun r9 h3 e4 => ?_)
      obtain ⟨rfl, R_h3, Ra_h3⟩ := e4
      have RY_h3 := RY.tr (RY.rfl' R0.2.2.1) R_h3
      have V_h3 := RY_h3.xv V
      obtain ⟨v0_h3, ⟨x9_h3, v1_h3⟩, ⟨v2_h3, ⟨sz_h3, rf_h3, rt_h3, rv_h3, ag_h3, vr_h3, sd_h3, tl_h3, l0_h3, l1_h3, l2_h3, l3_h3, l4_h3, l5_h3, l6_h3, l7_h3, l8_h3, g1_h3, g2_h3, g3_h3, g4_h3, g5_h3⟩, ⟨sec_h3, it_h3, fi_h3, se_h3, sg_h3, lst_h3, rs_h3, rp_h3, pj_h3, pk_h3, pv_h3, k0_h3, k1_h3, k2_h3, k3_h3, k4_h3, k5_h3, k6_h3, k7_h3, k8_h3, k9_h3, k10_h3, k11_h3, k12_h3, k13_h3⟩, ⟨hv_h3, hc_h3, y0_h3, y1_h3, y2_h3, y3_h3, y4_h3⟩, ⟨an_h3, wk_h3, n0_h3, n1_h3, n2_h3, n3_h3, n4_h3⟩⟩, v3_h3⟩ := id V_h3
      rw [e1, e3, e5] at l0_h3
      rw [e7, e9] at k1_h3
      show Wn _ _ 16 _ [.int (bI (iin y 61))] h3 _
      refine wn_ifneB (t := 22) (f := 19) rfl rfl rfl (fun c5 => ?_) (fun c5 => ?_)
      · have c5 : (iin y 61) := c5
        obtain ⟨y9, hy9, rfl⟩ := iin_of c5
        have ti_y := nI_toInt (n := y9) (show y9 < 2 ^ 31 by omega)
        have cl_y := nI_clamp (n := y9) (show y9 < 2 ^ 31 by omega)
        have Rd_h3 : ∀ i, i < ntW w → Rch h3 w i y9 := by have q := Ra_h3 c5; rw [cl_y] at q; exact q
        refine wn_ld (pc' := 23) (q := 0) (kin := 2) (v := .ref (0)) rfl (fun _ _ _ => rfl) rfl rfl ?_
        refine wn_ld (pc' := 24) (q := 1) (kin := 0) (v := .int (nI (k9))) rfl (fun _ _ _ => rfl) rfl rfl ?_
        refine wn_ld (pc' := 25) (q := 2) (kin := 0) (v := .int (nI (y9))) rfl (fun _ _ _ => rfl) rfl rfl ?_
        refine wn_virS (pc' := 28) rfl rfl (by decide) rfl rfl v1_h3 (Nat.le_of_ble_eq_true rfl) (x_labelAreas _ _ ls w hWf V_h3 _ _ (ScrX.i58 (RY.rx RY_h3 R0.2.2.2).2.2.2).choose_spec (ScrX.i59 (RY.rx RY_h3 R0.2.2.2).2.2.2).choose_spec k9 (by omega) y9 (by omega) Rd_h3) (fun r9 h6 e7 => ?_)
        obtain ⟨rfl, f_h6, b_h6, l_h6, i8_h6, i9_h6, lv_h6⟩ := e7
        have RX_h6 := RX.s89 (RY.rx RY_h3 R0.2.2.2) f_h6 i8_h6 i9_h6
        have V_h6 := RX_h6.xv V
        obtain ⟨v0_h6, ⟨x9_h6, v1_h6⟩, ⟨v2_h6, ⟨sz_h6, rf_h6, rt_h6, rv_h6, ag_h6, vr_h6, sd_h6, tl_h6, l0_h6, l1_h6, l2_h6, l3_h6, l4_h6, l5_h6, l6_h6, l7_h6, l8_h6, g1_h6, g2_h6, g3_h6, g4_h6, g5_h6⟩, ⟨sec_h6, it_h6, fi_h6, se_h6, sg_h6, lst_h6, rs_h6, rp_h6, pj_h6, pk_h6, pv_h6, k0_h6, k1_h6, k2_h6, k3_h6, k4_h6, k5_h6, k6_h6, k7_h6, k8_h6, k9_h6, k10_h6, k11_h6, k12_h6, k13_h6⟩, ⟨hv_h6, hc_h6, y0_h6, y1_h6, y2_h6, y3_h6, y4_h6⟩, ⟨an_h6, wk_h6, n0_h6, n1_h6, n2_h6, n3_h6, n4_h6⟩⟩, v3_h6⟩ := id V_h6
        rw [e1, e3, e5] at l0_h6
        rw [e7, e9] at k1_h6
        show Wn _ _ 28 _ [] h6 _
        refine wn_ic (pc' := 29) (w := nI 0) rfl rfl (by decide) ?_
        refine wn_st (pc' := 30) (q := 3) (kin := 0) (lv' := [(0, .ref (0)), (1, .int (nI (k9))), (2, .int (nI (y9))), (3, .int (nI (0)))]) rfl (fun _ _ _ => rfl) rfl (Nat.le_of_ble_eq_true rfl) rfl ?_
        refine wn_ic (pc' := 31) (w := nI 0) rfl rfl (by decide) ?_
        refine wn_st (pc' := 33) (q := 4) (kin := 0) (lv' := [(0, .ref (0)), (1, .int (nI (k9))), (2, .int (nI (y9))), (3, .int (nI (0))), (4, .int (nI (0)))]) rfl (fun _ _ _ => rfl) rfl (Nat.le_of_ble_eq_true rfl) rfl ?_
        have lp8 : ∀ (n_lp8 : Nat) (v : Nat), (nvW w) + 1 ≤ v + n_lp8 → v ≤ nvW w → Wn (Rn (d + 6)) 80 33 [(0, .ref (0)), (1, .int (nI (k9))), (2, .int (nI (y9))), (3, .int (nI (cntP (fun x7 => itA w k9 y9 (nvW w) x7 = x7) v))), (4, .int (nI (v)))] [] (h6) (fun r9 h9 => r9 = some (.int (areasA w (nI k9) (nI y9))) ∧ RX h h9 ls w) := by
          intro n_lp8
          induction n_lp8 with
          | zero => intro v hm_lp8 hk_v; exfalso; omega
          | succ n_lp8 ih_lp8 =>
            intro v hm_lp8 hk_v
            have := cntP_le (fun x7 => itA w k9 y9 (nvW w) x7 = x7) v
            refine wn_ld (pc' := 35) (q := 4) (kin := 0) (v := .int (nI (v))) rfl (fun _ _ _ => rfl) rfl rfl ?_
            refine wn_ld (pc' := 36) (q := 0) (kin := 2) (v := .ref (0)) rfl (fun _ _ _ => rfl) rfl rfl ?_
            refine wn_get (pc' := 39) (v := .ref (23)) rfl rfl v1_h6 rfl ?_
            refine wn_get (pc' := 42) (v := .ref (ls)) rfl rfl v2_h6 rfl ?_
            refine wn_get (pc' := 45) (v := .int (nI (nvW w))) rfl rfl l0_h6 rfl ?_
            refine wn_icmpN (t := 69) (f := 48) rfl rfl rfl (by omega) (by omega) (fun c9 => ?_) (fun c9 => ?_)
            · have c9 : (nvW w) ≤ v := c9
              obtain rfl : v = nvW w := by omega
              refine wn_ld (pc' := 70) (q := 3) (kin := 0) (v := .int (nI (cntP (fun x7 => itA w k9 y9 (nvW w) x7 = x7) (nvW w)))) rfl (fun _ _ _ => rfl) rfl rfl ?_
              have en1 : (nI 1).toInt = 1 := by decide
              have en11 : (nI 11).toInt = 11 := by decide
              try simp only [Int32.lt_iff_toInt_lt, Int32.le_iff_toInt_le, i2l_int, Int32.toInt_zero, iin] at c1
              try simp only [Int32.lt_iff_toInt_lt, Int32.le_iff_toInt_le, i2l_int, Int32.toInt_zero, iin] at c2
              try simp only [Int32.lt_iff_toInt_lt, Int32.le_iff_toInt_le, i2l_int, Int32.toInt_zero, iin] at c5
              refine wn_iret rfl rfl rfl ⟨congrArg (fun z => some (Value.int z)) ?_, RX_h6⟩
              unfold areasA
              rw [qI_t (by simp only [iin]; omega)]
              first | rfl | (simp only [cl_k, cl_y]; done) | (simp only [cl_k, cl_y]; rfl)
            · have c9 : v < (nvW w) := c9
              refine wn_ld (pc' := 49) (q := 0) (kin := 2) (v := .ref (0)) rfl (fun _ _ _ => rfl) rfl rfl ?_
              refine wn_get (pc' := 52) (v := .ref (59)) rfl rfl v1_h6 rfl ?_
              refine wn_ld (pc' := 54) (q := 4) (kin := 0) (v := .int (nI (v))) rfl (fun _ _ _ => rfl) rfl rfl ?_
              have := itA_le (w := w) (k := k9) (y := y9) (nvW w) v
              refine wn_ialdv (pc' := 55) (j := v) (v := (nI (itA w k9 y9 (nvW w) v))) rfl rfl i9_h6 rfl (by omega) (by decide) (lv_h6 v (by omega)) ?_
              refine wn_ld (pc' := 57) (q := 4) (kin := 0) (v := .int (nI (v))) rfl (fun _ _ _ => rfl) rfl rfl ?_
              refine wn_icmpN (t := 63) (f := 60) rfl rfl rfl (by omega) (by omega) (fun c10 => ?_) (fun c10 => ?_)
              · have c10 : ¬ (itA w k9 y9 (nvW w) v) = v := c10
                refine wn_incN (n := 1) (pc' := 66) (lv' := [(0, .ref (0)), (1, .int (nI (k9))), (2, .int (nI (y9))), (3, .int (nI (cntP (fun x7 => itA w k9 y9 (nvW w) x7 = x7) v))), (4, .int (nI (v + 1)))]) rfl rfl rfl (Nat.le_of_ble_eq_true rfl) rfl (by decide) ?_
                refine wn_jp (pc' := 33) rfl rfl ?_
                refine wn_weak (lv' := [(0, .ref (0)), (1, .int (nI (k9))), (2, .int (nI (y9))), (3, .int (nI (cntP (fun x7 => itA w k9 y9 (nvW w) x7 = x7) v))), (4, .int (nI (v + 1)))]) (by simp) ?_
                have z9 := ih_lp8 (v + 1) (by omega) (by omega)
                rw [show (nI (cntP (fun x7 => itA w k9 y9 (nvW w) x7 = x7) (v + 1))) = (nI (cntP (fun x7 => itA w k9 y9 (nvW w) x7 = x7) v)) from (by exact congrArg nI (cntP_f (p := fun x7 => itA w k9 y9 (nvW w) x7 = x7) c10))] at z9
                exact z9
              · have c10 : (itA w k9 y9 (nvW w) v) = v := c10
                refine wn_incN (n := 1) (pc' := 63) (lv' := [(0, .ref (0)), (1, .int (nI (k9))), (2, .int (nI (y9))), (3, .int (nI (cntP (fun x7 => itA w k9 y9 (nvW w) x7 = x7) v + 1))), (4, .int (nI (v)))]) rfl rfl rfl (Nat.le_of_ble_eq_true rfl) rfl (by decide) ?_
                refine wn_incN (n := 1) (pc' := 66) (lv' := [(0, .ref (0)), (1, .int (nI (k9))), (2, .int (nI (y9))), (3, .int (nI (cntP (fun x7 => itA w k9 y9 (nvW w) x7 = x7) v + 1))), (4, .int (nI (v + 1)))]) rfl rfl rfl (Nat.le_of_ble_eq_true rfl) rfl (by decide) ?_
                refine wn_jp (pc' := 33) rfl rfl ?_
                refine wn_weak (lv' := [(0, .ref (0)), (1, .int (nI (k9))), (2, .int (nI (y9))), (3, .int (nI (cntP (fun x7 => itA w k9 y9 (nvW w) x7 = x7) v + 1))), (4, .int (nI (v + 1)))]) (by simp) ?_
                have z9 := ih_lp8 (v + 1) (by omega) (by omega)
                rw [show (nI (cntP (fun x7 => itA w k9 y9 (nvW w) x7 = x7) (v + 1))) = (nI (cntP (fun x7 => itA w k9 y9 (nvW w) x7 = x7) v + 1)) from (by exact congrArg nI (cntP_t (p := fun x7 => itA w k9 y9 (nvW w) x7 = x7) c10))] at z9
                exact z9
        refine wn_weak (lv' := [(0, .ref (0)), (1, .int (nI (k9))), (2, .int (nI (y9))), (3, .int (nI (0))), (4, .int (nI (0)))]) (by simp) ?_
        have z9 := lp8 ((nvW w) + 1) 0 (by omega) (by omega)
        rw [show (nI (cntP (fun x7 => itA w k9 y9 (nvW w) x7 = x7) 0)) = (nI (0)) from (by rfl)] at z9
        exact z9
      · have c5 : ¬ (iin y 61) := c5
        refine wn_bp (pc' := 21) (w := -2) rfl rfl (by decide) ?_
        have en1 : (nI 1).toInt = 1 := by decide
        have en11 : (nI 11).toInt = 11 := by decide
        try simp only [Int32.lt_iff_toInt_lt, Int32.le_iff_toInt_le, i2l_int, Int32.toInt_zero, iin] at c1
        try simp only [Int32.lt_iff_toInt_lt, Int32.le_iff_toInt_le, i2l_int, Int32.toInt_zero, iin] at c2
        try simp only [Int32.lt_iff_toInt_lt, Int32.le_iff_toInt_le, i2l_int, Int32.toInt_zero, iin] at c5
        refine wn_iret rfl rfl rfl ⟨congrArg (fun z => some (Value.int z)) ?_, (RY.rx RY_h3 R0.2.2.2)⟩
        unfold areasA
        rw [qI_f (by simp only [iin]; omega)]

theorem case_11 (v : Int32) (k : Int32) (y : Int32) : CaseI Rp 81 193 [.int v, .int k, .int y] := case_qM (fun h ls w hWf V R => ⟨_, x_area 693 h ls w hWf V R v k y, fun h1 le HQ i80 => m_area 688 h1 w hWf HQ le i80 v k y⟩)
theorem case_10 (k : Int32) (y : Int32) : CaseI Rp 80 192 [.int k, .int y] := case_qM (fun h ls w hWf V R => ⟨_, x_areas 693 h ls w hWf V R k y, fun h1 le HQ i80 => m_areas 688 h1 w hWf HQ le i80 k y⟩)
