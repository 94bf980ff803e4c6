/-! THE REFERENCE'S questions, first part: the map -/
theorem oI_m1 {x : Option Nat} {n : Nat} (hn : n < 2 ^ 31) (hx : ∀ l, x = some l → l < n) (h : oI x = -1) : x = none := by
  cases x with
  | none => rfl
  | some l => exact absurd h (nI_m1 (by have := hx l rfl; omega))
theorem laW_b {w : Nat → Int32} (hWf : WfW w) {y v i l : Nat} (h : laW w y v i = some l) : l < 20 := by
  have := (laW_l hWf h).1
  have := hWf.1.2.2.2.2.1.2
  omega
theorem stW_f {w : Nat → Int32} {i r : Nat} (h : ∀ v, v < nvW w → laW w r v i = none) : stW w i (r + 1) = stW w i r := if_neg (fun q => by obtain ⟨v, h1, h2⟩ := q; exact h2 (h v h1))
theorem stW_t {w : Nat → Int32} {i r v : Nat} (h1 : v < nvW w) (h2 : laW w r v i ≠ none) : stW w i (r + 1) = r + 1 := if_pos ⟨v, h1, h2⟩
theorem mI_ge {k : Nat} (hk : k < 2 ^ 30) (h : 0 ≤ mI k) : ∃ j, k = j + 1 := by
  cases k with
  | zero => exact absurd h (by decide)
  | succ j => exact ⟨j, rfl⟩
theorem mI_lt {k : Nat} (hk : k < 2 ^ 30) (h : mI k < 0) : k = 0 := by
  cases k with
  | zero => rfl
  | succ j =>
    rw [mI_s] at h
    exact absurd h (nI_pos (by omega))
/-- the best so far, from above down to k -/
def bsI (f : Nat → Nat) (k n : Nat) (b : Int32) : Prop := (k = n ∧ b = -1) ∨ ∃ j, b = nI j ∧ isMx f k n j
theorem bs_1 {f : Nat → Nat} {k n : Nat} (h : k + 1 = n) : bsI f k n (nI k) := Or.inr ⟨k, rfl, Nat.le_refl _, by omega, fun j h1 h2 => by rw [show j = k by omega]; exact Nat.le_refl _, fun j h1 h2 => by omega⟩
theorem bs_t {f : Nat → Nat} {k n b : Nat} (h : isMx f (k + 1) n b) (hf : f b ≤ f k) : bsI f k n (nI k) := by
  obtain ⟨h1, h2, h3, h4⟩ := h
  refine Or.inr ⟨k, rfl, Nat.le_refl _, by omega, fun j g1 g2 => ?_, fun j g1 g2 => by omega⟩
  by_cases e : j = k
  · rw [e]; exact Nat.le_refl _
  · have := h3 j (by omega) g2; omega
theorem bs_f {f : Nat → Nat} {k n b : Nat} (h : isMx f (k + 1) n b) (hf : f k < f b) : bsI f k n (nI b) := by
  obtain ⟨h1, h2, h3, h4⟩ := h
  refine Or.inr ⟨b, rfl, by omega, h2, fun j g1 g2 => ?_, fun j g1 g2 => ?_⟩
  · by_cases e : j = k
    · rw [e]; omega
    · exact h3 j (by omega) g2
  · by_cases e : j = k
    · rw [e]; exact hf
    · exact h4 j (by omega) g2
theorem bs_e {f : Nat → Nat} {n : Nat} {b : Int32} (h : bsI f 0 n b) : b = oI (amx f n) := by
  rcases h with ⟨h1, h2⟩ | ⟨j, h1, h2⟩
  · subst h1; exact h2
  · rw [amx_eq h2]; exact h1
theorem m_isLine (d : Nat) (h : aH) (w : Nat → Int32) (hWf : WfW w) (HQ : MQs h w) (r i y : Nat) (hr : r < nrW w) (hi : i < ntW w) (hy : y ≤ 60) : Sp (Rn (d + 9)) 184 [.ref (71), .int (nI (r)), .int (nI (i)), .int (nI (y))] h (fun r9 h9 => r9 = some (.int (bI (lnW w r i y))) ∧ RQ h h9 w) := by
  obtain ⟨⟨e1, e2⟩, ⟨e3, e4⟩, ⟨e5, e6⟩⟩ := Wf_n hWf
  obtain ⟨⟨e7, e8⟩, ⟨e9, e10⟩⟩ := Wf_m hWf
  obtain ⟨th, tp, sz, at9, fr, tk, vl, fk, fp, il, up, lo, sa9, tn, q0, q1, q2, q3, q4⟩ := id HQ
  refine Sp_of (by decide) (Nat.le_of_ble_eq_true rfl) ?_
  show Wn _ _ 0 [(0, .ref (71)), (1, .int (nI (r))), (2, .int (nI (i))), (3, .int (nI (y)))] [] _ _
  refine wn_ld (pc' := 1) (q := 0) (kin := 2) (v := .ref (71)) rfl (fun _ _ _ => rfl) rfl rfl ?_
  refine wn_ld (pc' := 2) (q := 0) (kin := 2) (v := .ref (71)) rfl (fun _ _ _ => rfl) rfl rfl ?_
  refine wn_ld (pc' := 3) (q := 1) (kin := 0) (v := .int (nI (r))) rfl (fun _ _ _ => rfl) rfl rfl ?_
  refine wn_ic (pc' := 4) (w := nI 0) rfl rfl (by decide) ?_
  have := wf_rdb hWf (show r < nrW w by omega)
  refine wn_virI (pc' := 7) rfl rfl (by decide) rfl rfl q0 (Nat.le_of_ble_eq_true rfl) (m_ofRoad _ _ w HQ.mh r 0 (by omega)) ?_
  rw [show 56 + 3 * r + 0 = 56 + 3 * r by omega]
  rw [wf_rda hWf (show r < nrW w by omega)]
  refine wn_ld (pc' := 8) (q := 2) (kin := 0) (v := .int (nI (i))) rfl (fun _ _ _ => rfl) rfl rfl ?_
  refine wn_ld (pc' := 9) (q := 3) (kin := 0) (v := .int (nI (y))) rfl (fun _ _ _ => rfl) rfl rfl ?_
  have := sdW_5 hWf (y := y) (show (rdA w r) < nvW w by omega) (show i < ntW w by omega)
  refine wn_virS (pc' := 12) rfl rfl (by decide) rfl rfl q0 (Nat.le_of_ble_eq_true rfl) (m_saidIn _ _ w hWf HQ (rdA w r) i y (by omega) (by omega) (by omega)) (fun r9 h1 e2 => ?_)
  obtain ⟨rfl, RQ_h1⟩ := e2
  have RT_h1 := RQ.tr (RQ.rfl' HQ) RQ_h1
  obtain ⟨th_h1, tp_h1, sz_h1, at9_h1, fr_h1, tk_h1, vl_h1, fk_h1, fp_h1, il_h1, up_h1, lo_h1, hM_h1, hW_h1⟩ := RQ_h1.mh
  show Wn _ _ 12 _ [.int (nI (sdW w y (rdA w r) i))] h1 _
  refine wn_ld (pc' := 13) (q := 0) (kin := 2) (v := .ref (71)) rfl (fun _ _ _ => rfl) rfl rfl ?_
  refine wn_ld (pc' := 14) (q := 0) (kin := 2) (v := .ref (71)) rfl (fun _ _ _ => rfl) rfl rfl ?_
  refine wn_ld (pc' := 15) (q := 1) (kin := 0) (v := .int (nI (r))) rfl (fun _ _ _ => rfl) rfl rfl ?_
  refine wn_ic (pc' := 16) (w := nI 1) rfl rfl (by decide) ?_
  have := wf_rdb hWf (show r < nrW w by omega)
  refine wn_virI (pc' := 19) rfl rfl (by decide) rfl rfl hM_h1 (Nat.le_of_ble_eq_true rfl) (m_ofRoad _ _ w RQ_h1.mh r 1 (by omega)) ?_
  rw [show 56 + 3 * r + 1 = 57 + 3 * r by omega]
  rw [wf_rdB hWf (show r < nrW w by omega)]
  refine wn_ld (pc' := 20) (q := 2) (kin := 0) (v := .int (nI (i))) rfl (fun _ _ _ => rfl) rfl rfl ?_
  refine wn_ld (pc' := 21) (q := 3) (kin := 0) (v := .int (nI (y))) rfl (fun _ _ _ => rfl) rfl rfl ?_
  have := sdW_5 hWf (y := y) (show (rdB w r) < nvW w by omega) (show i < ntW w by omega)
  refine wn_virS (pc' := 24) rfl rfl (by decide) rfl rfl hM_h1 (Nat.le_of_ble_eq_true rfl) (m_saidIn _ _ w hWf RQ_h1.2.2.2 (rdB w r) i y (by omega) (by omega) (by omega)) (fun r9 h3 e4 => ?_)
  obtain ⟨rfl, RQ_h3⟩ := e4
  have RT_h3 := RQ.tr RT_h1 RQ_h3
  obtain ⟨th_h3, tp_h3, sz_h3, at9_h3, fr_h3, tk_h3, vl_h3, fk_h3, fp_h3, il_h3, up_h3, lo_h3, hM_h3, hW_h3⟩ := RQ_h3.mh
  show Wn _ _ 24 _ [.int (nI (sdW w y (rdB w r) i)), .int (nI (sdW w y (rdA w r) i))] h3 _
  refine wn_icmpN (t := 31) (f := 27) rfl rfl rfl (by omega) (by omega) (fun c5 => ?_) (fun c5 => ?_)
  · have c5 : (sdW w y (rdA w r) i) = (sdW w y (rdB w r) i) := c5
    refine wn_ic (pc' := 32) (w := nI 0) rfl rfl (by decide) ?_
    exact wn_iret rfl rfl (by decide) ⟨congrArg (fun z => some (Value.int z)) (bI_f0 (fun q => q c5)), RT_h3⟩
  · have c5 : ¬ (sdW w y (rdA w r) i) = (sdW w y (rdB w r) i) := c5
    refine wn_ic (pc' := 28) (w := nI 1) rfl rfl (by decide) ?_
    refine wn_jp (pc' := 32) rfl rfl ?_
    exact wn_iret rfl rfl (by decide) ⟨congrArg (fun z => some (Value.int z)) (bI_t1 (c5)), RT_h3⟩

theorem m_linesOf (d : Nat) (h : aH) (w : Nat → Int32) (hWf : WfW w) (HQ : MQs h w) (i y : Nat) (hi : i < ntW w) (hy : y ≤ 60) : Sp (Rn (d + 10)) 185 [.ref (71), .int (nI (i)), .int (nI (y))] h (fun r9 h9 => r9 = some (.int (nI (cntP (fun k => lnW w k i y) (nrW w)))) ∧ RQ h h9 w) := by
  obtain ⟨⟨e1, e2⟩, ⟨e3, e4⟩, ⟨e5, e6⟩⟩ := Wf_n hWf
  obtain ⟨⟨e7, e8⟩, ⟨e9, e10⟩⟩ := Wf_m hWf
  obtain ⟨th, tp, sz, at9, fr, tk, vl, fk, fp, il, up, lo, sa9, tn, q0, q1, q2, q3, q4⟩ := id HQ
  refine Sp_of (by decide) (Nat.le_of_ble_eq_true rfl) ?_
  show Wn _ _ 0 [(0, .ref (71)), (1, .int (nI (i))), (2, .int (nI (y)))] [] _ _
  refine wn_ic (pc' := 1) (w := nI 0) rfl rfl (by decide) ?_
  refine wn_st (pc' := 2) (q := 3) (kin := 0) (lv' := [(0, .ref (71)), (1, .int (nI (i))), (2, .int (nI (y))), (3, .int (nI (0)))]) rfl (fun _ _ _ => rfl) rfl (Nat.le_of_ble_eq_true rfl) rfl ?_
  refine wn_ic (pc' := 3) (w := nI 0) rfl rfl (by decide) ?_
  refine wn_st (pc' := 5) (q := 4) (kin := 0) (lv' := [(0, .ref (71)), (1, .int (nI (i))), (2, .int (nI (y))), (3, .int (nI (0))), (4, .int (nI (0)))]) rfl (fun _ _ _ => rfl) rfl (Nat.le_of_ble_eq_true rfl) rfl ?_
  have lp2 : ∀ (n_lp2 : Nat) (g1 : aH) (k : Nat), (nrW w) + 1 ≤ k + n_lp2 → RQ h g1 w → k ≤ nrW w → Wn (Rn (d + 9)) 185 5 [(0, .ref (71)), (1, .int (nI (i))), (2, .int (nI (y))), (3, .int (nI (cntP (fun x7 => lnW w x7 i y) k))), (4, .int (nI (k)))] [] (g1) (fun r9 h9 => r9 = some (.int (nI (cntP (fun k => lnW w k i y) (nrW w)))) ∧ RQ h h9 w) := by
    intro n_lp2
    induction n_lp2 with
    | zero => intro g1 k hm_lp2 RT_g1 hk_k; exfalso; omega
    | succ n_lp2 ih_lp2 =>
      intro g1 k hm_lp2 RT_g1 hk_k
      obtain ⟨th_g1, tp_g1, sz_g1, at9_g1, fr_g1, tk_g1, vl_g1, fk_g1, fp_g1, il_g1, up_g1, lo_g1, hM_g1, hW_g1⟩ := RT_g1.mh
      have := cntP_le (fun x7 => lnW w x7 i y) k
      refine wn_ld (pc' := 7) (q := 4) (kin := 0) (v := .int (nI (k))) rfl (fun _ _ _ => rfl) rfl rfl ?_
      refine wn_ld (pc' := 8) (q := 0) (kin := 2) (v := .ref (71)) rfl (fun _ _ _ => rfl) rfl rfl ?_
      refine wn_get (pc' := 11) (v := .ref (72)) rfl rfl hM_g1 rfl ?_
      refine wn_ic (pc' := 12) (w := nI 2) rfl rfl (by decide) ?_
      refine wn_ialdv (pc' := 13) (j := 2) (v := (nI (nrW w))) rfl rfl hW_g1 rfl (by omega) (by decide) (e3) ?_
      refine wn_icmpN (t := 41) (f := 16) rfl rfl rfl (by omega) (by omega) (fun c3 => ?_) (fun c3 => ?_)
      · have c3 : (nrW w) ≤ k := c3
        obtain rfl : k = nrW w := by omega
        refine wn_ld (pc' := 42) (q := 3) (kin := 0) (v := .int (nI (cntP (fun x7 => lnW w x7 i y) (nrW w)))) rfl (fun _ _ _ => rfl) rfl rfl ?_
        exact wn_iret rfl rfl rfl ⟨rfl, RT_g1⟩
      · have c3 : k < (nrW w) := c3
        refine wn_ld (pc' := 17) (q := 3) (kin := 0) (v := .int (nI (cntP (fun x7 => lnW w x7 i y) k))) rfl (fun _ _ _ => rfl) rfl rfl ?_
        refine wn_ld (pc' := 18) (q := 0) (kin := 2) (v := .ref (71)) rfl (fun _ _ _ => rfl) rfl rfl ?_
        refine wn_ld (pc' := 20) (q := 4) (kin := 0) (v := .int (nI (k))) rfl (fun _ _ _ => rfl) rfl rfl ?_
        refine wn_ld (pc' := 21) (q := 1) (kin := 0) (v := .int (nI (i))) rfl (fun _ _ _ => rfl) rfl rfl ?_
        refine wn_ld (pc' := 22) (q := 2) (kin := 0) (v := .int (nI (y))) rfl (fun _ _ _ => rfl) rfl rfl ?_
        refine wn_virS (pc' := 25) rfl rfl (by decide) rfl rfl hM_g1 (Nat.le_of_ble_eq_true rfl) (m_isLine _ _ w hWf RT_g1.2.2.2 k i y (by omega) (by omega) (by omega)) (fun r9 h4 e5 => ?_)
        obtain ⟨rfl, RQ_h4⟩ := e5
        have RT_h4 := RQ.tr RT_g1 RQ_h4
        obtain ⟨th_h4, tp_h4, sz_h4, at9_h4, fr_h4, tk_h4, vl_h4, fk_h4, fp_h4, il_h4, up_h4, lo_h4, hM_h4, hW_h4⟩ := RQ_h4.mh
        show Wn _ _ 25 _ [.int (bI (lnW w k i y)), .int (nI (cntP (fun x7 => lnW w x7 i y) k))] h4 _
        refine wn_ifeqB (t := 32) (f := 28) rfl rfl rfl (fun c6 => ?_) (fun c6 => ?_)
        · have c6 : ¬ (lnW w k i y) := c6
          refine wn_ic (pc' := 33) (w := nI 0) rfl rfl (by decide) ?_
          refine wn_addN (pc' := 34) rfl rfl ?_
          refine wn_st (pc' := 35) (q := 3) (kin := 0) (lv' := [(0, .ref (71)), (1, .int (nI (i))), (2, .int (nI (y))), (3, .int (nI ((cntP (fun x7 => lnW w x7 i y) k) + 0))), (4, .int (nI (k)))]) rfl (fun _ _ _ => rfl) rfl (Nat.le_of_ble_eq_true rfl) rfl ?_
          refine wn_incN (n := 1) (pc' := 38) (lv' := [(0, .ref (71)), (1, .int (nI (i))), (2, .int (nI (y))), (3, .int (nI ((cntP (fun x7 => lnW w x7 i y) k) + 0))), (4, .int (nI (k + 1)))]) rfl rfl rfl (Nat.le_of_ble_eq_true rfl) rfl (by decide) ?_
          refine wn_jp (pc' := 5) rfl rfl ?_
          refine wn_weak (lv' := [(0, .ref (71)), (1, .int (nI (i))), (2, .int (nI (y))), (3, .int (nI ((cntP (fun x7 => lnW w x7 i y) k) + 0))), (4, .int (nI (k + 1)))]) (by simp) ?_
          have z9 := ih_lp2 h4 (k + 1) (by omega) RT_h4 (by omega)
          rw [show (nI (cntP (fun x7 => lnW w x7 i y) (k + 1))) = (nI ((cntP (fun x7 => lnW w x7 i y) k) + 0)) from (by exact congrArg nI (cntP_f (p := fun x7 => lnW w x7 i y) c6))] at z9
          exact z9
        · have c6 : (lnW w k i y) := c6
          refine wn_ic (pc' := 29) (w := nI 1) rfl rfl (by decide) ?_
          refine wn_jp (pc' := 33) rfl rfl ?_
          refine wn_addN (pc' := 34) rfl rfl ?_
          refine wn_st (pc' := 35) (q := 3) (kin := 0) (lv' := [(0, .ref (71)), (1, .int (nI (i))), (2, .int (nI (y))), (3, .int (nI ((cntP (fun x7 => lnW w x7 i y) k) + 1))), (4, .int (nI (k)))]) rfl (fun _ _ _ => rfl) rfl (Nat.le_of_ble_eq_true rfl) rfl ?_
          refine wn_incN (n := 1) (pc' := 38) (lv' := [(0, .ref (71)), (1, .int (nI (i))), (2, .int (nI (y))), (3, .int (nI ((cntP (fun x7 => lnW w x7 i y) k) + 1))), (4, .int (nI (k + 1)))]) rfl rfl rfl (Nat.le_of_ble_eq_true rfl) rfl (by decide) ?_
          refine wn_jp (pc' := 5) rfl rfl ?_
          refine wn_weak (lv' := [(0, .ref (71)), (1, .int (nI (i))), (2, .int (nI (y))), (3, .int (nI ((cntP (fun x7 => lnW w x7 i y) k) + 1))), (4, .int (nI (k + 1)))]) (by simp) ?_
          have z9 := ih_lp2 h4 (k + 1) (by omega) RT_h4 (by omega)
          rw [show (nI (cntP (fun x7 => lnW w x7 i y) (k + 1))) = (nI ((cntP (fun x7 => lnW w x7 i y) k) + 1)) from (by exact congrArg nI (cntP_t (p := fun x7 => lnW w x7 i y) c6))] at z9
          exact z9
  refine wn_weak (lv' := [(0, .ref (71)), (1, .int (nI (i))), (2, .int (nI (y))), (3, .int (nI (0))), (4, .int (nI (0)))]) (by simp) ?_
  have z9 := lp2 ((nrW w) + 1) h 0 (by omega) (RQ.rfl' HQ) (by omega)
  rw [show (nI (cntP (fun x7 => lnW w x7 i y) 0)) = (nI (0)) from (by rfl)] at z9
  exact z9

theorem m_bundleOf (d : Nat) (h : aH) (w : Nat → Int32) (hWf : WfW w) (HQ : MQs h w) (r y : Nat) (hr : r < nrW w) (hy : y ≤ 60) : Sp (Rn (d + 10)) 187 [.ref (71), .int (nI (r)), .int (nI (y))] h (fun r9 h9 => r9 = some (.int (nI (bnW w y r))) ∧ RQ h h9 w) := by
  obtain ⟨⟨e1, e2⟩, ⟨e3, e4⟩, ⟨e5, e6⟩⟩ := Wf_n hWf
  obtain ⟨⟨e7, e8⟩, ⟨e9, e10⟩⟩ := Wf_m hWf
  obtain ⟨th, tp, sz, at9, fr, tk, vl, fk, fp, il, up, lo, sa9, tn, q0, q1, q2, q3, q4⟩ := id HQ
  refine Sp_of (by decide) (Nat.le_of_ble_eq_true rfl) ?_
  show Wn _ _ 0 [(0, .ref (71)), (1, .int (nI (r))), (2, .int (nI (y)))] [] _ _
  refine wn_ic (pc' := 1) (w := nI 0) rfl rfl (by decide) ?_
  refine wn_st (pc' := 2) (q := 3) (kin := 0) (lv' := [(0, .ref (71)), (1, .int (nI (r))), (2, .int (nI (y))), (3, .int (nI (0)))]) rfl (fun _ _ _ => rfl) rfl (Nat.le_of_ble_eq_true rfl) rfl ?_
  refine wn_ic (pc' := 3) (w := nI 0) rfl rfl (by decide) ?_
  refine wn_st (pc' := 5) (q := 4) (kin := 0) (lv' := [(0, .ref (71)), (1, .int (nI (r))), (2, .int (nI (y))), (3, .int (nI (0))), (4, .int (nI (0)))]) rfl (fun _ _ _ => rfl) rfl (Nat.le_of_ble_eq_true rfl) rfl ?_
  have lp2 : ∀ (n_lp2 : Nat) (g1 : aH) (k : Nat), (ntW w) + 1 ≤ k + n_lp2 → RQ h g1 w → k ≤ ntW w → Wn (Rn (d + 9)) 187 5 [(0, .ref (71)), (1, .int (nI (r))), (2, .int (nI (y))), (3, .int (nI (cntP (fun x7 => lnW w r x7 y) k))), (4, .int (nI (k)))] [] (g1) (fun r9 h9 => r9 = some (.int (nI (bnW w y r))) ∧ RQ h h9 w) := by
    intro n_lp2
    induction n_lp2 with
    | zero => intro g1 k hm_lp2 RT_g1 hk_k; exfalso; omega
    | succ n_lp2 ih_lp2 =>
      intro g1 k hm_lp2 RT_g1 hk_k
      obtain ⟨th_g1, tp_g1, sz_g1, at9_g1, fr_g1, tk_g1, vl_g1, fk_g1, fp_g1, il_g1, up_g1, lo_g1, hM_g1, hW_g1⟩ := RT_g1.mh
      have := cntP_le (fun x7 => lnW w r x7 y) k
      refine wn_ld (pc' := 7) (q := 4) (kin := 0) (v := .int (nI (k))) rfl (fun _ _ _ => rfl) rfl rfl ?_
      refine wn_ld (pc' := 8) (q := 0) (kin := 2) (v := .ref (71)) rfl (fun _ _ _ => rfl) rfl rfl ?_
      refine wn_get (pc' := 11) (v := .ref (72)) rfl rfl hM_g1 rfl ?_
      refine wn_ic (pc' := 12) (w := nI 3) rfl rfl (by decide) ?_
      refine wn_ialdv (pc' := 13) (j := 3) (v := (nI (ntW w))) rfl rfl hW_g1 rfl (by omega) (by decide) (e5) ?_
      refine wn_icmpN (t := 41) (f := 16) rfl rfl rfl (by omega) (by omega) (fun c3 => ?_) (fun c3 => ?_)
      · have c3 : (ntW w) ≤ k := c3
        obtain rfl : k = ntW w := by omega
        refine wn_ld (pc' := 42) (q := 3) (kin := 0) (v := .int (nI (cntP (fun x7 => lnW w r x7 y) (ntW w)))) rfl (fun _ _ _ => rfl) rfl rfl ?_
        exact wn_iret rfl rfl rfl ⟨rfl, RT_g1⟩
      · have c3 : k < (ntW w) := c3
        refine wn_ld (pc' := 17) (q := 3) (kin := 0) (v := .int (nI (cntP (fun x7 => lnW w r x7 y) k))) rfl (fun _ _ _ => rfl) rfl rfl ?_
        refine wn_ld (pc' := 18) (q := 0) (kin := 2) (v := .ref (71)) rfl (fun _ _ _ => rfl) rfl rfl ?_
        refine wn_ld (pc' := 19) (q := 1) (kin := 0) (v := .int (nI (r))) rfl (fun _ _ _ => rfl) rfl rfl ?_
        refine wn_ld (pc' := 21) (q := 4) (kin := 0) (v := .int (nI (k))) rfl (fun _ _ _ => rfl) rfl rfl ?_
        refine wn_ld (pc' := 22) (q := 2) (kin := 0) (v := .int (nI (y))) rfl (fun _ _ _ => rfl) rfl rfl ?_
        refine wn_virS (pc' := 25) rfl rfl (by decide) rfl rfl hM_g1 (Nat.le_of_ble_eq_true rfl) (m_isLine _ _ w hWf RT_g1.2.2.2 r k y (by omega) (by omega) (by omega)) (fun r9 h4 e5 => ?_)
        obtain ⟨rfl, RQ_h4⟩ := e5
        have RT_h4 := RQ.tr RT_g1 RQ_h4
        obtain ⟨th_h4, tp_h4, sz_h4, at9_h4, fr_h4, tk_h4, vl_h4, fk_h4, fp_h4, il_h4, up_h4, lo_h4, hM_h4, hW_h4⟩ := RQ_h4.mh
        show Wn _ _ 25 _ [.int (bI (lnW w r k y)), .int (nI (cntP (fun x7 => lnW w r x7 y) k))] h4 _
        refine wn_ifeqB (t := 32) (f := 28) rfl rfl rfl (fun c6 => ?_) (fun c6 => ?_)
        · have c6 : ¬ (lnW w r k y) := c6
          refine wn_ic (pc' := 33) (w := nI 0) rfl rfl (by decide) ?_
          refine wn_addN (pc' := 34) rfl rfl ?_
          refine wn_st (pc' := 35) (q := 3) (kin := 0) (lv' := [(0, .ref (71)), (1, .int (nI (r))), (2, .int (nI (y))), (3, .int (nI ((cntP (fun x7 => lnW w r x7 y) k) + 0))), (4, .int (nI (k)))]) rfl (fun _ _ _ => rfl) rfl (Nat.le_of_ble_eq_true rfl) rfl ?_
          refine wn_incN (n := 1) (pc' := 38) (lv' := [(0, .ref (71)), (1, .int (nI (r))), (2, .int (nI (y))), (3, .int (nI ((cntP (fun x7 => lnW w r x7 y) k) + 0))), (4, .int (nI (k + 1)))]) rfl rfl rfl (Nat.le_of_ble_eq_true rfl) rfl (by decide) ?_
          refine wn_jp (pc' := 5) rfl rfl ?_
          refine wn_weak (lv' := [(0, .ref (71)), (1, .int (nI (r))), (2, .int (nI (y))), (3, .int (nI ((cntP (fun x7 => lnW w r x7 y) k) + 0))), (4, .int (nI (k + 1)))]) (by simp) ?_
          have z9 := ih_lp2 h4 (k + 1) (by omega) RT_h4 (by omega)
          rw [show (nI (cntP (fun x7 => lnW w r x7 y) (k + 1))) = (nI ((cntP (fun x7 => lnW w r x7 y) k) + 0)) from (by exact congrArg nI (cntP_f (p := fun x7 => lnW w r x7 y) c6))] at z9
          exact z9
        · have c6 : (lnW w r k y) := c6
          refine wn_ic (pc' := 29) (w := nI 1) rfl rfl (by decide) ?_
          refine wn_jp (pc' := 33) rfl rfl ?_
          refine wn_addN (pc' := 34) rfl rfl ?_
          refine wn_st (pc' := 35) (q := 3) (kin := 0) (lv' := [(0, .ref (71)), (1, .int (nI (r))), (2, .int (nI (y))), (3, .int (nI ((cntP (fun x7 => lnW w r x7 y) k) + 1))), (4, .int (nI (k)))]) rfl (fun _ _ _ => rfl) rfl (Nat.le_of_ble_eq_true rfl) rfl ?_
          refine wn_incN (n := 1) (pc' := 38) (lv' := [(0, .ref (71)), (1, .int (nI (r))), (2, .int (nI (y))), (3, .int (nI ((cntP (fun x7 => lnW w r x7 y) k) + 1))), (4, .int (nI (k + 1)))]) rfl rfl rfl (Nat.le_of_ble_eq_true rfl) rfl (by decide) ?_
          refine wn_jp (pc' := 5) rfl rfl ?_
          refine wn_weak (lv' := [(0, .ref (71)), (1, .int (nI (r))), (2, .int (nI (y))), (3, .int (nI ((cntP (fun x7 => lnW w r x7 y) k) + 1))), (4, .int (nI (k + 1)))]) (by simp) ?_
          have z9 := ih_lp2 h4 (k + 1) (by omega) RT_h4 (by omega)
          rw [show (nI (cntP (fun x7 => lnW w r x7 y) (k + 1))) = (nI ((cntP (fun x7 => lnW w r x7 y) k) + 1)) from (by exact congrArg nI (cntP_t (p := fun x7 => lnW w r x7 y) c6))] at z9
          exact z9
  refine wn_weak (lv' := [(0, .ref (71)), (1, .int (nI (r))), (2, .int (nI (y))), (3, .int (nI (0))), (4, .int (nI (0)))]) (by simp) ?_
  have z9 := lp2 ((ntW w) + 1) h 0 (by omega) (RQ.rfl' HQ) (by omega)
  rw [show (nI (cntP (fun x7 => lnW w r x7 y) 0)) = (nI (0)) from (by rfl)] at z9
  exact z9

noncomputable def saysA (w : Nat → Int32) (v i y : Int32) : Int32 := qI (iin v (nvW w) ∧ iin i (ntW w) ∧ iin y 61) (nI (sdW w y.toNatClampNeg v.toNatClampNeg i.toNatClampNeg)) (-1)
noncomputable def turnedA (w : Nat → Int32) (v i y : Int32) : Int32 := qI (iin v (nvW w) ∧ iin i (ntW w) ∧ iin y 60) (oI (laW w y.toNatClampNeg v.toNatClampNeg i.toNatClampNeg)) (-2)
noncomputable def linesA (w : Nat → Int32) (i y : Int32) : Int32 := qI (iin i (ntW w) ∧ iin y 61) (nI (cntP (fun k => lnW w k i.toNatClampNeg y.toNatClampNeg) (nrW w))) (-2)
noncomputable def bundleA (w : Nat → Int32) (r y : Int32) : Int32 := qI (iin r (nrW w) ∧ iin y 61) (nI (bnW w y.toNatClampNeg r.toNatClampNeg)) (-2)
noncomputable def thickA (w : Nat → Int32) (y : Int32) : Int32 := qI (iin y 61) (oI (amx (bnW w y.toNatClampNeg) (nrW w))) (-2)
noncomputable def crossedA (w : Nat → Int32) (k y : Int32) : Int32 := qI (iin k 11 ∧ iin y 61) (nI (cntP (fun r => k.toNatClampNeg ≤ bnW w y.toNatClampNeg r) (nrW w))) (-2)
noncomputable def movedA (w : Nat → Int32) (i a b : Int32) : Int32 := qI (iin i (ntW w) ∧ iin a 61 ∧ iin b 61) (bitP (fun v => ¬ sdW w a.toNatClampNeg v i.toNatClampNeg = sdW w b.toNatClampNeg v i.toNatClampNeg) (nvW w)) (-2)
noncomputable def stillA (w : Nat → Int32) (i : Int32) : Int32 := qI (iin i (ntW w)) (nI (stW w i.toNatClampNeg 60)) (-2)
theorem m_inK (d : Nat) (h : aH) (x : Int32) (n : Nat) (hi9 : Int64) (hh : hi9.toInt = (n : Int)) : Rn (d + 1) 141 [.long (Int32.toInt64 x), .long (lN 0), .long hi9] h (some (.int (bI (iin x (n + 1))))) h 0 0 := by
  rw [show bI (iin x (n + 1)) = bI ((lN 0).toInt ≤ (Int32.toInt64 x).toInt ∧ (Int32.toInt64 x).toInt ≤ hi9.toInt) from bI_c (by rw [i2l_int, hh]; have e1 : (lN 0).toInt = 0 := by decide
                                                                                                                                unfold iin; omega)]
  exact m_in d h _ _ _
theorem m_inR (d : Nat) (h : aH) (x : Int32) (l n : Int) (lo hi9 : Int64) (hl : lo.toInt = l) (hh : hi9.toInt = n) : Rn (d + 1) 141 [.long (Int32.toInt64 x), .long lo, .long hi9] h (some (.int (bI (l ≤ x.toInt ∧ x.toInt ≤ n)))) h 0 0 := by
  rw [show bI (l ≤ x.toInt ∧ x.toInt ≤ n) = bI (lo.toInt ≤ (Int32.toInt64 x).toInt ∧ (Int32.toInt64 x).toInt ≤ hi9.toInt) from bI_c (by rw [i2l_int, hh, hl])]
  exact m_in d h _ _ _
theorem m_says (d : Nat) (h : aH) (w : Nat → Int32) (hWf : WfW w) (HQ : MQs h w) (v i y : Int32) : Sp (Rn (d + 9)) 182 [.ref (71), .int (v), .int (i), .int (y)] h (fun r9 h9 => r9 = some (.int (saysA w v i y)) ∧ RQ h h9 w) := by
  obtain ⟨⟨e1, e2⟩, ⟨e3, e4⟩, ⟨e5, e6⟩⟩ := Wf_n hWf
  obtain ⟨⟨e7, e8⟩, ⟨e9, e10⟩⟩ := Wf_m hWf
  obtain ⟨th, tp, sz, at9, fr, tk, vl, fk, fp, il, up, lo, sa9, tn, q0, q1, q2, q3, q4⟩ := id HQ
  refine Sp_of (by decide) (Nat.le_of_ble_eq_true rfl) ?_
  show Wn _ _ 0 [(0, .ref (71)), (1, .int (v)), (2, .int (i)), (3, .int (y))] [] _ _
  refine wn_ld (pc' := 1) (q := 0) (kin := 2) (v := .ref (71)) rfl (fun _ _ _ => rfl) rfl rfl ?_
  refine wn_ld (pc' := 2) (q := 1) (kin := 0) (v := .int (v)) rfl (fun _ _ _ => rfl) rfl rfl ?_
  refine wn_virI (pc' := 5) rfl rfl (by decide) rfl rfl q0 (Nat.le_of_ble_eq_true rfl) (m_isVillage _ _ w HQ.mh _ e1 (by omega) _) ?_
  refine wn_ifeqB (t := 33) (f := 8) rfl rfl rfl (fun c1 => ?_) (fun c1 => ?_)
  · have c1 : ¬ (iin v (nvW w)) := c1
    refine wn_ic (pc' := 34) (w := -1) rfl rfl (by decide) ?_
    try simp only [Int32.lt_iff_toInt_lt, Int32.le_iff_toInt_le, i2l_int, Int32.toInt_zero, iin] at c1
    refine wn_iret rfl rfl rfl ⟨congrArg (fun z => some (Value.int z)) ?_, (RQ.rfl' HQ)⟩
    unfold saysA
    rw [qI_f (by simp only [iin]; omega)]
  · have c1 : (iin v (nvW w)) := c1
    obtain ⟨v9, hv9, rfl⟩ := iin_of c1
    have ti_v := nI_toInt (n := v9) (show v9 < 2 ^ 31 by omega)
    have cl_v := nI_clamp (n := v9) (show v9 < 2 ^ 31 by omega)
    refine wn_ld (pc' := 9) (q := 0) (kin := 2) (v := .ref (71)) rfl (fun _ _ _ => rfl) rfl rfl ?_
    refine wn_ld (pc' := 10) (q := 2) (kin := 0) (v := .int (i)) rfl (fun _ _ _ => rfl) rfl rfl ?_
    refine wn_virI (pc' := 13) rfl rfl (by decide) rfl rfl q0 (Nat.le_of_ble_eq_true rfl) (m_isItem _ _ w HQ.mh _ e5 (by omega) _) ?_
    refine wn_ifeqB (t := 33) (f := 16) rfl rfl rfl (fun c2 => ?_) (fun c2 => ?_)
    · have c2 : ¬ (iin i (ntW w)) := c2
      refine wn_ic (pc' := 34) (w := -1) rfl rfl (by decide) ?_
      try simp only [Int32.lt_iff_toInt_lt, Int32.le_iff_toInt_le, i2l_int, Int32.toInt_zero, iin] at c1
      try simp only [Int32.lt_iff_toInt_lt, Int32.le_iff_toInt_le, i2l_int, Int32.toInt_zero, iin] at c2
      refine wn_iret rfl rfl rfl ⟨congrArg (fun z => some (Value.int z)) ?_, (RQ.rfl' HQ)⟩
      unfold saysA
      rw [qI_f (by simp only [iin]; omega)]
    · have c2 : (iin i (ntW w)) := c2
      obtain ⟨i9, hi9, rfl⟩ := iin_of c2
      have ti_i := nI_toInt (n := i9) (show i9 < 2 ^ 31 by omega)
      have cl_i := nI_clamp (n := i9) (show i9 < 2 ^ 31 by omega)
      refine wn_ld (pc' := 17) (q := 3) (kin := 0) (v := .int (y)) rfl (fun _ _ _ => rfl) rfl rfl ?_
      refine wn_staI (pc' := 20) rfl rfl (by decide) rfl rfl (Nat.le_of_ble_eq_true rfl) (m_isYear _ _ _) ?_
      refine wn_ifeqB (t := 33) (f := 23) rfl rfl rfl (fun c3 => ?_) (fun c3 => ?_)
      · have c3 : ¬ (iin y 61) := c3
        refine wn_ic (pc' := 34) (w := -1) rfl rfl (by decide) ?_
        try simp only [Int32.lt_iff_toInt_lt, Int32.le_iff_toInt_le, i2l_int, Int32.toInt_zero, iin] at c1
        try simp only [Int32.lt_iff_toInt_lt, Int32.le_iff_toInt_le, i2l_int, Int32.toInt_zero, iin] at c2
        try simp only [Int32.lt_iff_toInt_lt, Int32.le_iff_toInt_le, i2l_int, Int32.toInt_zero, iin] at c3
        refine wn_iret rfl rfl rfl ⟨congrArg (fun z => some (Value.int z)) ?_, (RQ.rfl' HQ)⟩
        unfold saysA
        rw [qI_f (by simp only [iin]; omega)]
      · have c3 : (iin y 61) := c3
        obtain ⟨y9, hy9, rfl⟩ := iin_of c3
        have ti_y := nI_toInt (n := y9) (show y9 < 2 ^ 31 by omega)
        have cl_y := nI_clamp (n := y9) (show y9 < 2 ^ 31 by omega)
        refine wn_ld (pc' := 24) (q := 0) (kin := 2) (v := .ref (71)) rfl (fun _ _ _ => rfl) rfl rfl ?_
        refine wn_ld (pc' := 25) (q := 1) (kin := 0) (v := .int (nI (v9))) rfl (fun _ _ _ => rfl) rfl rfl ?_
        refine wn_ld (pc' := 26) (q := 2) (kin := 0) (v := .int (nI (i9))) rfl (fun _ _ _ => rfl) rfl rfl ?_
        refine wn_ld (pc' := 27) (q := 3) (kin := 0) (v := .int (nI (y9))) rfl (fun _ _ _ => rfl) rfl rfl ?_
        have := sdW_5 hWf (y := y9) (show v9 < nvW w by omega) (show i9 < ntW w by omega)
        refine wn_virS (pc' := 30) rfl rfl (by decide) rfl rfl q0 (Nat.le_of_ble_eq_true rfl) (m_saidIn _ _ w hWf HQ v9 i9 y9 (by omega) (by omega) (by omega)) (fun r9 h4 e5 => ?_)
        obtain ⟨rfl, RQ_h4⟩ := e5
        have RT_h4 := RQ.tr (RQ.rfl' HQ) RQ_h4
        obtain ⟨th_h4, tp_h4, sz_h4, at9_h4, fr_h4, tk_h4, vl_h4, fk_h4, fp_h4, il_h4, up_h4, lo_h4, hM_h4, hW_h4⟩ := RQ_h4.mh
        show Wn _ _ 30 _ [.int (nI (sdW w y9 v9 i9))] h4 _
        refine wn_jp (pc' := 34) rfl rfl ?_
        try simp only [Int32.lt_iff_toInt_lt, Int32.le_iff_toInt_le, i2l_int, Int32.toInt_zero, iin] at c1
        try simp only [Int32.lt_iff_toInt_lt, Int32.le_iff_toInt_le, i2l_int, Int32.toInt_zero, iin] at c2
        try simp only [Int32.lt_iff_toInt_lt, Int32.le_iff_toInt_le, i2l_int, Int32.toInt_zero, iin] at c3
        refine wn_iret rfl rfl rfl ⟨congrArg (fun z => some (Value.int z)) ?_, RT_h4⟩
        unfold saysA
        rw [qI_t (by simp only [iin]; omega)]
        first | rfl | (simp only [cl_v, cl_i, cl_y]; done) | (simp only [cl_v, cl_i, cl_y]; rfl)

theorem m_lines (d : Nat) (h : aH) (w : Nat → Int32) (hWf : WfW w) (HQ : MQs h w) (i y : Int32) : Sp (Rn (d + 11)) 186 [.ref (71), .int (i), .int (y)] h (fun r9 h9 => r9 = some (.int (linesA w i y)) ∧ RQ h h9 w) := by
  obtain ⟨⟨e1, e2⟩, ⟨e3, e4⟩, ⟨e5, e6⟩⟩ := Wf_n hWf
  obtain ⟨⟨e7, e8⟩, ⟨e9, e10⟩⟩ := Wf_m hWf
  obtain ⟨th, tp, sz, at9, fr, tk, vl, fk, fp, il, up, lo, sa9, tn, q0, q1, q2, q3, q4⟩ := id HQ
  refine Sp_of (by decide) (Nat.le_of_ble_eq_true rfl) ?_
  show Wn _ _ 0 [(0, .ref (71)), (1, .int (i)), (2, .int (y))] [] _ _
  refine wn_ld (pc' := 1) (q := 0) (kin := 2) (v := .ref (71)) rfl (fun _ _ _ => rfl) rfl rfl ?_
  refine wn_ld (pc' := 2) (q := 1) (kin := 0) (v := .int (i)) rfl (fun _ _ _ => rfl) rfl rfl ?_
  refine wn_virI (pc' := 5) rfl rfl (by decide) rfl rfl q0 (Nat.le_of_ble_eq_true rfl) (m_isItem _ _ w HQ.mh _ e5 (by omega) _) ?_
  refine wn_ifeqB (t := 24) (f := 8) rfl rfl rfl (fun c1 => ?_) (fun c1 => ?_)
  · have c1 : ¬ (iin i (ntW w)) := c1
    refine wn_bp (pc' := 26) (w := -2) rfl rfl (by decide) ?_
    try simp only [Int32.lt_iff_toInt_lt, Int32.le_iff_toInt_le, i2l_int, Int32.toInt_zero, iin] at c1
    refine wn_iret rfl rfl rfl ⟨congrArg (fun z => some (Value.int z)) ?_, (RQ.rfl' HQ)⟩
    unfold linesA
    rw [qI_f (by simp only [iin]; omega)]
  · have c1 : (iin i (ntW w)) := c1
    obtain ⟨i9, hi9, rfl⟩ := iin_of c1
    have ti_i := nI_toInt (n := i9) (show i9 < 2 ^ 31 by omega)
    have cl_i := nI_clamp (n := i9) (show i9 < 2 ^ 31 by omega)
    refine wn_ld (pc' := 9) (q := 2) (kin := 0) (v := .int (y)) rfl (fun _ _ _ => rfl) rfl rfl ?_
    refine wn_staI (pc' := 12) rfl rfl (by decide) rfl rfl (Nat.le_of_ble_eq_true rfl) (m_isYear _ _ _) ?_
    refine wn_ifeqB (t := 24) (f := 15) rfl rfl rfl (fun c2 => ?_) (fun c2 => ?_)
    · have c2 : ¬ (iin y 61) := c2
      refine wn_bp (pc' := 26) (w := -2) rfl rfl (by decide) ?_
      try simp only [Int32.lt_iff_toInt_lt, Int32.le_iff_toInt_le, i2l_int, Int32.toInt_zero, iin] at c1
      try simp only [Int32.lt_iff_toInt_lt, Int32.le_iff_toInt_le, i2l_int, Int32.toInt_zero, iin] at c2
      refine wn_iret rfl rfl rfl ⟨congrArg (fun z => some (Value.int z)) ?_, (RQ.rfl' HQ)⟩
      unfold linesA
      rw [qI_f (by simp only [iin]; omega)]
    · have c2 : (iin y 61) := c2
      obtain ⟨y9, hy9, rfl⟩ := iin_of c2
      have ti_y := nI_toInt (n := y9) (show y9 < 2 ^ 31 by omega)
      have cl_y := nI_clamp (n := y9) (show y9 < 2 ^ 31 by omega)
      refine wn_ld (pc' := 16) (q := 0) (kin := 2) (v := .ref (71)) rfl (fun _ _ _ => rfl) rfl rfl ?_
      refine wn_ld (pc' := 17) (q := 1) (kin := 0) (v := .int (nI (i9))) rfl (fun _ _ _ => rfl) rfl rfl ?_
      refine wn_ld (pc' := 18) (q := 2) (kin := 0) (v := .int (nI (y9))) rfl (fun _ _ _ => rfl) rfl rfl ?_
      refine wn_virS (pc' := 21) rfl rfl (by decide) rfl rfl q0 (Nat.le_of_ble_eq_true rfl) (m_linesOf _ _ w hWf HQ i9 y9 (by omega) (by omega)) (fun r9 h3 e4 => ?_)
      obtain ⟨rfl, RQ_h3⟩ := e4
      have RT_h3 := RQ.tr (RQ.rfl' HQ) RQ_h3
      obtain ⟨th_h3, tp_h3, sz_h3, at9_h3, fr_h3, tk_h3, vl_h3, fk_h3, fp_h3, il_h3, up_h3, lo_h3, hM_h3, hW_h3⟩ := RQ_h3.mh
      show Wn _ _ 21 _ [.int (nI (cntP (fun k => lnW w k i9 y9) (nrW w)))] h3 _
      refine wn_jp (pc' := 26) rfl rfl ?_
      try simp only [Int32.lt_iff_toInt_lt, Int32.le_iff_toInt_le, i2l_int, Int32.toInt_zero, iin] at c1
      try simp only [Int32.lt_iff_toInt_lt, Int32.le_iff_toInt_le, i2l_int, Int32.toInt_zero, iin] at c2
      refine wn_iret rfl rfl rfl ⟨congrArg (fun z => some (Value.int z)) ?_, RT_h3⟩
      unfold linesA
      rw [qI_t (by simp only [iin]; omega)]
      first | rfl | (simp only [cl_i, cl_y]; done) | (simp only [cl_i, cl_y]; rfl)

theorem m_bundle (d : Nat) (h : aH) (w : Nat → Int32) (hWf : WfW w) (HQ : MQs h w) (r y : Int32) : Sp (Rn (d + 11)) 188 [.ref (71), .int (r), .int (y)] h (fun r9 h9 => r9 = some (.int (bundleA w r y)) ∧ RQ h h9 w) := by
  obtain ⟨⟨e1, e2⟩, ⟨e3, e4⟩, ⟨e5, e6⟩⟩ := Wf_n hWf
  obtain ⟨⟨e7, e8⟩, ⟨e9, e10⟩⟩ := Wf_m hWf
  obtain ⟨th, tp, sz, at9, fr, tk, vl, fk, fp, il, up, lo, sa9, tn, q0, q1, q2, q3, q4⟩ := id HQ
  refine Sp_of (by decide) (Nat.le_of_ble_eq_true rfl) ?_
  show Wn _ _ 0 [(0, .ref (71)), (1, .int (r)), (2, .int (y))] [] _ _
  refine wn_ld (pc' := 1) (q := 0) (kin := 2) (v := .ref (71)) rfl (fun _ _ _ => rfl) rfl rfl ?_
  refine wn_ld (pc' := 2) (q := 1) (kin := 0) (v := .int (r)) rfl (fun _ _ _ => rfl) rfl rfl ?_
  refine wn_virI (pc' := 5) rfl rfl (by decide) rfl rfl q0 (Nat.le_of_ble_eq_true rfl) (m_isRoad _ _ w HQ.mh _ e3 (by omega) _) ?_
  refine wn_ifeqB (t := 24) (f := 8) rfl rfl rfl (fun c1 => ?_) (fun c1 => ?_)
  · have c1 : ¬ (iin r (nrW w)) := c1
    refine wn_bp (pc' := 26) (w := -2) rfl rfl (by decide) ?_
    try simp only [Int32.lt_iff_toInt_lt, Int32.le_iff_toInt_le, i2l_int, Int32.toInt_zero, iin] at c1
    refine wn_iret rfl rfl rfl ⟨congrArg (fun z => some (Value.int z)) ?_, (RQ.rfl' HQ)⟩
    unfold bundleA
    rw [qI_f (by simp only [iin]; omega)]
  · have c1 : (iin r (nrW w)) := c1
    obtain ⟨r9, hr9, rfl⟩ := iin_of c1
    have ti_r := nI_toInt (n := r9) (show r9 < 2 ^ 31 by omega)
    have cl_r := nI_clamp (n := r9) (show r9 < 2 ^ 31 by omega)
    refine wn_ld (pc' := 9) (q := 2) (kin := 0) (v := .int (y)) rfl (fun _ _ _ => rfl) rfl rfl ?_
    refine wn_staI (pc' := 12) rfl rfl (by decide) rfl rfl (Nat.le_of_ble_eq_true rfl) (m_isYear _ _ _) ?_
    refine wn_ifeqB (t := 24) (f := 15) rfl rfl rfl (fun c2 => ?_) (fun c2 => ?_)
    · have c2 : ¬ (iin y 61) := c2
      refine wn_bp (pc' := 26) (w := -2) rfl rfl (by decide) ?_
      try simp only [Int32.lt_iff_toInt_lt, Int32.le_iff_toInt_le, i2l_int, Int32.toInt_zero, iin] at c1
      try simp only [Int32.lt_iff_toInt_lt, Int32.le_iff_toInt_le, i2l_int, Int32.toInt_zero, iin] at c2
      refine wn_iret rfl rfl rfl ⟨congrArg (fun z => some (Value.int z)) ?_, (RQ.rfl' HQ)⟩
      unfold bundleA
      rw [qI_f (by simp only [iin]; omega)]
    · have c2 : (iin y 61) := c2
      obtain ⟨y9, hy9, rfl⟩ := iin_of c2
      have ti_y := nI_toInt (n := y9) (show y9 < 2 ^ 31 by omega)
      have cl_y := nI_clamp (n := y9) (show y9 < 2 ^ 31 by omega)
      refine wn_ld (pc' := 16) (q := 0) (kin := 2) (v := .ref (71)) rfl (fun _ _ _ => rfl) rfl rfl ?_
      refine wn_ld (pc' := 17) (q := 1) (kin := 0) (v := .int (nI (r9))) rfl (fun _ _ _ => rfl) rfl rfl ?_
      refine wn_ld (pc' := 18) (q := 2) (kin := 0) (v := .int (nI (y9))) rfl (fun _ _ _ => rfl) rfl rfl ?_
      have := bnW_le hWf y9 r9
      refine wn_virS (pc' := 21) rfl rfl (by decide) rfl rfl q0 (Nat.le_of_ble_eq_true rfl) (m_bundleOf _ _ w hWf HQ r9 y9 (by omega) (by omega)) (fun r9 h3 e4 => ?_)
      obtain ⟨rfl, RQ_h3⟩ := e4
      have RT_h3 := RQ.tr (RQ.rfl' HQ) RQ_h3
      obtain ⟨th_h3, tp_h3, sz_h3, at9_h3, fr_h3, tk_h3, vl_h3, fk_h3, fp_h3, il_h3, up_h3, lo_h3, hM_h3, hW_h3⟩ := RQ_h3.mh
      show Wn _ _ 21 _ [.int (nI (bnW w y9 r9))] h3 _
      refine wn_jp (pc' := 26) rfl rfl ?_
      try simp only [Int32.lt_iff_toInt_lt, Int32.le_iff_toInt_le, i2l_int, Int32.toInt_zero, iin] at c1
      try simp only [Int32.lt_iff_toInt_lt, Int32.le_iff_toInt_le, i2l_int, Int32.toInt_zero, iin] at c2
      refine wn_iret rfl rfl rfl ⟨congrArg (fun z => some (Value.int z)) ?_, RT_h3⟩
      unfold bundleA
      rw [qI_t (by simp only [iin]; omega)]
      first | rfl | (simp only [cl_r, cl_y]; done) | (simp only [cl_r, cl_y]; rfl)

theorem m_turned (d : Nat) (h : aH) (w : Nat → Int32) (hWf : WfW w) (HQ : MQs h w) (v i y : Int32) : Sp (Rn (d + 8)) 183 [.ref (71), .int (v), .int (i), .int (y)] h (fun r9 h9 => r9 = some (.int (turnedA w v i y)) ∧ RQ h h9 w) := by
  obtain ⟨⟨e1, e2⟩, ⟨e3, e4⟩, ⟨e5, e6⟩⟩ := Wf_n hWf
  obtain ⟨⟨e7, e8⟩, ⟨e9, e10⟩⟩ := Wf_m hWf
  obtain ⟨th, tp, sz, at9, fr, tk, vl, fk, fp, il, up, lo, sa9, tn, q0, q1, q2, q3, q4⟩ := id HQ
  refine Sp_of (by decide) (Nat.le_of_ble_eq_true rfl) ?_
  show Wn _ _ 0 [(0, .ref (71)), (1, .int (v)), (2, .int (i)), (3, .int (y))] [] _ _
  refine wn_ld (pc' := 1) (q := 0) (kin := 2) (v := .ref (71)) rfl (fun _ _ _ => rfl) rfl rfl ?_
  refine wn_ld (pc' := 2) (q := 1) (kin := 0) (v := .int (v)) rfl (fun _ _ _ => rfl) rfl rfl ?_
  refine wn_virI (pc' := 5) rfl rfl (by decide) rfl rfl q0 (Nat.le_of_ble_eq_true rfl) (m_isVillage _ _ w HQ.mh _ e1 (by omega) _) ?_
  refine wn_ifeqB (t := 28) (f := 8) rfl rfl rfl (fun c1 => ?_) (fun c1 => ?_)
  · have c1 : ¬ (iin v (nvW w)) := c1
    refine wn_bp (pc' := 30) (w := -2) rfl rfl (by decide) ?_
    try simp only [Int32.lt_iff_toInt_lt, Int32.le_iff_toInt_le, i2l_int, Int32.toInt_zero, iin] at c1
    refine wn_iret rfl rfl rfl ⟨congrArg (fun z => some (Value.int z)) ?_, (RQ.rfl' HQ)⟩
    unfold turnedA
    rw [qI_f (by simp only [iin]; omega)]
  · have c1 : (iin v (nvW w)) := c1
    obtain ⟨v9, hv9, rfl⟩ := iin_of c1
    have ti_v := nI_toInt (n := v9) (show v9 < 2 ^ 31 by omega)
    have cl_v := nI_clamp (n := v9) (show v9 < 2 ^ 31 by omega)
    refine wn_ld (pc' := 9) (q := 0) (kin := 2) (v := .ref (71)) rfl (fun _ _ _ => rfl) rfl rfl ?_
    refine wn_ld (pc' := 10) (q := 2) (kin := 0) (v := .int (i)) rfl (fun _ _ _ => rfl) rfl rfl ?_
    refine wn_virI (pc' := 13) rfl rfl (by decide) rfl rfl q0 (Nat.le_of_ble_eq_true rfl) (m_isItem _ _ w HQ.mh _ e5 (by omega) _) ?_
    refine wn_ifeqB (t := 28) (f := 16) rfl rfl rfl (fun c2 => ?_) (fun c2 => ?_)
    · have c2 : ¬ (iin i (ntW w)) := c2
      refine wn_bp (pc' := 30) (w := -2) rfl rfl (by decide) ?_
      try simp only [Int32.lt_iff_toInt_lt, Int32.le_iff_toInt_le, i2l_int, Int32.toInt_zero, iin] at c1
      try simp only [Int32.lt_iff_toInt_lt, Int32.le_iff_toInt_le, i2l_int, Int32.toInt_zero, iin] at c2
      refine wn_iret rfl rfl rfl ⟨congrArg (fun z => some (Value.int z)) ?_, (RQ.rfl' HQ)⟩
      unfold turnedA
      rw [qI_f (by simp only [iin]; omega)]
    · have c2 : (iin i (ntW w)) := c2
      obtain ⟨i9, hi9, rfl⟩ := iin_of c2
      have ti_i := nI_toInt (n := i9) (show i9 < 2 ^ 31 by omega)
      have cl_i := nI_clamp (n := i9) (show i9 < 2 ^ 31 by omega)
      refine wn_ld (pc' := 17) (q := 3) (kin := 0) (v := .int (y)) rfl (fun _ _ _ => rfl) rfl rfl ?_
      refine wn_pu (pc' := 18) (st' := [.long (Int32.toInt64 (y))]) rfl (fun _ _ _ => rfl) rfl rfl ?_
      refine wn_pu (pc' := 19) (st' := .long (lN 0) :: [.long (Int32.toInt64 (y))]) rfl (fun _ _ _ => rfl) rfl rfl ?_
      refine wn_go (pc' := 22) (lv' := [(0, .ref (71)), (1, .int (nI (v9))), (2, .int (nI (i9))), (3, .int (y))]) (st' := [.long ((59 : Int64)), .long (lN 0), .long (Int32.toInt64 (y))]) rfl (fun _ _ _ k9 => k9) ?_
      refine wn_staI (pc' := 25) rfl rfl (by decide) rfl rfl (Nat.le_of_ble_eq_true rfl) (m_inK _ _ y 59 ((59 : Int64)) (by decide)) ?_
      refine wn_ifneB (t := 31) (f := 28) rfl rfl rfl (fun c3 => ?_) (fun c3 => ?_)
      · have c3 : (iin y 60) := c3
        obtain ⟨y9, hy9, rfl⟩ := iin_of c3
        have ti_y := nI_toInt (n := y9) (show y9 < 2 ^ 31 by omega)
        have cl_y := nI_clamp (n := y9) (show y9 < 2 ^ 31 by omega)
        refine wn_ld (pc' := 32) (q := 0) (kin := 2) (v := .ref (71)) rfl (fun _ _ _ => rfl) rfl rfl ?_
        refine wn_virS (pc' := 35) rfl rfl (by decide) rfl rfl q0 (Nat.le_of_ble_eq_true rfl) (m_lay _ _ w hWf HQ) (fun r9 h4 e5 => ?_)
        obtain ⟨rfl, RQ_h4, sa_h4, tn_h4, l1_h4, l2_h4, l3_h4, l4_h4⟩ := e5
        have RT_h4 := RQ.tr (RQ.rfl' HQ) RQ_h4
        obtain ⟨th_h4, tp_h4, sz_h4, at9_h4, fr_h4, tk_h4, vl_h4, fk_h4, fp_h4, il_h4, up_h4, lo_h4, hM_h4, hW_h4⟩ := RQ_h4.mh
        show Wn _ _ 35 _ [] h4 _
        refine wn_ld (pc' := 36) (q := 0) (kin := 2) (v := .ref (71)) rfl (fun _ _ _ => rfl) rfl rfl ?_
        refine wn_get (pc' := 39) (v := .ref (79)) rfl rfl hM_h4 rfl ?_
        refine wn_ld (pc' := 40) (q := 3) (kin := 0) (v := .int (nI (y9))) rfl (fun _ _ _ => rfl) rfl rfl ?_
        refine wn_ld (pc' := 41) (q := 1) (kin := 0) (v := .int (nI (v9))) rfl (fun _ _ _ => rfl) rfl rfl ?_
        refine wn_ld (pc' := 42) (q := 2) (kin := 0) (v := .int (nI (i9))) rfl (fun _ _ _ => rfl) rfl rfl ?_
        refine wn_staI (pc' := 45) rfl rfl (by decide) rfl rfl (Nat.le_of_ble_eq_true rfl) (m_cell _ _ y9 v9 i9) ?_
        refine wn_ialdv (pc' := 46) (j := (y9 * 24 + v9) * 10 + i9) (v := (oI (laW w y9 v9 i9))) rfl rfl l2_h4 rfl (by omega) (by decide) (l4_h4 y9 v9 i9 (by omega) (by omega) (by omega)) ?_
        try simp only [Int32.lt_iff_toInt_lt, Int32.le_iff_toInt_le, i2l_int, Int32.toInt_zero, iin] at c1
        try simp only [Int32.lt_iff_toInt_lt, Int32.le_iff_toInt_le, i2l_int, Int32.toInt_zero, iin] at c2
        try simp only [Int32.lt_iff_toInt_lt, Int32.le_iff_toInt_le, i2l_int, Int32.toInt_zero, iin] at c3
        refine wn_iret rfl rfl rfl ⟨congrArg (fun z => some (Value.int z)) ?_, RT_h4⟩
        unfold turnedA
        rw [qI_t (by simp only [iin]; omega)]
        first | rfl | (simp only [cl_v, cl_i, cl_y]; done) | (simp only [cl_v, cl_i, cl_y]; rfl)
      · have c3 : ¬ (iin y 60) := c3
        refine wn_bp (pc' := 30) (w := -2) rfl rfl (by decide) ?_
        try simp only [Int32.lt_iff_toInt_lt, Int32.le_iff_toInt_le, i2l_int, Int32.toInt_zero, iin] at c1
        try simp only [Int32.lt_iff_toInt_lt, Int32.le_iff_toInt_le, i2l_int, Int32.toInt_zero, iin] at c2
        try simp only [Int32.lt_iff_toInt_lt, Int32.le_iff_toInt_le, i2l_int, Int32.toInt_zero, iin] at c3
        refine wn_iret rfl rfl rfl ⟨congrArg (fun z => some (Value.int z)) ?_, (RQ.rfl' HQ)⟩
        unfold turnedA
        rw [qI_f (by simp only [iin]; omega)]

theorem m_thick (d : Nat) (h : aH) (w : Nat → Int32) (hWf : WfW w) (HQ : MQs h w) (y : Int32) : Sp (Rn (d + 11)) 189 [.ref (71), .int (y)] h (fun r9 h9 => r9 = some (.int (thickA w y)) ∧ RQ h h9 w) := by
  obtain ⟨⟨e1, e2⟩, ⟨e3, e4⟩, ⟨e5, e6⟩⟩ := Wf_n hWf
  obtain ⟨⟨e7, e8⟩, ⟨e9, e10⟩⟩ := Wf_m hWf
  obtain ⟨th, tp, sz, at9, fr, tk, vl, fk, fp, il, up, lo, sa9, tn, q0, q1, q2, q3, q4⟩ := id HQ
  refine Sp_of (by decide) (Nat.le_of_ble_eq_true rfl) ?_
  show Wn _ _ 0 [(0, .ref (71)), (1, .int (y))] [] _ _
  refine wn_ld (pc' := 1) (q := 1) (kin := 0) (v := .int (y)) rfl (fun _ _ _ => rfl) rfl rfl ?_
  refine wn_staI (pc' := 4) rfl rfl (by decide) rfl rfl (Nat.le_of_ble_eq_true rfl) (m_isYear _ _ _) ?_
  refine wn_ifneB (t := 10) (f := 7) rfl rfl rfl (fun c1 => ?_) (fun c1 => ?_)
  · have c1 : (iin y 61) := c1
    obtain ⟨y9, hy9, rfl⟩ := iin_of c1
    have ti_y := nI_toInt (n := y9) (show y9 < 2 ^ 31 by omega)
    have cl_y := nI_clamp (n := y9) (show y9 < 2 ^ 31 by omega)
    refine wn_ic (pc' := 11) (w := -1) rfl rfl (by decide) ?_
    refine wn_st (pc' := 12) (q := 2) (kin := 0) (lv' := [(0, .ref (71)), (1, .int (nI (y9))), (2, .int (-1))]) rfl (fun _ _ _ => rfl) rfl (Nat.le_of_ble_eq_true rfl) rfl ?_
    refine wn_ld (pc' := 13) (q := 0) (kin := 2) (v := .ref (71)) rfl (fun _ _ _ => rfl) rfl rfl ?_
    refine wn_get (pc' := 16) (v := .ref (72)) rfl rfl q0 rfl ?_
    refine wn_ic (pc' := 17) (w := nI 2) rfl rfl (by decide) ?_
    refine wn_ialdv (pc' := 18) (j := 2) (v := (nI (nrW w))) rfl rfl q1 rfl (by omega) (by decide) (e3) ?_
    refine wn_ic (pc' := 19) (w := nI 1) rfl rfl (by decide) ?_
    refine wn_pu (pc' := 20) (st' := [.int ((nI (nrW w)) - (nI (1)))]) rfl (fun _ _ _ => rfl) rfl rfl ?_
    refine wn_st (pc' := 21) (q := 3) (kin := 0) (lv' := [(0, .ref (71)), (1, .int (nI (y9))), (2, .int (-1)), (3, .int ((nI (nrW w)) - (nI (1))))]) rfl (fun _ _ _ => rfl) rfl (Nat.le_of_ble_eq_true rfl) rfl ?_
    have lp3 : ∀ (n_lp3 : Nat) (g2 : aH) (k : Nat) (be : Int32), (nrW w) + 1 ≤ (nrW w - k) + n_lp3 → RQ h g2 w → k ≤ nrW w → bsI (bnW w y9) k (nrW w) be → Wn (Rn (d + 10)) 189 21 [(0, .ref (71)), (1, .int (nI (y9))), (2, .int (be)), (3, .int (mI (k)))] [] (g2) (fun r9 h9 => r9 = some (.int (thickA w (nI y9))) ∧ RQ h h9 w) := by
      intro n_lp3
      induction n_lp3 with
      | zero => intro g2 k be hm_lp3 RT_g2 hk hB; exfalso; omega
      | succ n_lp3 ih_lp3 =>
        intro g2 k be hm_lp3 RT_g2 hk hB
        obtain ⟨th_g2, tp_g2, sz_g2, at9_g2, fr_g2, tk_g2, vl_g2, fk_g2, fp_g2, il_g2, up_g2, lo_g2, hM_g2, hW_g2⟩ := RT_g2.mh
        refine wn_ld (pc' := 22) (q := 3) (kin := 0) (v := .int (mI (k))) rfl (fun _ _ _ => rfl) rfl rfl ?_
        refine wn_ifc (t := 53) (f := 25) rfl rfl rfl (fun c4 => ?_) (fun c4 => ?_)
        · have c4 : ((mI (k))) < 0 := c4
          refine wn_ld (pc' := 54) (q := 2) (kin := 0) (v := .int (be)) rfl (fun _ _ _ => rfl) rfl rfl ?_
          obtain rfl := mI_lt (by omega) c4
          refine wn_iret rfl rfl rfl ⟨congrArg (fun z => some (Value.int z)) ?_, RT_g2⟩
          unfold thickA
          try simp only [Int32.lt_iff_toInt_lt, Int32.le_iff_toInt_le, i2l_int, Int32.toInt_zero, iin] at c1
          rw [qI_t (by simp only [iin]; omega), bs_e hB]
          simp only [cl_y]
        · have c4 : 0 ≤ ((mI (k))) := c4
          obtain ⟨k, rfl⟩ := mI_ge (by omega) c4
          rw [mI_s]
          rcases hB with ⟨e9, rfl⟩ | ⟨b, rfl, hb⟩
          · refine wn_ld (pc' := 26) (q := 2) (kin := 0) (v := .int (-1)) rfl (fun _ _ _ => rfl) rfl rfl ?_
            refine wn_ic (pc' := 27) (w := -1) rfl rfl (by decide) ?_
            refine wn_icmp (t := 45) (f := 30) rfl rfl rfl (fun c5 => ?_) (fun c5 => ?_)
            · have c5 : ((-1) : Int32) = ((-1)) := c5
              refine wn_ld (pc' := 46) (q := 3) (kin := 0) (v := .int (nI (k))) rfl (fun _ _ _ => rfl) rfl rfl ?_
              refine wn_st (pc' := 47) (q := 2) (kin := 0) (lv' := [(0, .ref (71)), (1, .int (nI (y9))), (2, .int (nI (k))), (3, .int (nI (k)))]) rfl (fun _ _ _ => rfl) rfl (Nat.le_of_ble_eq_true rfl) rfl ?_
              refine wn_decN (pc' := 50) (lv' := [(0, .ref (71)), (1, .int (nI (y9))), (2, .int (nI (k))), (3, .int (mI (k)))]) rfl rfl rfl (Nat.le_of_ble_eq_true rfl) rfl ?_
              refine wn_jp (pc' := 21) rfl rfl ?_
              refine wn_weak (lv' := [(0, .ref (71)), (1, .int (nI (y9))), (2, .int (nI (k))), (3, .int (mI (k)))]) (by simp) ?_
              have z9 := ih_lp3 g2 k ((nI (k))) (by omega) RT_g2 (by omega) (bs_1 (by omega))
              exact z9
            · have c5 : ¬ ((-1) : Int32) = ((-1)) := c5
              exact absurd rfl c5
          · have hb2 := hb.2.1
            refine wn_ld (pc' := 26) (q := 2) (kin := 0) (v := .int (nI (b))) rfl (fun _ _ _ => rfl) rfl rfl ?_
            refine wn_ic (pc' := 27) (w := -1) rfl rfl (by decide) ?_
            refine wn_icmp (t := 45) (f := 30) rfl rfl rfl (fun c6 => ?_) (fun c6 => ?_)
            · have c6 : ((nI (b))) = ((-1)) := c6
              exact absurd c6 (nI_m1 (by omega))
            · have c6 : ¬ ((nI (b))) = ((-1)) := c6
              refine wn_ld (pc' := 31) (q := 0) (kin := 2) (v := .ref (71)) rfl (fun _ _ _ => rfl) rfl rfl ?_
              refine wn_ld (pc' := 32) (q := 3) (kin := 0) (v := .int (nI (k))) rfl (fun _ _ _ => rfl) rfl rfl ?_
              refine wn_ld (pc' := 33) (q := 1) (kin := 0) (v := .int (nI (y9))) rfl (fun _ _ _ => rfl) rfl rfl ?_
              have := bnW_le hWf y9 k
              refine wn_virS (pc' := 36) rfl rfl (by decide) rfl rfl hM_g2 (Nat.le_of_ble_eq_true rfl) (m_bundleOf _ _ w hWf RT_g2.2.2.2 k y9 (by omega) (by omega)) (fun r9 h7 e8 => ?_)
              obtain ⟨rfl, RQ_h7⟩ := e8
              have RT_h7 := RQ.tr RT_g2 RQ_h7
              obtain ⟨th_h7, tp_h7, sz_h7, at9_h7, fr_h7, tk_h7, vl_h7, fk_h7, fp_h7, il_h7, up_h7, lo_h7, hM_h7, hW_h7⟩ := RQ_h7.mh
              show Wn _ _ 36 _ [.int (nI (bnW w y9 k))] h7 _
              refine wn_ld (pc' := 37) (q := 0) (kin := 2) (v := .ref (71)) rfl (fun _ _ _ => rfl) rfl rfl ?_
              refine wn_ld (pc' := 38) (q := 2) (kin := 0) (v := .int (nI (b))) rfl (fun _ _ _ => rfl) rfl rfl ?_
              refine wn_ld (pc' := 39) (q := 1) (kin := 0) (v := .int (nI (y9))) rfl (fun _ _ _ => rfl) rfl rfl ?_
              have := bnW_le hWf y9 b
              refine wn_virS (pc' := 42) rfl rfl (by decide) rfl rfl hM_h7 (Nat.le_of_ble_eq_true rfl) (m_bundleOf _ _ w hWf RQ_h7.2.2.2 b y9 (by omega) (by omega)) (fun r9 h9 e10 => ?_)
              obtain ⟨rfl, RQ_h9⟩ := e10
              have RT_h9 := RQ.tr RT_h7 RQ_h9
              obtain ⟨th_h9, tp_h9, sz_h9, at9_h9, fr_h9, tk_h9, vl_h9, fk_h9, fp_h9, il_h9, up_h9, lo_h9, hM_h9, hW_h9⟩ := RQ_h9.mh
              show Wn _ _ 42 _ [.int (nI (bnW w y9 b)), .int (nI (bnW w y9 k))] h9 _
              refine wn_icmpN (t := 47) (f := 45) rfl rfl rfl (by omega) (by omega) (fun c11 => ?_) (fun c11 => ?_)
              · have c11 : (bnW w y9 k) < (bnW w y9 b) := c11
                refine wn_decN (pc' := 50) (lv' := [(0, .ref (71)), (1, .int (nI (y9))), (2, .int (nI (b))), (3, .int (mI (k)))]) rfl rfl rfl (Nat.le_of_ble_eq_true rfl) rfl ?_
                refine wn_jp (pc' := 21) rfl rfl ?_
                refine wn_weak (lv' := [(0, .ref (71)), (1, .int (nI (y9))), (2, .int (nI (b))), (3, .int (mI (k)))]) (by simp) ?_
                have z9 := ih_lp3 h9 k ((nI (b))) (by omega) RT_h9 (by omega) (bs_f hb (by omega))
                exact z9
              · have c11 : (bnW w y9 b) ≤ (bnW w y9 k) := c11
                refine wn_ld (pc' := 46) (q := 3) (kin := 0) (v := .int (nI (k))) rfl (fun _ _ _ => rfl) rfl rfl ?_
                refine wn_st (pc' := 47) (q := 2) (kin := 0) (lv' := [(0, .ref (71)), (1, .int (nI (y9))), (2, .int (nI (k))), (3, .int (nI (k)))]) rfl (fun _ _ _ => rfl) rfl (Nat.le_of_ble_eq_true rfl) rfl ?_
                refine wn_decN (pc' := 50) (lv' := [(0, .ref (71)), (1, .int (nI (y9))), (2, .int (nI (k))), (3, .int (mI (k)))]) rfl rfl rfl (Nat.le_of_ble_eq_true rfl) rfl ?_
                refine wn_jp (pc' := 21) rfl rfl ?_
                refine wn_weak (lv' := [(0, .ref (71)), (1, .int (nI (y9))), (2, .int (nI (k))), (3, .int (mI (k)))]) (by simp) ?_
                have z9 := ih_lp3 h9 k ((nI (k))) (by omega) RT_h9 (by omega) (bs_t hb (by omega))
                exact z9
    refine wn_weak (lv' := [(0, .ref (71)), (1, .int (nI (y9))), (2, .int (-1)), (3, .int ((nI (nrW w)) - (nI (1))))]) (by simp) ?_
    have z9 := lp3 ((nrW w) + 1) h (nrW w) (-1) (by omega) (RQ.rfl' HQ) (by omega) (Or.inl ⟨rfl, rfl⟩)
    rw [show (mI ((nrW w))) = ((nI (nrW w)) - (nI (1))) from (by rfl)] at z9
    exact z9
  · have c1 : ¬ (iin y 61) := c1
    refine wn_bp (pc' := 9) (w := -2) rfl rfl (by decide) ?_
    try simp only [Int32.lt_iff_toInt_lt, Int32.le_iff_toInt_le, i2l_int, Int32.toInt_zero, iin] at c1
    refine wn_iret rfl rfl rfl ⟨congrArg (fun z => some (Value.int z)) ?_, (RQ.rfl' HQ)⟩
    unfold thickA
    rw [qI_f (by simp only [iin]; omega)]

theorem m_crossed (d : Nat) (h : aH) (w : Nat → Int32) (hWf : WfW w) (HQ : MQs h w) (k y : Int32) : Sp (Rn (d + 11)) 190 [.ref (71), .int (k), .int (y)] h (fun r9 h9 => r9 = some (.int (crossedA w k y)) ∧ RQ h h9 w) := by
  obtain ⟨⟨e1, e2⟩, ⟨e3, e4⟩, ⟨e5, e6⟩⟩ := Wf_n hWf
  obtain ⟨⟨e7, e8⟩, ⟨e9, e10⟩⟩ := Wf_m hWf
  obtain ⟨th, tp, sz, at9, fr, tk, vl, fk, fp, il, up, lo, sa9, tn, q0, q1, q2, q3, q4⟩ := id HQ
  refine Sp_of (by decide) (Nat.le_of_ble_eq_true rfl) ?_
  show Wn _ _ 0 [(0, .ref (71)), (1, .int (k)), (2, .int (y))] [] _ _
  refine wn_ld (pc' := 1) (q := 1) (kin := 0) (v := .int (k)) rfl (fun _ _ _ => rfl) rfl rfl ?_
  refine wn_pu (pc' := 2) (st' := [.long (Int32.toInt64 (k))]) rfl (fun _ _ _ => rfl) rfl rfl ?_
  refine wn_pu (pc' := 3) (st' := .long (lN 0) :: [.long (Int32.toInt64 (k))]) rfl (fun _ _ _ => rfl) rfl rfl ?_
  refine wn_go (pc' := 6) (lv' := [(0, .ref (71)), (1, .int (k)), (2, .int (y))]) (st' := [.long ((10 : Int64)), .long (lN 0), .long (Int32.toInt64 (k))]) rfl (fun _ _ _ k9 => k9) ?_
  refine wn_staI (pc' := 9) rfl rfl (by decide) rfl rfl (Nat.le_of_ble_eq_true rfl) (m_inK _ _ k 10 ((10 : Int64)) (by decide)) ?_
  refine wn_ifeqB (t := 19) (f := 12) rfl rfl rfl (fun c1 => ?_) (fun c1 => ?_)
  · have c1 : ¬ (iin k 11) := c1
    refine wn_bp (pc' := 21) (w := -2) rfl rfl (by decide) ?_
    try simp only [Int32.lt_iff_toInt_lt, Int32.le_iff_toInt_le, i2l_int, Int32.toInt_zero, iin] at c1
    refine wn_iret rfl rfl rfl ⟨congrArg (fun z => some (Value.int z)) ?_, (RQ.rfl' HQ)⟩
    unfold crossedA
    rw [qI_f (by simp only [iin]; omega)]
  · have c1 : (iin k 11) := c1
    obtain ⟨k9, hk9, rfl⟩ := iin_of c1
    have ti_k := nI_toInt (n := k9) (show k9 < 2 ^ 31 by omega)
    have cl_k := nI_clamp (n := k9) (show k9 < 2 ^ 31 by omega)
    refine wn_ld (pc' := 13) (q := 2) (kin := 0) (v := .int (y)) rfl (fun _ _ _ => rfl) rfl rfl ?_
    refine wn_staI (pc' := 16) rfl rfl (by decide) rfl rfl (Nat.le_of_ble_eq_true rfl) (m_isYear _ _ _) ?_
    refine wn_ifneB (t := 22) (f := 19) rfl rfl rfl (fun c2 => ?_) (fun c2 => ?_)
    · have c2 : (iin y 61) := c2
      obtain ⟨y9, hy9, rfl⟩ := iin_of c2
      have ti_y := nI_toInt (n := y9) (show y9 < 2 ^ 31 by omega)
      have cl_y := nI_clamp (n := y9) (show y9 < 2 ^ 31 by omega)
      refine wn_ic (pc' := 23) (w := nI 0) rfl rfl (by decide) ?_
      refine wn_st (pc' := 24) (q := 3) (kin := 0) (lv' := [(0, .ref (71)), (1, .int (nI (k9))), (2, .int (nI (y9))), (3, .int (nI (0)))]) rfl (fun _ _ _ => rfl) rfl (Nat.le_of_ble_eq_true rfl) rfl ?_
      refine wn_ic (pc' := 25) (w := nI 0) rfl rfl (by decide) ?_
      refine wn_st (pc' := 27) (q := 4) (kin := 0) (lv' := [(0, .ref (71)), (1, .int (nI (k9))), (2, .int (nI (y9))), (3, .int (nI (0))), (4, .int (nI (0)))]) rfl (fun _ _ _ => rfl) rfl (Nat.le_of_ble_eq_true rfl) rfl ?_
      have lp4 : ∀ (n_lp4 : Nat) (g3 : aH) (r : Nat), (nrW w) + 1 ≤ r + n_lp4 → RQ h g3 w → r ≤ nrW w → Wn (Rn (d + 10)) 190 27 [(0, .ref (71)), (1, .int (nI (k9))), (2, .int (nI (y9))), (3, .int (nI (cntP (fun x7 => k9 ≤ bnW w y9 x7) r))), (4, .int (nI (r)))] [] (g3) (fun r9 h9 => r9 = some (.int (crossedA w (nI k9) (nI y9))) ∧ RQ h h9 w) := by
        intro n_lp4
        induction n_lp4 with
        | zero => intro g3 r hm_lp4 RT_g3 hk_r; exfalso; omega
        | succ n_lp4 ih_lp4 =>
          intro g3 r hm_lp4 RT_g3 hk_r
          obtain ⟨th_g3, tp_g3, sz_g3, at9_g3, fr_g3, tk_g3, vl_g3, fk_g3, fp_g3, il_g3, up_g3, lo_g3, hM_g3, hW_g3⟩ := RT_g3.mh
          have := cntP_le (fun x7 => k9 ≤ bnW w y9 x7) r
          refine wn_ld (pc' := 29) (q := 4) (kin := 0) (v := .int (nI (r))) rfl (fun _ _ _ => rfl) rfl rfl ?_
          refine wn_ld (pc' := 30) (q := 0) (kin := 2) (v := .ref (71)) rfl (fun _ _ _ => rfl) rfl rfl ?_
          refine wn_get (pc' := 33) (v := .ref (72)) rfl rfl hM_g3 rfl ?_
          refine wn_ic (pc' := 34) (w := nI 2) rfl rfl (by decide) ?_
          refine wn_ialdv (pc' := 35) (j := 2) (v := (nI (nrW w))) rfl rfl hW_g3 rfl (by omega) (by decide) (e3) ?_
          refine wn_icmpN (t := 63) (f := 38) rfl rfl rfl (by omega) (by omega) (fun c5 => ?_) (fun c5 => ?_)
          · have c5 : (nrW w) ≤ r := c5
            obtain rfl : r = nrW w := by omega
            refine wn_ld (pc' := 64) (q := 3) (kin := 0) (v := .int (nI (cntP (fun x7 => k9 ≤ bnW w y9 x7) (nrW w)))) rfl (fun _ _ _ => rfl) rfl rfl ?_
            try simp only [Int32.lt_iff_toInt_lt, Int32.le_iff_toInt_le, i2l_int, Int32.toInt_zero, iin] at c1
            try simp only [Int32.lt_iff_toInt_lt, Int32.le_iff_toInt_le, i2l_int, Int32.toInt_zero, iin] at c2
            refine wn_iret rfl rfl rfl ⟨congrArg (fun z => some (Value.int z)) ?_, RT_g3⟩
            unfold crossedA
            rw [qI_t (by simp only [iin]; omega)]
            first | rfl | (simp only [cl_k, cl_y]; done) | (simp only [cl_k, cl_y]; rfl)
          · have c5 : r < (nrW w) := c5
            refine wn_ld (pc' := 39) (q := 3) (kin := 0) (v := .int (nI (cntP (fun x7 => k9 ≤ bnW w y9 x7) r))) rfl (fun _ _ _ => rfl) rfl rfl ?_
            refine wn_ld (pc' := 40) (q := 0) (kin := 2) (v := .ref (71)) rfl (fun _ _ _ => rfl) rfl rfl ?_
            refine wn_ld (pc' := 42) (q := 4) (kin := 0) (v := .int (nI (r))) rfl (fun _ _ _ => rfl) rfl rfl ?_
            refine wn_ld (pc' := 43) (q := 2) (kin := 0) (v := .int (nI (y9))) rfl (fun _ _ _ => rfl) rfl rfl ?_
            have := bnW_le hWf y9 r
            refine wn_virS (pc' := 46) rfl rfl (by decide) rfl rfl hM_g3 (Nat.le_of_ble_eq_true rfl) (m_bundleOf _ _ w hWf RT_g3.2.2.2 r y9 (by omega) (by omega)) (fun r9 h6 e7 => ?_)
            obtain ⟨rfl, RQ_h6⟩ := e7
            have RT_h6 := RQ.tr RT_g3 RQ_h6
            obtain ⟨th_h6, tp_h6, sz_h6, at9_h6, fr_h6, tk_h6, vl_h6, fk_h6, fp_h6, il_h6, up_h6, lo_h6, hM_h6, hW_h6⟩ := RQ_h6.mh
            show Wn _ _ 46 _ [.int (nI (bnW w y9 r)), .int (nI (cntP (fun x7 => k9 ≤ bnW w y9 x7) r))] h6 _
            refine wn_ld (pc' := 47) (q := 1) (kin := 0) (v := .int (nI (k9))) rfl (fun _ _ _ => rfl) rfl rfl ?_
            refine wn_icmpN (t := 54) (f := 50) rfl rfl rfl (by omega) (by omega) (fun c8 => ?_) (fun c8 => ?_)
            · have c8 : (bnW w y9 r) < k9 := c8
              refine wn_ic (pc' := 55) (w := nI 0) rfl rfl (by decide) ?_
              refine wn_addN (pc' := 56) rfl rfl ?_
              refine wn_st (pc' := 57) (q := 3) (kin := 0) (lv' := [(0, .ref (71)), (1, .int (nI (k9))), (2, .int (nI (y9))), (3, .int (nI ((cntP (fun x7 => k9 ≤ bnW w y9 x7) r) + 0))), (4, .int (nI (r)))]) rfl (fun _ _ _ => rfl) rfl (Nat.le_of_ble_eq_true rfl) rfl ?_
              refine wn_incN (n := 1) (pc' := 60) (lv' := [(0, .ref (71)), (1, .int (nI (k9))), (2, .int (nI (y9))), (3, .int (nI ((cntP (fun x7 => k9 ≤ bnW w y9 x7) r) + 0))), (4, .int (nI (r + 1)))]) rfl rfl rfl (Nat.le_of_ble_eq_true rfl) rfl (by decide) ?_
              refine wn_jp (pc' := 27) rfl rfl ?_
              refine wn_weak (lv' := [(0, .ref (71)), (1, .int (nI (k9))), (2, .int (nI (y9))), (3, .int (nI ((cntP (fun x7 => k9 ≤ bnW w y9 x7) r) + 0))), (4, .int (nI (r + 1)))]) (by simp) ?_
              have z9 := ih_lp4 h6 (r + 1) (by omega) RT_h6 (by omega)
              rw [show (nI (cntP (fun x7 => k9 ≤ bnW w y9 x7) (r + 1))) = (nI ((cntP (fun x7 => k9 ≤ bnW w y9 x7) r) + 0)) from (by exact congrArg nI (cntP_f (p := fun x7 => k9 ≤ bnW w y9 x7) (by omega)))] at z9
              exact z9
            · have c8 : k9 ≤ (bnW w y9 r) := c8
              refine wn_ic (pc' := 51) (w := nI 1) rfl rfl (by decide) ?_
              refine wn_jp (pc' := 55) rfl rfl ?_
              refine wn_addN (pc' := 56) rfl rfl ?_
              refine wn_st (pc' := 57) (q := 3) (kin := 0) (lv' := [(0, .ref (71)), (1, .int (nI (k9))), (2, .int (nI (y9))), (3, .int (nI ((cntP (fun x7 => k9 ≤ bnW w y9 x7) r) + 1))), (4, .int (nI (r)))]) rfl (fun _ _ _ => rfl) rfl (Nat.le_of_ble_eq_true rfl) rfl ?_
              refine wn_incN (n := 1) (pc' := 60) (lv' := [(0, .ref (71)), (1, .int (nI (k9))), (2, .int (nI (y9))), (3, .int (nI ((cntP (fun x7 => k9 ≤ bnW w y9 x7) r) + 1))), (4, .int (nI (r + 1)))]) rfl rfl rfl (Nat.le_of_ble_eq_true rfl) rfl (by decide) ?_
              refine wn_jp (pc' := 27) rfl rfl ?_
              refine wn_weak (lv' := [(0, .ref (71)), (1, .int (nI (k9))), (2, .int (nI (y9))), (3, .int (nI ((cntP (fun x7 => k9 ≤ bnW w y9 x7) r) + 1))), (4, .int (nI (r + 1)))]) (by simp) ?_
              have z9 := ih_lp4 h6 (r + 1) (by omega) RT_h6 (by omega)
              rw [show (nI (cntP (fun x7 => k9 ≤ bnW w y9 x7) (r + 1))) = (nI ((cntP (fun x7 => k9 ≤ bnW w y9 x7) r) + 1)) from (by exact congrArg nI (cntP_t (p := fun x7 => k9 ≤ bnW w y9 x7) c8))] at z9
              exact z9
      refine wn_weak (lv' := [(0, .ref (71)), (1, .int (nI (k9))), (2, .int (nI (y9))), (3, .int (nI (0))), (4, .int (nI (0)))]) (by simp) ?_
      have z9 := lp4 ((nrW w) + 1) h 0 (by omega) (RQ.rfl' HQ) (by omega)
      rw [show (nI (cntP (fun x7 => k9 ≤ bnW w y9 x7) 0)) = (nI (0)) from (by rfl)] at z9
      exact z9
    · have c2 : ¬ (iin y 61) := c2
      refine wn_bp (pc' := 21) (w := -2) rfl rfl (by decide) ?_
      try simp only [Int32.lt_iff_toInt_lt, Int32.le_iff_toInt_le, i2l_int, Int32.toInt_zero, iin] at c1
      try simp only [Int32.lt_iff_toInt_lt, Int32.le_iff_toInt_le, i2l_int, Int32.toInt_zero, iin] at c2
      refine wn_iret rfl rfl rfl ⟨congrArg (fun z => some (Value.int z)) ?_, (RQ.rfl' HQ)⟩
      unfold crossedA
      rw [qI_f (by simp only [iin]; omega)]

theorem m_moved (d : Nat) (h : aH) (w : Nat → Int32) (hWf : WfW w) (HQ : MQs h w) (i a b : Int32) : Sp (Rn (d + 9)) 194 [.ref (71), .int (i), .int (a), .int (b)] h (fun r9 h9 => r9 = some (.int (movedA w i a b)) ∧ RQ h h9 w) := by
  obtain ⟨⟨e1, e2⟩, ⟨e3, e4⟩, ⟨e5, e6⟩⟩ := Wf_n hWf
  obtain ⟨⟨e7, e8⟩, ⟨e9, e10⟩⟩ := Wf_m hWf
  obtain ⟨th, tp, sz, at9, fr, tk, vl, fk, fp, il, up, lo, sa9, tn, q0, q1, q2, q3, q4⟩ := id HQ
  refine Sp_of (by decide) (Nat.le_of_ble_eq_true rfl) ?_
  show Wn _ _ 0 [(0, .ref (71)), (1, .int (i)), (2, .int (a)), (3, .int (b))] [] _ _
  refine wn_ld (pc' := 1) (q := 0) (kin := 2) (v := .ref (71)) rfl (fun _ _ _ => rfl) rfl rfl ?_
  refine wn_ld (pc' := 2) (q := 1) (kin := 0) (v := .int (i)) rfl (fun _ _ _ => rfl) rfl rfl ?_
  refine wn_virI (pc' := 5) rfl rfl (by decide) rfl rfl q0 (Nat.le_of_ble_eq_true rfl) (m_isItem _ _ w HQ.mh _ e5 (by omega) _) ?_
  refine wn_ifeqB (t := 22) (f := 8) rfl rfl rfl (fun c1 => ?_) (fun c1 => ?_)
  · have c1 : ¬ (iin i (ntW w)) := c1
    refine wn_bp (pc' := 24) (w := -2) rfl rfl (by decide) ?_
    try simp only [Int32.lt_iff_toInt_lt, Int32.le_iff_toInt_le, i2l_int, Int32.toInt_zero, iin] at c1
    refine wn_iret rfl rfl rfl ⟨congrArg (fun z => some (Value.int z)) ?_, (RQ.rfl' HQ)⟩
    unfold movedA
    rw [qI_f (by simp only [iin]; omega)]
  · have c1 : (iin i (ntW w)) := c1
    obtain ⟨i9, hi9, rfl⟩ := iin_of c1
    have ti_i := nI_toInt (n := i9) (show i9 < 2 ^ 31 by omega)
    have cl_i := nI_clamp (n := i9) (show i9 < 2 ^ 31 by omega)
    refine wn_ld (pc' := 9) (q := 2) (kin := 0) (v := .int (a)) rfl (fun _ _ _ => rfl) rfl rfl ?_
    refine wn_staI (pc' := 12) rfl rfl (by decide) rfl rfl (Nat.le_of_ble_eq_true rfl) (m_isYear _ _ _) ?_
    refine wn_ifeqB (t := 22) (f := 15) rfl rfl rfl (fun c2 => ?_) (fun c2 => ?_)
    · have c2 : ¬ (iin a 61) := c2
      refine wn_bp (pc' := 24) (w := -2) rfl rfl (by decide) ?_
      try simp only [Int32.lt_iff_toInt_lt, Int32.le_iff_toInt_le, i2l_int, Int32.toInt_zero, iin] at c1
      try simp only [Int32.lt_iff_toInt_lt, Int32.le_iff_toInt_le, i2l_int, Int32.toInt_zero, iin] at c2
      refine wn_iret rfl rfl rfl ⟨congrArg (fun z => some (Value.int z)) ?_, (RQ.rfl' HQ)⟩
      unfold movedA
      rw [qI_f (by simp only [iin]; omega)]
    · have c2 : (iin a 61) := c2
      obtain ⟨a9, ha9, rfl⟩ := iin_of c2
      have ti_a := nI_toInt (n := a9) (show a9 < 2 ^ 31 by omega)
      have cl_a := nI_clamp (n := a9) (show a9 < 2 ^ 31 by omega)
      refine wn_ld (pc' := 16) (q := 3) (kin := 0) (v := .int (b)) rfl (fun _ _ _ => rfl) rfl rfl ?_
      refine wn_staI (pc' := 19) rfl rfl (by decide) rfl rfl (Nat.le_of_ble_eq_true rfl) (m_isYear _ _ _) ?_
      refine wn_ifneB (t := 25) (f := 22) rfl rfl rfl (fun c3 => ?_) (fun c3 => ?_)
      · have c3 : (iin b 61) := c3
        obtain ⟨b9, hb9, rfl⟩ := iin_of c3
        have ti_b := nI_toInt (n := b9) (show b9 < 2 ^ 31 by omega)
        have cl_b := nI_clamp (n := b9) (show b9 < 2 ^ 31 by omega)
        refine wn_ic (pc' := 26) (w := nI 0) rfl rfl (by decide) ?_
        refine wn_st (pc' := 28) (q := 4) (kin := 0) (lv' := [(0, .ref (71)), (1, .int (nI (i9))), (2, .int (nI (a9))), (3, .int (nI (b9))), (4, .int (nI (0)))]) rfl (fun _ _ _ => rfl) rfl (Nat.le_of_ble_eq_true rfl) rfl ?_
        refine wn_ic (pc' := 29) (w := nI 0) rfl rfl (by decide) ?_
        refine wn_st (pc' := 31) (q := 5) (kin := 0) (lv' := [(0, .ref (71)), (1, .int (nI (i9))), (2, .int (nI (a9))), (3, .int (nI (b9))), (4, .int (nI (0))), (5, .int (nI (0)))]) rfl (fun _ _ _ => rfl) rfl (Nat.le_of_ble_eq_true rfl) rfl ?_
        have lp5 : ∀ (n_lp5 : Nat) (g4 : aH) (v : Nat), (nvW w) + 1 ≤ v + n_lp5 → RQ h g4 w → v ≤ nvW w → Wn (Rn (d + 8)) 194 31 [(0, .ref (71)), (1, .int (nI (i9))), (2, .int (nI (a9))), (3, .int (nI (b9))), (4, .int (bitP (fun x7 => ¬ (sdW w a9 x7 i9 = sdW w b9 x7 i9)) v)), (5, .int (nI (v)))] [] (g4) (fun r9 h9 => r9 = some (.int (movedA w (nI i9) (nI a9) (nI b9))) ∧ RQ h h9 w) := by
          intro n_lp5
          induction n_lp5 with
          | zero => intro g4 v hm_lp5 RT_g4 hk_v; exfalso; omega
          | succ n_lp5 ih_lp5 =>
            intro g4 v hm_lp5 RT_g4 hk_v
            obtain ⟨th_g4, tp_g4, sz_g4, at9_g4, fr_g4, tk_g4, vl_g4, fk_g4, fp_g4, il_g4, up_g4, lo_g4, hM_g4, hW_g4⟩ := RT_g4.mh
            refine wn_ld (pc' := 33) (q := 5) (kin := 0) (v := .int (nI (v))) rfl (fun _ _ _ => rfl) rfl rfl ?_
            refine wn_ld (pc' := 34) (q := 0) (kin := 2) (v := .ref (71)) rfl (fun _ _ _ => rfl) rfl rfl ?_
            refine wn_get (pc' := 37) (v := .ref (72)) rfl rfl hM_g4 rfl ?_
            refine wn_ic (pc' := 38) (w := nI 1) rfl rfl (by decide) ?_
            refine wn_ialdv (pc' := 39) (j := 1) (v := (nI (nvW w))) rfl rfl hW_g4 rfl (by omega) (by decide) (e1) ?_
            refine wn_icmpN (t := 80) (f := 42) rfl rfl rfl (by omega) (by omega) (fun c6 => ?_) (fun c6 => ?_)
            · have c6 : (nvW w) ≤ v := c6
              obtain rfl : v = nvW w := by omega
              refine wn_ld (pc' := 82) (q := 4) (kin := 0) (v := .int (bitP (fun x7 => ¬ (sdW w a9 x7 i9 = sdW w b9 x7 i9)) (nvW w))) rfl (fun _ _ _ => rfl) rfl rfl ?_
              try simp only [Int32.lt_iff_toInt_lt, Int32.le_iff_toInt_le, i2l_int, Int32.toInt_zero, iin] at c1
              try simp only [Int32.lt_iff_toInt_lt, Int32.le_iff_toInt_le, i2l_int, Int32.toInt_zero, iin] at c2
              try simp only [Int32.lt_iff_toInt_lt, Int32.le_iff_toInt_le, i2l_int, Int32.toInt_zero, iin] at c3
              refine wn_iret rfl rfl rfl ⟨congrArg (fun z => some (Value.int z)) ?_, RT_g4⟩
              unfold movedA
              rw [qI_t (by simp only [iin]; omega)]
              first | rfl | (simp only [cl_i, cl_a, cl_b]; done) | (simp only [cl_i, cl_a, cl_b]; rfl)
            · have c6 : v < (nvW w) := c6
              refine wn_ld (pc' := 44) (q := 4) (kin := 0) (v := .int (bitP (fun x7 => ¬ (sdW w a9 x7 i9 = sdW w b9 x7 i9)) v)) rfl (fun _ _ _ => rfl) rfl rfl ?_
              refine wn_ld (pc' := 45) (q := 0) (kin := 2) (v := .ref (71)) rfl (fun _ _ _ => rfl) rfl rfl ?_
              refine wn_ld (pc' := 47) (q := 5) (kin := 0) (v := .int (nI (v))) rfl (fun _ _ _ => rfl) rfl rfl ?_
              refine wn_ld (pc' := 48) (q := 1) (kin := 0) (v := .int (nI (i9))) rfl (fun _ _ _ => rfl) rfl rfl ?_
              refine wn_ld (pc' := 49) (q := 2) (kin := 0) (v := .int (nI (a9))) rfl (fun _ _ _ => rfl) rfl rfl ?_
              have := sdW_5 hWf (y := a9) (show v < nvW w by omega) (show i9 < ntW w by omega)
              refine wn_virS (pc' := 52) rfl rfl (by decide) rfl rfl hM_g4 (Nat.le_of_ble_eq_true rfl) (m_saidIn _ _ w hWf RT_g4.2.2.2 v i9 a9 (by omega) (by omega) (by omega)) (fun r9 h7 e8 => ?_)
              obtain ⟨rfl, RQ_h7⟩ := e8
              have RT_h7 := RQ.tr RT_g4 RQ_h7
              obtain ⟨th_h7, tp_h7, sz_h7, at9_h7, fr_h7, tk_h7, vl_h7, fk_h7, fp_h7, il_h7, up_h7, lo_h7, hM_h7, hW_h7⟩ := RQ_h7.mh
              show Wn _ _ 52 _ [.int (nI (sdW w a9 v i9)), .int (bitP (fun x7 => ¬ (sdW w a9 x7 i9 = sdW w b9 x7 i9)) v)] h7 _
              refine wn_ld (pc' := 53) (q := 0) (kin := 2) (v := .ref (71)) rfl (fun _ _ _ => rfl) rfl rfl ?_
              refine wn_ld (pc' := 55) (q := 5) (kin := 0) (v := .int (nI (v))) rfl (fun _ _ _ => rfl) rfl rfl ?_
              refine wn_ld (pc' := 56) (q := 1) (kin := 0) (v := .int (nI (i9))) rfl (fun _ _ _ => rfl) rfl rfl ?_
              refine wn_ld (pc' := 57) (q := 3) (kin := 0) (v := .int (nI (b9))) rfl (fun _ _ _ => rfl) rfl rfl ?_
              have := sdW_5 hWf (y := b9) (show v < nvW w by omega) (show i9 < ntW w by omega)
              refine wn_virS (pc' := 60) rfl rfl (by decide) rfl rfl hM_h7 (Nat.le_of_ble_eq_true rfl) (m_saidIn _ _ w hWf RQ_h7.2.2.2 v i9 b9 (by omega) (by omega) (by omega)) (fun r9 h9 e10 => ?_)
              obtain ⟨rfl, RQ_h9⟩ := e10
              have RT_h9 := RQ.tr RT_h7 RQ_h9
              obtain ⟨th_h9, tp_h9, sz_h9, at9_h9, fr_h9, tk_h9, vl_h9, fk_h9, fp_h9, il_h9, up_h9, lo_h9, hM_h9, hW_h9⟩ := RQ_h9.mh
              show Wn _ _ 60 _ [.int (nI (sdW w b9 v i9)), .int (nI (sdW w a9 v i9)), .int (bitP (fun x7 => ¬ (sdW w a9 x7 i9 = sdW w b9 x7 i9)) v)] h9 _
              refine wn_icmpN (t := 67) (f := 63) rfl rfl rfl (by omega) (by omega) (fun c11 => ?_) (fun c11 => ?_)
              · have c11 : ¬ (sdW w a9 v i9) = (sdW w b9 v i9) := c11
                refine wn_ic (pc' := 68) (w := nI 1) rfl rfl (by decide) ?_
                refine wn_ld (pc' := 70) (q := 5) (kin := 0) (v := .int (nI (v))) rfl (fun _ _ _ => rfl) rfl rfl ?_
                refine wn_pu (pc' := 71) (st' := [.int ((nI (1)) <<< ((nI (v)) &&& 31)), .int (bitP (fun x7 => ¬ (sdW w a9 x7 i9 = sdW w b9 x7 i9)) v)]) rfl (fun _ _ _ => rfl) rfl rfl ?_
                refine wn_pu (pc' := 72) (st' := [.int ((bitP (fun x7 => ¬ (sdW w a9 x7 i9 = sdW w b9 x7 i9)) v) ||| ((nI (1)) <<< ((nI (v)) &&& 31)))]) rfl (fun _ _ _ => rfl) rfl rfl ?_
                refine wn_st (pc' := 74) (q := 4) (kin := 0) (lv' := [(0, .ref (71)), (1, .int (nI (i9))), (2, .int (nI (a9))), (3, .int (nI (b9))), (4, .int ((bitP (fun x7 => ¬ (sdW w a9 x7 i9 = sdW w b9 x7 i9)) v) ||| ((nI (1)) <<< ((nI (v)) &&& 31)))), (5, .int (nI (v)))]) rfl (fun _ _ _ => rfl) rfl (Nat.le_of_ble_eq_true rfl) rfl ?_
                refine wn_incN (n := 1) (pc' := 77) (lv' := [(0, .ref (71)), (1, .int (nI (i9))), (2, .int (nI (a9))), (3, .int (nI (b9))), (4, .int ((bitP (fun x7 => ¬ (sdW w a9 x7 i9 = sdW w b9 x7 i9)) v) ||| ((nI (1)) <<< ((nI (v)) &&& 31)))), (5, .int (nI (v + 1)))]) rfl rfl rfl (Nat.le_of_ble_eq_true rfl) rfl (by decide) ?_
                refine wn_jp (pc' := 31) rfl rfl ?_
                refine wn_weak (lv' := [(0, .ref (71)), (1, .int (nI (i9))), (2, .int (nI (a9))), (3, .int (nI (b9))), (4, .int ((bitP (fun x7 => ¬ (sdW w a9 x7 i9 = sdW w b9 x7 i9)) v) ||| ((nI (1)) <<< ((nI (v)) &&& 31)))), (5, .int (nI (v + 1)))]) (by simp) ?_
                have z9 := ih_lp5 h9 (v + 1) (by omega) RT_h9 (by omega)
                rw [show (bitP (fun x7 => ¬ (sdW w a9 x7 i9 = sdW w b9 x7 i9)) (v + 1)) = ((bitP (fun x7 => ¬ (sdW w a9 x7 i9 = sdW w b9 x7 i9)) v) ||| ((nI (1)) <<< ((nI (v)) &&& 31))) from (by exact bitP_t (p := fun x7 => ¬ (sdW w a9 x7 i9 = sdW w b9 x7 i9)) c11)] at z9
                exact z9
              · have c11 : (sdW w a9 v i9) = (sdW w b9 v i9) := c11
                refine wn_ic (pc' := 64) (w := nI 0) rfl rfl (by decide) ?_
                refine wn_jp (pc' := 71) rfl rfl ?_
                refine wn_pu (pc' := 72) (st' := [.int ((bitP (fun x7 => ¬ (sdW w a9 x7 i9 = sdW w b9 x7 i9)) v) ||| (nI (0)))]) rfl (fun _ _ _ => rfl) rfl rfl ?_
                refine wn_st (pc' := 74) (q := 4) (kin := 0) (lv' := [(0, .ref (71)), (1, .int (nI (i9))), (2, .int (nI (a9))), (3, .int (nI (b9))), (4, .int ((bitP (fun x7 => ¬ (sdW w a9 x7 i9 = sdW w b9 x7 i9)) v) ||| (nI (0)))), (5, .int (nI (v)))]) rfl (fun _ _ _ => rfl) rfl (Nat.le_of_ble_eq_true rfl) rfl ?_
                refine wn_incN (n := 1) (pc' := 77) (lv' := [(0, .ref (71)), (1, .int (nI (i9))), (2, .int (nI (a9))), (3, .int (nI (b9))), (4, .int ((bitP (fun x7 => ¬ (sdW w a9 x7 i9 = sdW w b9 x7 i9)) v) ||| (nI (0)))), (5, .int (nI (v + 1)))]) rfl rfl rfl (Nat.le_of_ble_eq_true rfl) rfl (by decide) ?_
                refine wn_jp (pc' := 31) rfl rfl ?_
                refine wn_weak (lv' := [(0, .ref (71)), (1, .int (nI (i9))), (2, .int (nI (a9))), (3, .int (nI (b9))), (4, .int ((bitP (fun x7 => ¬ (sdW w a9 x7 i9 = sdW w b9 x7 i9)) v) ||| (nI (0)))), (5, .int (nI (v + 1)))]) (by simp) ?_
                have z9 := ih_lp5 h9 (v + 1) (by omega) RT_h9 (by omega)
                rw [show (bitP (fun x7 => ¬ (sdW w a9 x7 i9 = sdW w b9 x7 i9)) (v + 1)) = ((bitP (fun x7 => ¬ (sdW w a9 x7 i9 = sdW w b9 x7 i9)) v) ||| (nI (0))) from (by exact bitP_f0 (p := fun x7 => ¬ (sdW w a9 x7 i9 = sdW w b9 x7 i9)) (fun q9 => q9 c11))] at z9
                exact z9
        refine wn_weak (lv' := [(0, .ref (71)), (1, .int (nI (i9))), (2, .int (nI (a9))), (3, .int (nI (b9))), (4, .int (nI (0))), (5, .int (nI (0)))]) (by simp) ?_
        have z9 := lp5 ((nvW w) + 1) h 0 (by omega) (RQ.rfl' HQ) (by omega)
        rw [show (bitP (fun x7 => ¬ (sdW w a9 x7 i9 = sdW w b9 x7 i9)) 0) = (nI (0)) from (by rfl)] at z9
        exact z9
      · have c3 : ¬ (iin b 61) := c3
        refine wn_bp (pc' := 24) (w := -2) rfl rfl (by decide) ?_
        try simp only [Int32.lt_iff_toInt_lt, Int32.le_iff_toInt_le, i2l_int, Int32.toInt_zero, iin] at c1
        try simp only [Int32.lt_iff_toInt_lt, Int32.le_iff_toInt_le, i2l_int, Int32.toInt_zero, iin] at c2
        try simp only [Int32.lt_iff_toInt_lt, Int32.le_iff_toInt_le, i2l_int, Int32.toInt_zero, iin] at c3
        refine wn_iret rfl rfl rfl ⟨congrArg (fun z => some (Value.int z)) ?_, (RQ.rfl' HQ)⟩
        unfold movedA
        rw [qI_f (by simp only [iin]; omega)]

theorem m_still (d : Nat) (h : aH) (w : Nat → Int32) (hWf : WfW w) (HQ : MQs h w) (i : Int32) : Sp (Rn (d + 8)) 195 [.ref (71), .int (i)] h (fun r9 h9 => r9 = some (.int (stillA w i)) ∧ RQ h h9 w) := by
  obtain ⟨⟨e1, e2⟩, ⟨e3, e4⟩, ⟨e5, e6⟩⟩ := Wf_n hWf
  obtain ⟨⟨e7, e8⟩, ⟨e9, e10⟩⟩ := Wf_m hWf
  obtain ⟨th, tp, sz, at9, fr, tk, vl, fk, fp, il, up, lo, sa9, tn, q0, q1, q2, q3, q4⟩ := id HQ
  refine Sp_of (by decide) (Nat.le_of_ble_eq_true rfl) ?_
  show Wn _ _ 0 [(0, .ref (71)), (1, .int (i))] [] _ _
  refine wn_ld (pc' := 1) (q := 0) (kin := 2) (v := .ref (71)) rfl (fun _ _ _ => rfl) rfl rfl ?_
  refine wn_ld (pc' := 2) (q := 1) (kin := 0) (v := .int (i)) rfl (fun _ _ _ => rfl) rfl rfl ?_
  refine wn_virI (pc' := 5) rfl rfl (by decide) rfl rfl q0 (Nat.le_of_ble_eq_true rfl) (m_isItem _ _ w HQ.mh _ e5 (by omega) _) ?_
  refine wn_ifneB (t := 11) (f := 8) rfl rfl rfl (fun c1 => ?_) (fun c1 => ?_)
  · have c1 : (iin i (ntW w)) := c1
    obtain ⟨i9, hi9, rfl⟩ := iin_of c1
    have ti_i := nI_toInt (n := i9) (show i9 < 2 ^ 31 by omega)
    have cl_i := nI_clamp (n := i9) (show i9 < 2 ^ 31 by omega)
    refine wn_ld (pc' := 12) (q := 0) (kin := 2) (v := .ref (71)) rfl (fun _ _ _ => rfl) rfl rfl ?_
    refine wn_virS (pc' := 15) rfl rfl (by decide) rfl rfl q0 (Nat.le_of_ble_eq_true rfl) (m_lay _ _ w hWf HQ) (fun r9 h2 e3 => ?_)
    obtain ⟨rfl, RQ_h2, sa_h2, tn_h2, l1_h2, l2_h2, l3_h2, l4_h2⟩ := e3
    have RT_h2 := RQ.tr (RQ.rfl' HQ) RQ_h2
    obtain ⟨th_h2, tp_h2, sz_h2, at9_h2, fr_h2, tk_h2, vl_h2, fk_h2, fp_h2, il_h2, up_h2, lo_h2, hM_h2, hW_h2⟩ := RQ_h2.mh
    show Wn _ _ 15 _ [] h2 _
    refine wn_bp (pc' := 17) (w := nI 60) rfl rfl (by decide) ?_
    refine wn_st (pc' := 18) (q := 2) (kin := 0) (lv' := [(0, .ref (71)), (1, .int (nI (i9))), (2, .int (nI (60)))]) rfl (fun _ _ _ => rfl) rfl (Nat.le_of_ble_eq_true rfl) rfl ?_
    have lp4 : ∀ (n_lp4 : Nat) (y : Nat), 60 + 1 ≤ (60 - y) + n_lp4 → y ≤ 60 → stW w i9 60 = stW w i9 y → Wn (Rn (d + 7)) 195 18 [(0, .ref (71)), (1, .int (nI (i9))), (2, .int (nI (y)))] [] (h2) (fun r9 h9 => r9 = some (.int (stillA w (nI i9))) ∧ RQ h h9 w) := by
      intro n_lp4
      induction n_lp4 with
      | zero => intro y hm_lp4 hy hY; exfalso; omega
      | succ n_lp4 ih_lp4 =>
        intro y hm_lp4 hy hY
        refine wn_ld (pc' := 19) (q := 2) (kin := 0) (v := .int (nI (y))) rfl (fun _ _ _ => rfl) rfl rfl ?_
        refine wn_ifN (t := 65) (f := 22) rfl rfl rfl (by omega) (fun c5 => ?_) (fun c5 => ?_)
        · have c5 : y ≤ 0 := c5
          refine wn_ic (pc' := 66) (w := nI 0) rfl rfl (by decide) ?_
          refine wn_iret rfl rfl rfl ⟨congrArg (fun z => some (Value.int z)) ?_, RT_h2⟩
          unfold stillA
          rw [qI_t (by simp only [iin]; omega), cl_i, hY]
          rw [show y = 0 by omega]; rfl
        · have c5 : 0 < y := c5
          refine wn_ic (pc' := 23) (w := nI 0) rfl rfl (by decide) ?_
          refine wn_st (pc' := 24) (q := 3) (kin := 0) (lv' := [(0, .ref (71)), (1, .int (nI (i9))), (2, .int (nI (y))), (3, .int (nI (0)))]) rfl (fun _ _ _ => rfl) rfl (Nat.le_of_ble_eq_true rfl) rfl ?_
          have lp6 : ∀ (n_lp6 : Nat) (v : Nat), (nvW w) + 1 ≤ v + n_lp6 → v ≤ nvW w → (∀ v8, v8 < v → laW w (y - 1) v8 i9 = none) → Wn (Rn (d + 7)) 195 24 [(0, .ref (71)), (1, .int (nI (i9))), (2, .int (nI (y))), (3, .int (nI (v)))] [] (h2) (fun r9 h9 => r9 = some (.int (stillA w (nI i9))) ∧ RQ h h9 w) := by
            intro n_lp6
            induction n_lp6 with
            | zero => intro v hm_lp6 hv hV; exfalso; omega
            | succ n_lp6 ih_lp6 =>
              intro v hm_lp6 hv hV
              refine wn_ld (pc' := 25) (q := 3) (kin := 0) (v := .int (nI (v))) rfl (fun _ _ _ => rfl) rfl rfl ?_
              refine wn_ld (pc' := 26) (q := 0) (kin := 2) (v := .ref (71)) rfl (fun _ _ _ => rfl) rfl rfl ?_
              refine wn_get (pc' := 29) (v := .ref (72)) rfl rfl hM_h2 rfl ?_
              refine wn_ic (pc' := 30) (w := nI 1) rfl rfl (by decide) ?_
              refine wn_ialdv (pc' := 31) (j := 1) (v := (nI (nvW w))) rfl rfl hW_h2 rfl (by omega) (by decide) (e1) ?_
              refine wn_icmpN (t := 59) (f := 34) rfl rfl rfl (by omega) (by omega) (fun c7 => ?_) (fun c7 => ?_)
              · have c7 : (nvW w) ≤ v := c7
                obtain rfl : v = nvW w := by omega
                refine wn_subN2 (n := 1) (pc' := 62) (lv' := [(0, .ref (71)), (1, .int (nI (i9))), (2, .int (nI (y - 1))), (3, .int (nI ((nvW w))))]) rfl rfl rfl (Nat.le_of_ble_eq_true rfl) rfl (by decide) (by omega) ?_
                refine wn_jp (pc' := 18) rfl rfl ?_
                refine wn_weak (lv' := [(0, .ref (71)), (1, .int (nI (i9))), (2, .int (nI (y - 1)))]) (by simp) ?_
                have z9 := ih_lp4 (y - 1) (by omega) (by omega) (hY.trans (by have e := stW_f (w := w) (i := i9) (r := y - 1) (fun v9 h9 => hV v9 h9); rw [show y - 1 + 1 = y by omega] at e; exact e))
                exact z9
              · have c7 : v < (nvW w) := c7
                refine wn_ld (pc' := 35) (q := 0) (kin := 2) (v := .ref (71)) rfl (fun _ _ _ => rfl) rfl rfl ?_
                refine wn_get (pc' := 38) (v := .ref (79)) rfl rfl hM_h2 rfl ?_
                refine wn_ld (pc' := 39) (q := 2) (kin := 0) (v := .int (nI (y))) rfl (fun _ _ _ => rfl) rfl rfl ?_
                refine wn_ic (pc' := 40) (w := nI 1) rfl rfl (by decide) ?_
                refine wn_subN (pc' := 41) rfl rfl (by omega) ?_
                refine wn_ld (pc' := 42) (q := 3) (kin := 0) (v := .int (nI (v))) rfl (fun _ _ _ => rfl) rfl rfl ?_
                refine wn_ld (pc' := 43) (q := 1) (kin := 0) (v := .int (nI (i9))) rfl (fun _ _ _ => rfl) rfl rfl ?_
                refine wn_staI (pc' := 46) rfl rfl (by decide) rfl rfl (Nat.le_of_ble_eq_true rfl) (m_cell _ _ (y - 1) v i9) ?_
                refine wn_ialdv (pc' := 47) (j := ((y - 1) * 24 + v) * 10 + i9) (v := (oI (laW w (y - 1) v i9))) rfl rfl l2_h2 rfl (by omega) (by decide) (l4_h2 (y - 1) v i9 (by omega) (by omega) (by omega)) ?_
                refine wn_ic (pc' := 48) (w := -1) rfl rfl (by decide) ?_
                refine wn_icmp (t := 53) (f := 51) rfl rfl rfl (fun c8 => ?_) (fun c8 => ?_)
                · have c8 : ((oI (laW w (y - 1) v i9))) = ((-1)) := c8
                  refine wn_incN (n := 1) (pc' := 56) (lv' := [(0, .ref (71)), (1, .int (nI (i9))), (2, .int (nI (y))), (3, .int (nI (v + 1)))]) rfl rfl rfl (Nat.le_of_ble_eq_true rfl) rfl (by decide) ?_
                  refine wn_jp (pc' := 24) rfl rfl ?_
                  refine wn_weak (lv' := [(0, .ref (71)), (1, .int (nI (i9))), (2, .int (nI (y))), (3, .int (nI (v + 1)))]) (by simp) ?_
                  have z9 := ih_lp6 (v + 1) (by omega) (by omega) (fun v8 h8 => by by_cases e : v8 = v; (subst e; exact oI_m1 (n := 20) (by decide) (fun l hl => laW_b hWf hl) c8); exact hV v8 (by omega))
                  exact z9
                · have c8 : ¬ ((oI (laW w (y - 1) v i9))) = ((-1)) := c8
                  refine wn_ld (pc' := 52) (q := 2) (kin := 0) (v := .int (nI (y))) rfl (fun _ _ _ => rfl) rfl rfl ?_
                  refine wn_iret rfl rfl rfl ⟨congrArg (fun z => some (Value.int z)) ?_, RT_h2⟩
                  unfold stillA
                  rw [qI_t (by simp only [iin]; omega), cl_i, hY]
                  have e := stW_t (w := w) (i := i9) (r := y - 1) (v := v) (by omega) (fun q => c8 (by rw [q]; rfl))
                  rw [show y - 1 + 1 = y by omega] at e
                  rw [e]
          refine wn_weak (lv' := [(0, .ref (71)), (1, .int (nI (i9))), (2, .int (nI (y))), (3, .int (nI (0)))]) (by simp) ?_
          have z9 := lp6 ((nvW w) + 1) 0 (by omega) (by omega) (fun _ q => absurd q (by omega))
          exact z9
    refine wn_weak (lv' := [(0, .ref (71)), (1, .int (nI (i9))), (2, .int (nI (60)))]) (by simp) ?_
    have z9 := lp4 (60 + 1) 60 (by omega) (by omega) rfl
    exact z9
  · have c1 : ¬ (iin i (ntW w)) := c1
    refine wn_bp (pc' := 10) (w := -2) rfl rfl (by decide) ?_
    try simp only [Int32.lt_iff_toInt_lt, Int32.le_iff_toInt_le, i2l_int, Int32.toInt_zero, iin] at c1
    refine wn_iret rfl rfl rfl ⟨congrArg (fun z => some (Value.int z)) ?_, (RQ.rfl' HQ)⟩
    unfold stillA
    rw [qI_f (by simp only [iin]; omega)]

