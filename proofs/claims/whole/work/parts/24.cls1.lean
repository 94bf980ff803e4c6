/-! the class: loops that only look -/
theorem x_countRivers (d : Nat) (h : aH) (ls : Nat) (w : Nat → Int32) (hWf : WfW w) (V : XV h ls w) : Rn (d + 1) 8 [.ref (ls)] h (some (.int (nI (cntP (fun k => w (58 + 3 * k) = 1) (nrW w))))) h 0 0 := by
  obtain ⟨⟨e1, e2⟩, ⟨e3, e4⟩, ⟨e5, e6⟩⟩ := Wf_n hWf
  obtain ⟨⟨e7, e8⟩, ⟨e9, e10⟩⟩ := Wf_m hWf
  obtain ⟨v0, ⟨x9, v1⟩, ⟨v2, ⟨sz, rf, rt, rv, ag, vr, sd, tl, l0, l1, l2, l3, l4, l5, l6, l7, l8, g1, g2, g3, g4, g5⟩, ⟨sec, it, fi, se, sg, lst, rs, rp, pj, pk, pv, k0, k1, k2, k3, k4, k5, k6, k7, k8, k9, k10, k11, k12, k13⟩, ⟨hv, hc, y0, y1, y2, y3, y4⟩, ⟨an, wk, n0, n1, n2, n3, n4⟩⟩, v3⟩ := id V
  rw [e1, e3, e5] at l0
  rw [e7, e9] at k1
  refine Rn_of (by decide) (Nat.le_of_ble_eq_true rfl) ?_
  show Wn _ _ 0 [(0, .ref (ls))] [] _ _
  refine wn_ic (pc' := 1) (w := nI 0) rfl rfl (by decide) ?_
  refine wn_st (pc' := 2) (q := 1) (kin := 0) (lv' := [(0, .ref (ls)), (1, .int (nI (0)))]) rfl (fun _ _ _ => rfl) rfl (Nat.le_of_ble_eq_true rfl) rfl ?_
  refine wn_ic (pc' := 3) (w := nI 0) rfl rfl (by decide) ?_
  refine wn_st (pc' := 4) (q := 2) (kin := 0) (lv' := [(0, .ref (ls)), (1, .int (nI (0))), (2, .int (nI (0)))]) rfl (fun _ _ _ => rfl) rfl (Nat.le_of_ble_eq_true rfl) rfl ?_
  have lp1 : ∀ (n9 : Nat) (k : Nat), (nrW w) + 1 ≤ k + n9 → k ≤ nrW w → Wn (Rn (d + 0)) 8 4 [(0, .ref (ls)), (1, .int (nI (cntP (fun x7 => w (58 + 3 * x7) = 1) k))), (2, .int (nI (k)))] [] (h) (fun r9 h9 => r9 = (some (.int (nI (cntP (fun k => w (58 + 3 * k) = 1) (nrW w))))) ∧ h9 = h) := by
    intro n9
    induction n9 with
    | zero => intro k hm9 hk_k; exfalso; omega
    | succ n9 ih =>
      intro k hm9 hk_k
      have := cntP_le (fun x7 => w (58 + 3 * x7) = 1) k
      refine wn_ld (pc' := 5) (q := 2) (kin := 0) (v := .int (nI (k))) rfl (fun _ _ _ => rfl) rfl rfl ?_
      refine wn_ld (pc' := 6) (q := 0) (kin := 2) (v := .ref (ls)) rfl (fun _ _ _ => rfl) rfl rfl ?_
      refine wn_get (pc' := 9) (v := .int (nI (nrW w))) rfl rfl l0 rfl ?_
      refine wn_icmpN (t := 30) (f := 12) rfl rfl rfl (by omega) (by omega) (fun c2 => ?_) (fun c2 => ?_)
      · have c2 : (nrW w) ≤ k := c2
        obtain rfl : k = nrW w := by omega
        refine wn_ld (pc' := 31) (q := 1) (kin := 0) (v := .int (nI (cntP (fun x7 => w (58 + 3 * x7) = 1) (nrW w)))) rfl (fun _ _ _ => rfl) rfl rfl ?_
        refine wn_iret rfl rfl rfl ⟨?_, rfl⟩
        exact congrArg (fun z => some (Value.int z)) (rfl)
      · have c2 : k < (nrW w) := c2
        refine wn_ld (pc' := 13) (q := 0) (kin := 2) (v := .ref (ls)) rfl (fun _ _ _ => rfl) rfl rfl ?_
        refine wn_get (pc' := 16) (v := .ref (ls + 4)) rfl rfl l0 rfl ?_
        refine wn_ld (pc' := 17) (q := 2) (kin := 0) (v := .int (nI (k))) rfl (fun _ _ _ => rfl) rfl rfl ?_
        refine wn_baldv (pc' := 18) (j := k) (v := (bI (w (58 + 3 * k) = 1))) rfl rfl (Or.inr rfl) l4 rfl (by omega) (by decide) ((g2 k (by omega)).2.2.1.trans (wf_rv hWf (by omega))) ?_
        refine wn_ifeqB (t := 24) (f := 21) rfl rfl rfl (fun c3 => ?_) (fun c3 => ?_)
        · have c3 : ¬ (w (58 + 3 * k) = 1) := c3
          refine wn_incN (n := 1) (pc' := 27) (lv' := [(0, .ref (ls)), (1, .int (nI (cntP (fun x7 => w (58 + 3 * x7) = 1) k))), (2, .int (nI (k + 1)))]) rfl rfl rfl (Nat.le_of_ble_eq_true rfl) rfl (by decide) ?_
          refine wn_jp (pc' := 4) rfl rfl ?_
          refine wn_weak (lv' := [(0, .ref (ls)), (1, .int (nI (cntP (fun x7 => w (58 + 3 * x7) = 1) k))), (2, .int (nI (k + 1)))]) (by simp) ?_
          have z9 := ih (k + 1) (by omega) (by omega)
          rw [show (nI (cntP (fun x7 => w (58 + 3 * x7) = 1) (k + 1))) = (nI (cntP (fun x7 => w (58 + 3 * x7) = 1) k)) from (by exact congrArg nI (cntP_f (p := fun x7 => w (58 + 3 * x7) = 1) c3))] at z9
          exact z9
        · have c3 : (w (58 + 3 * k) = 1) := c3
          refine wn_incN (n := 1) (pc' := 24) (lv' := [(0, .ref (ls)), (1, .int (nI (cntP (fun x7 => w (58 + 3 * x7) = 1) k + 1))), (2, .int (nI (k)))]) rfl rfl rfl (Nat.le_of_ble_eq_true rfl) rfl (by decide) ?_
          refine wn_incN (n := 1) (pc' := 27) (lv' := [(0, .ref (ls)), (1, .int (nI (cntP (fun x7 => w (58 + 3 * x7) = 1) k + 1))), (2, .int (nI (k + 1)))]) rfl rfl rfl (Nat.le_of_ble_eq_true rfl) rfl (by decide) ?_
          refine wn_jp (pc' := 4) rfl rfl ?_
          refine wn_weak (lv' := [(0, .ref (ls)), (1, .int (nI (cntP (fun x7 => w (58 + 3 * x7) = 1) k + 1))), (2, .int (nI (k + 1)))]) (by simp) ?_
          have z9 := ih (k + 1) (by omega) (by omega)
          rw [show (nI (cntP (fun x7 => w (58 + 3 * x7) = 1) (k + 1))) = (nI (cntP (fun x7 => w (58 + 3 * x7) = 1) k + 1)) from (by exact congrArg nI (cntP_t (p := fun x7 => w (58 + 3 * x7) = 1) c3))] at z9
          exact z9
  refine wn_weak (lv' := [(0, .ref (ls)), (1, .int (nI (0))), (2, .int (nI (0)))]) (by simp) ?_
  have z9 := lp1 ((nrW w) + 1) 0 (by omega) (by omega)
  rw [show (nI (cntP (fun x7 => w (58 + 3 * x7) = 1) 0)) = (nI (0)) from (by rfl)] at z9
  exact z9

theorem x_countRoadsAt (d : Nat) (h : aH) (ls : Nat) (w : Nat → Int32) (hWf : WfW w) (V : XV h ls w) (v : Nat) (hv9 : v < nvW w) : Rn (d + 1) 9 [.ref (ls), .int (nI (v))] h (some (.int (nI (cntP (fun k => (rdA w k = v) ∨ (rdB w k = v)) (nrW w))))) h 0 0 := by
  obtain ⟨⟨e1, e2⟩, ⟨e3, e4⟩, ⟨e5, e6⟩⟩ := Wf_n hWf
  obtain ⟨⟨e7, e8⟩, ⟨e9, e10⟩⟩ := Wf_m hWf
  obtain ⟨v0, ⟨x9, v1⟩, ⟨v2, ⟨sz, rf, rt, rv, ag, vr, sd, tl, l0, l1, l2, l3, l4, l5, l6, l7, l8, g1, g2, g3, g4, g5⟩, ⟨sec, it, fi, se, sg, lst, rs, rp, pj, pk, pv, k0, k1, k2, k3, k4, k5, k6, k7, k8, k9, k10, k11, k12, k13⟩, ⟨hv, hc, y0, y1, y2, y3, y4⟩, ⟨an, wk, n0, n1, n2, n3, n4⟩⟩, v3⟩ := id V
  rw [e1, e3, e5] at l0
  rw [e7, e9] at k1
  refine Rn_of (by decide) (Nat.le_of_ble_eq_true rfl) ?_
  show Wn _ _ 0 [(0, .ref (ls)), (1, .int (nI (v)))] [] _ _
  refine wn_ic (pc' := 1) (w := nI 0) rfl rfl (by decide) ?_
  refine wn_st (pc' := 2) (q := 2) (kin := 0) (lv' := [(0, .ref (ls)), (1, .int (nI (v))), (2, .int (nI (0)))]) rfl (fun _ _ _ => rfl) rfl (Nat.le_of_ble_eq_true rfl) rfl ?_
  refine wn_ic (pc' := 3) (w := nI 0) rfl rfl (by decide) ?_
  refine wn_st (pc' := 4) (q := 3) (kin := 0) (lv' := [(0, .ref (ls)), (1, .int (nI (v))), (2, .int (nI (0))), (3, .int (nI (0)))]) rfl (fun _ _ _ => rfl) rfl (Nat.le_of_ble_eq_true rfl) rfl ?_
  have lp1 : ∀ (n9 : Nat) (k : Nat), (nrW w) + 1 ≤ k + n9 → k ≤ nrW w → Wn (Rn (d + 0)) 9 4 [(0, .ref (ls)), (1, .int (nI (v))), (2, .int (nI (cntP (fun x7 => (rdA w x7 = v) ∨ (rdB w x7 = v)) k))), (3, .int (nI (k)))] [] (h) (fun r9 h9 => r9 = (some (.int (nI (cntP (fun k => (rdA w k = v) ∨ (rdB w k = v)) (nrW w))))) ∧ h9 = h) := by
    intro n9
    induction n9 with
    | zero => intro k hm9 hk_k; exfalso; omega
    | succ n9 ih =>
      intro k hm9 hk_k
      have := cntP_le (fun x7 => (rdA w x7 = v) ∨ (rdB w x7 = v)) k
      refine wn_ld (pc' := 5) (q := 3) (kin := 0) (v := .int (nI (k))) rfl (fun _ _ _ => rfl) rfl rfl ?_
      refine wn_ld (pc' := 6) (q := 0) (kin := 2) (v := .ref (ls)) rfl (fun _ _ _ => rfl) rfl rfl ?_
      refine wn_get (pc' := 9) (v := .int (nI (nrW w))) rfl rfl l0 rfl ?_
      refine wn_icmpN (t := 41) (f := 12) rfl rfl rfl (by omega) (by omega) (fun c2 => ?_) (fun c2 => ?_)
      · have c2 : (nrW w) ≤ k := c2
        obtain rfl : k = nrW w := by omega
        refine wn_ld (pc' := 42) (q := 2) (kin := 0) (v := .int (nI (cntP (fun x7 => (rdA w x7 = v) ∨ (rdB w x7 = v)) (nrW w)))) rfl (fun _ _ _ => rfl) rfl rfl ?_
        refine wn_iret rfl rfl rfl ⟨?_, rfl⟩
        exact congrArg (fun z => some (Value.int z)) (rfl)
      · have c2 : k < (nrW w) := c2
        refine wn_ld (pc' := 13) (q := 0) (kin := 2) (v := .ref (ls)) rfl (fun _ _ _ => rfl) rfl rfl ?_
        refine wn_get (pc' := 16) (v := .ref (ls + 2)) rfl rfl l0 rfl ?_
        refine wn_ld (pc' := 17) (q := 3) (kin := 0) (v := .int (nI (k))) rfl (fun _ _ _ => rfl) rfl rfl ?_
        have := wf_rdb hWf (show k < nrW w by omega)
        refine wn_ialdv (pc' := 18) (j := k) (v := (nI (rdA w k))) rfl rfl l2 rfl (by omega) (by decide) ((g2 k (by omega)).1.trans (wf_rda hWf (by omega))) ?_
        refine wn_ld (pc' := 19) (q := 1) (kin := 0) (v := .int (nI (v))) rfl (fun _ _ _ => rfl) rfl rfl ?_
        refine wn_icmpN (t := 32) (f := 22) rfl rfl rfl (by omega) (by omega) (fun c3 => ?_) (fun c3 => ?_)
        · have c3 : (rdA w k) = v := c3
          refine wn_incN (n := 1) (pc' := 35) (lv' := [(0, .ref (ls)), (1, .int (nI (v))), (2, .int (nI (cntP (fun x7 => (rdA w x7 = v) ∨ (rdB w x7 = v)) k + 1))), (3, .int (nI (k)))]) rfl rfl rfl (Nat.le_of_ble_eq_true rfl) rfl (by decide) ?_
          refine wn_incN (n := 1) (pc' := 38) (lv' := [(0, .ref (ls)), (1, .int (nI (v))), (2, .int (nI (cntP (fun x7 => (rdA w x7 = v) ∨ (rdB w x7 = v)) k + 1))), (3, .int (nI (k + 1)))]) rfl rfl rfl (Nat.le_of_ble_eq_true rfl) rfl (by decide) ?_
          refine wn_jp (pc' := 4) rfl rfl ?_
          refine wn_weak (lv' := [(0, .ref (ls)), (1, .int (nI (v))), (2, .int (nI (cntP (fun x7 => (rdA w x7 = v) ∨ (rdB w x7 = v)) k + 1))), (3, .int (nI (k + 1)))]) (by simp) ?_
          have z9 := ih (k + 1) (by omega) (by omega)
          rw [show (nI (cntP (fun x7 => (rdA w x7 = v) ∨ (rdB w x7 = v)) (k + 1))) = (nI (cntP (fun x7 => (rdA w x7 = v) ∨ (rdB w x7 = v)) k + 1)) from (by exact congrArg nI (cntP_t (p := fun x7 => (rdA w x7 = v) ∨ (rdB w x7 = v)) (by omega)))] at z9
          exact z9
        · have c3 : ¬ (rdA w k) = v := c3
          refine wn_ld (pc' := 23) (q := 0) (kin := 2) (v := .ref (ls)) rfl (fun _ _ _ => rfl) rfl rfl ?_
          refine wn_get (pc' := 26) (v := .ref (ls + 3)) rfl rfl l0 rfl ?_
          refine wn_ld (pc' := 27) (q := 3) (kin := 0) (v := .int (nI (k))) rfl (fun _ _ _ => rfl) rfl rfl ?_
          have := wf_rdb hWf (show k < nrW w by omega)
          refine wn_ialdv (pc' := 28) (j := k) (v := (nI (rdB w k))) rfl rfl l3 rfl (by omega) (by decide) ((g2 k (by omega)).2.1.trans (wf_rdB hWf (by omega))) ?_
          refine wn_ld (pc' := 29) (q := 1) (kin := 0) (v := .int (nI (v))) rfl (fun _ _ _ => rfl) rfl rfl ?_
          refine wn_icmpN (t := 35) (f := 32) rfl rfl rfl (by omega) (by omega) (fun c4 => ?_) (fun c4 => ?_)
          · have c4 : ¬ (rdB w k) = v := c4
            refine wn_incN (n := 1) (pc' := 38) (lv' := [(0, .ref (ls)), (1, .int (nI (v))), (2, .int (nI (cntP (fun x7 => (rdA w x7 = v) ∨ (rdB w x7 = v)) k))), (3, .int (nI (k + 1)))]) rfl rfl rfl (Nat.le_of_ble_eq_true rfl) rfl (by decide) ?_
            refine wn_jp (pc' := 4) rfl rfl ?_
            refine wn_weak (lv' := [(0, .ref (ls)), (1, .int (nI (v))), (2, .int (nI (cntP (fun x7 => (rdA w x7 = v) ∨ (rdB w x7 = v)) k))), (3, .int (nI (k + 1)))]) (by simp) ?_
            have z9 := ih (k + 1) (by omega) (by omega)
            rw [show (nI (cntP (fun x7 => (rdA w x7 = v) ∨ (rdB w x7 = v)) (k + 1))) = (nI (cntP (fun x7 => (rdA w x7 = v) ∨ (rdB w x7 = v)) k)) from (by exact congrArg nI (cntP_f (p := fun x7 => (rdA w x7 = v) ∨ (rdB w x7 = v)) (by omega)))] at z9
            exact z9
          · have c4 : (rdB w k) = v := c4
            refine wn_incN (n := 1) (pc' := 35) (lv' := [(0, .ref (ls)), (1, .int (nI (v))), (2, .int (nI (cntP (fun x7 => (rdA w x7 = v) ∨ (rdB w x7 = v)) k + 1))), (3, .int (nI (k)))]) rfl rfl rfl (Nat.le_of_ble_eq_true rfl) rfl (by decide) ?_
            refine wn_incN (n := 1) (pc' := 38) (lv' := [(0, .ref (ls)), (1, .int (nI (v))), (2, .int (nI (cntP (fun x7 => (rdA w x7 = v) ∨ (rdB w x7 = v)) k + 1))), (3, .int (nI (k + 1)))]) rfl rfl rfl (Nat.le_of_ble_eq_true rfl) rfl (by decide) ?_
            refine wn_jp (pc' := 4) rfl rfl ?_
            refine wn_weak (lv' := [(0, .ref (ls)), (1, .int (nI (v))), (2, .int (nI (cntP (fun x7 => (rdA w x7 = v) ∨ (rdB w x7 = v)) k + 1))), (3, .int (nI (k + 1)))]) (by simp) ?_
            have z9 := ih (k + 1) (by omega) (by omega)
            rw [show (nI (cntP (fun x7 => (rdA w x7 = v) ∨ (rdB w x7 = v)) (k + 1))) = (nI (cntP (fun x7 => (rdA w x7 = v) ∨ (rdB w x7 = v)) k + 1)) from (by exact congrArg nI (cntP_t (p := fun x7 => (rdA w x7 = v) ∨ (rdB w x7 = v)) (by omega)))] at z9
            exact z9
  refine wn_weak (lv' := [(0, .ref (ls)), (1, .int (nI (v))), (2, .int (nI (0))), (3, .int (nI (0)))]) (by simp) ?_
  have z9 := lp1 ((nrW w) + 1) 0 (by omega) (by omega)
  rw [show (nI (cntP (fun x7 => (rdA w x7 = v) ∨ (rdB w x7 = v)) 0)) = (nI (0)) from (by rfl)] at z9
  exact z9

theorem x_countLines0 (d : Nat) (h : aH) (ls : Nat) (w : Nat → Int32) (hWf : WfW w) (V : XV h ls w) (i y : Nat) (hi : i < ntW w) (hy : y ≤ 60) (Rc : Rch h w i y) : Rn (d + 4) 73 [.ref (0), .int (nI (i)), .int (nI (y)), .int (nI (0))] h (some (.int (nI (cntP (fun k => lnW w k i y) (nrW w))))) h 0 0 := by
  obtain ⟨⟨e1, e2⟩, ⟨e3, e4⟩, ⟨e5, e6⟩⟩ := Wf_n hWf
  obtain ⟨⟨e7, e8⟩, ⟨e9, e10⟩⟩ := Wf_m hWf
  obtain ⟨v0, ⟨x9, v1⟩, ⟨v2, ⟨sz, rf, rt, rv, ag, vr, sd, tl, l0, l1, l2, l3, l4, l5, l6, l7, l8, g1, g2, g3, g4, g5⟩, ⟨sec, it, fi, se, sg, lst, rs, rp, pj, pk, pv, k0, k1, k2, k3, k4, k5, k6, k7, k8, k9, k10, k11, k12, k13⟩, ⟨hv, hc, y0, y1, y2, y3, y4⟩, ⟨an, wk, n0, n1, n2, n3, n4⟩⟩, v3⟩ := id V
  rw [e1, e3, e5] at l0
  rw [e7, e9] at k1
  refine Rn_of (by decide) (Nat.le_of_ble_eq_true rfl) ?_
  show Wn _ _ 0 [(0, .ref (0)), (1, .int (nI (i))), (2, .int (nI (y))), (3, .int (nI (0)))] [] _ _
  refine wn_ld (pc' := 1) (q := 0) (kin := 2) (v := .ref (0)) rfl (fun _ _ _ => rfl) rfl rfl ?_
  refine wn_get (pc' := 4) (v := .ref (23)) rfl rfl v1 rfl ?_
  refine wn_get (pc' := 7) (v := .ref (ls)) rfl rfl v2 rfl ?_
  refine wn_st (pc' := 9) (q := 4) (kin := 2) (lv' := [(0, .ref (0)), (1, .int (nI (i))), (2, .int (nI (y))), (3, .int (nI (0))), (4, .ref (ls))]) rfl (fun _ _ _ => rfl) rfl (Nat.le_of_ble_eq_true rfl) rfl ?_
  refine wn_ic (pc' := 10) (w := nI 0) rfl rfl (by decide) ?_
  refine wn_st (pc' := 12) (q := 5) (kin := 0) (lv' := [(0, .ref (0)), (1, .int (nI (i))), (2, .int (nI (y))), (3, .int (nI (0))), (4, .ref (ls)), (5, .int (nI (0)))]) rfl (fun _ _ _ => rfl) rfl (Nat.le_of_ble_eq_true rfl) rfl ?_
  refine wn_ic (pc' := 13) (w := nI 0) rfl rfl (by decide) ?_
  refine wn_st (pc' := 15) (q := 6) (kin := 0) (lv' := [(0, .ref (0)), (1, .int (nI (i))), (2, .int (nI (y))), (3, .int (nI (0))), (4, .ref (ls)), (5, .int (nI (0))), (6, .int (nI (0)))]) rfl (fun _ _ _ => rfl) rfl (Nat.le_of_ble_eq_true rfl) rfl ?_
  have lp1 : ∀ (n9 : Nat) (k : Nat), (nrW w) + 1 ≤ k + n9 → k ≤ nrW w → Wn (Rn (d + 3)) 73 15 [(0, .ref (0)), (1, .int (nI (i))), (2, .int (nI (y))), (3, .int (nI (0))), (4, .ref (ls)), (5, .int (nI (cntP (fun x7 => lnW w x7 i y) k))), (6, .int (nI (k)))] [] (h) (fun r9 h9 => r9 = (some (.int (nI (cntP (fun k => lnW w k i y) (nrW w))))) ∧ h9 = h) := by
    intro n9
    induction n9 with
    | zero => intro k hm9 hk_k; exfalso; omega
    | succ n9 ih =>
      intro k hm9 hk_k
      have := cntP_le (fun x7 => lnW w x7 i y) k
      refine wn_ld (pc' := 17) (q := 6) (kin := 0) (v := .int (nI (k))) rfl (fun _ _ _ => rfl) rfl rfl ?_
      refine wn_ld (pc' := 19) (q := 4) (kin := 2) (v := .ref (ls)) rfl (fun _ _ _ => rfl) rfl rfl ?_
      refine wn_get (pc' := 22) (v := .int (nI (nrW w))) rfl rfl l0 rfl ?_
      refine wn_icmpN (t := 60) (f := 25) rfl rfl rfl (by omega) (by omega) (fun c2 => ?_) (fun c2 => ?_)
      · have c2 : (nrW w) ≤ k := c2
        obtain rfl : k = nrW w := by omega
        refine wn_ld (pc' := 62) (q := 5) (kin := 0) (v := .int (nI (cntP (fun x7 => lnW w x7 i y) (nrW w)))) rfl (fun _ _ _ => rfl) rfl rfl ?_
        refine wn_iret rfl rfl rfl ⟨?_, rfl⟩
        exact congrArg (fun z => some (Value.int z)) (rfl)
      · have c2 : k < (nrW w) := c2
        refine wn_ld (pc' := 26) (q := 0) (kin := 2) (v := .ref (0)) rfl (fun _ _ _ => rfl) rfl rfl ?_
        refine wn_ld (pc' := 28) (q := 6) (kin := 0) (v := .int (nI (k))) rfl (fun _ _ _ => rfl) rfl rfl ?_
        refine wn_ld (pc' := 29) (q := 1) (kin := 0) (v := .int (nI (i))) rfl (fun _ _ _ => rfl) rfl rfl ?_
        refine wn_ld (pc' := 30) (q := 2) (kin := 0) (v := .int (nI (y))) rfl (fun _ _ _ => rfl) rfl rfl ?_
        refine wn_virI (pc' := 33) rfl rfl (by decide) rfl rfl v1 (Nat.le_of_ble_eq_true rfl) (x_isLine _ _ ls w hWf V k i y (by omega) (by omega) (by omega) Rc) ?_
        refine wn_ifeqB (t := 54) (f := 36) rfl rfl rfl (fun c3 => ?_) (fun c3 => ?_)
        · have c3 : ¬ (lnW w k i y) := c3
          refine wn_incN (n := 1) (pc' := 57) (lv' := [(0, .ref (0)), (1, .int (nI (i))), (2, .int (nI (y))), (3, .int (nI (0))), (4, .ref (ls)), (5, .int (nI (cntP (fun x7 => lnW w x7 i y) k))), (6, .int (nI (k + 1)))]) rfl rfl rfl (Nat.le_of_ble_eq_true rfl) rfl (by decide) ?_
          refine wn_jp (pc' := 15) rfl rfl ?_
          refine wn_weak (lv' := [(0, .ref (0)), (1, .int (nI (i))), (2, .int (nI (y))), (3, .int (nI (0))), (4, .ref (ls)), (5, .int (nI (cntP (fun x7 => lnW w x7 i y) k))), (6, .int (nI (k + 1)))]) (by simp) ?_
          have z9 := ih (k + 1) (by omega) (by omega)
          rw [show (nI (cntP (fun x7 => lnW w x7 i y) (k + 1))) = (nI (cntP (fun x7 => lnW w x7 i y) k)) from (by exact congrArg nI (cntP_f (p := fun x7 => lnW w x7 i y) c3))] at z9
          exact z9
        · have c3 : (lnW w k i y) := c3
          refine wn_ld (pc' := 38) (q := 4) (kin := 2) (v := .ref (ls)) rfl (fun _ _ _ => rfl) rfl rfl ?_
          refine wn_get (pc' := 41) (v := .ref (ls + 4)) rfl rfl l0 rfl ?_
          refine wn_ld (pc' := 43) (q := 6) (kin := 0) (v := .int (nI (k))) rfl (fun _ _ _ => rfl) rfl rfl ?_
          refine wn_baldv (pc' := 44) (j := k) (v := (bI (w (58 + 3 * k) = 1))) rfl rfl (Or.inr rfl) l4 rfl (by omega) (by decide) ((g2 k (by omega)).2.2.1.trans (wf_rv hWf (by omega))) ?_
          refine wn_ifneB (t := 51) (f := 47) rfl rfl rfl (fun c4 => ?_) (fun c4 => ?_)
          · have c4 : (w (58 + 3 * k) = 1) := c4
            refine wn_incN (n := 1) (pc' := 54) (lv' := [(0, .ref (0)), (1, .int (nI (i))), (2, .int (nI (y))), (3, .int (nI (0))), (4, .ref (ls)), (5, .int (nI (cntP (fun x7 => lnW w x7 i y) k + 1))), (6, .int (nI (k)))]) rfl rfl rfl (Nat.le_of_ble_eq_true rfl) rfl (by decide) ?_
            refine wn_incN (n := 1) (pc' := 57) (lv' := [(0, .ref (0)), (1, .int (nI (i))), (2, .int (nI (y))), (3, .int (nI (0))), (4, .ref (ls)), (5, .int (nI (cntP (fun x7 => lnW w x7 i y) k + 1))), (6, .int (nI (k + 1)))]) rfl rfl rfl (Nat.le_of_ble_eq_true rfl) rfl (by decide) ?_
            refine wn_jp (pc' := 15) rfl rfl ?_
            refine wn_weak (lv' := [(0, .ref (0)), (1, .int (nI (i))), (2, .int (nI (y))), (3, .int (nI (0))), (4, .ref (ls)), (5, .int (nI (cntP (fun x7 => lnW w x7 i y) k + 1))), (6, .int (nI (k + 1)))]) (by simp) ?_
            have z9 := ih (k + 1) (by omega) (by omega)
            rw [show (nI (cntP (fun x7 => lnW w x7 i y) (k + 1))) = (nI (cntP (fun x7 => lnW w x7 i y) k + 1)) from (by exact congrArg nI (cntP_t (p := fun x7 => lnW w x7 i y) c3))] at z9
            exact z9
          · have c4 : ¬ (w (58 + 3 * k) = 1) := c4
            refine wn_ld (pc' := 48) (q := 3) (kin := 0) (v := .int (nI (0))) rfl (fun _ _ _ => rfl) rfl rfl ?_
            refine wn_ifN (t := 54) (f := 51) rfl rfl rfl (by omega) (fun c5 => ?_) (fun c5 => ?_)
            · have c5 : ¬ 0 = 0 := c5
              exact absurd c5 (by decide)
            · have c5 : 0 = 0 := c5
              refine wn_incN (n := 1) (pc' := 54) (lv' := [(0, .ref (0)), (1, .int (nI (i))), (2, .int (nI (y))), (3, .int (nI (0))), (4, .ref (ls)), (5, .int (nI (cntP (fun x7 => lnW w x7 i y) k + 1))), (6, .int (nI (k)))]) rfl rfl rfl (Nat.le_of_ble_eq_true rfl) rfl (by decide) ?_
              refine wn_incN (n := 1) (pc' := 57) (lv' := [(0, .ref (0)), (1, .int (nI (i))), (2, .int (nI (y))), (3, .int (nI (0))), (4, .ref (ls)), (5, .int (nI (cntP (fun x7 => lnW w x7 i y) k + 1))), (6, .int (nI (k + 1)))]) rfl rfl rfl (Nat.le_of_ble_eq_true rfl) rfl (by decide) ?_
              refine wn_jp (pc' := 15) rfl rfl ?_
              refine wn_weak (lv' := [(0, .ref (0)), (1, .int (nI (i))), (2, .int (nI (y))), (3, .int (nI (0))), (4, .ref (ls)), (5, .int (nI (cntP (fun x7 => lnW w x7 i y) k + 1))), (6, .int (nI (k + 1)))]) (by simp) ?_
              have z9 := ih (k + 1) (by omega) (by omega)
              rw [show (nI (cntP (fun x7 => lnW w x7 i y) (k + 1))) = (nI (cntP (fun x7 => lnW w x7 i y) k + 1)) from (by exact congrArg nI (cntP_t (p := fun x7 => lnW w x7 i y) c3))] at z9
              exact z9
  refine wn_weak (lv' := [(0, .ref (0)), (1, .int (nI (i))), (2, .int (nI (y))), (3, .int (nI (0))), (4, .ref (ls)), (5, .int (nI (0))), (6, .int (nI (0)))]) (by simp) ?_
  have z9 := lp1 ((nrW w) + 1) 0 (by omega) (by omega)
  rw [show (nI (cntP (fun x7 => lnW w x7 i y) 0)) = (nI (0)) from (by rfl)] at z9
  exact z9

theorem x_countLines1 (d : Nat) (h : aH) (ls : Nat) (w : Nat → Int32) (hWf : WfW w) (V : XV h ls w) (i y : Nat) (hi : i < ntW w) (hy : y ≤ 60) (Rc : Rch h w i y) : Rn (d + 4) 73 [.ref (0), .int (nI (i)), .int (nI (y)), .int (nI (1))] h (some (.int (nI (cntP (fun k => (lnW w k i y) ∧ (w (58 + 3 * k) = 1)) (nrW w))))) h 0 0 := by
  obtain ⟨⟨e1, e2⟩, ⟨e3, e4⟩, ⟨e5, e6⟩⟩ := Wf_n hWf
  obtain ⟨⟨e7, e8⟩, ⟨e9, e10⟩⟩ := Wf_m hWf
  obtain ⟨v0, ⟨x9, v1⟩, ⟨v2, ⟨sz, rf, rt, rv, ag, vr, sd, tl, l0, l1, l2, l3, l4, l5, l6, l7, l8, g1, g2, g3, g4, g5⟩, ⟨sec, it, fi, se, sg, lst, rs, rp, pj, pk, pv, k0, k1, k2, k3, k4, k5, k6, k7, k8, k9, k10, k11, k12, k13⟩, ⟨hv, hc, y0, y1, y2, y3, y4⟩, ⟨an, wk, n0, n1, n2, n3, n4⟩⟩, v3⟩ := id V
  rw [e1, e3, e5] at l0
  rw [e7, e9] at k1
  refine Rn_of (by decide) (Nat.le_of_ble_eq_true rfl) ?_
  show Wn _ _ 0 [(0, .ref (0)), (1, .int (nI (i))), (2, .int (nI (y))), (3, .int (nI (1)))] [] _ _
  refine wn_ld (pc' := 1) (q := 0) (kin := 2) (v := .ref (0)) rfl (fun _ _ _ => rfl) rfl rfl ?_
  refine wn_get (pc' := 4) (v := .ref (23)) rfl rfl v1 rfl ?_
  refine wn_get (pc' := 7) (v := .ref (ls)) rfl rfl v2 rfl ?_
  refine wn_st (pc' := 9) (q := 4) (kin := 2) (lv' := [(0, .ref (0)), (1, .int (nI (i))), (2, .int (nI (y))), (3, .int (nI (1))), (4, .ref (ls))]) rfl (fun _ _ _ => rfl) rfl (Nat.le_of_ble_eq_true rfl) rfl ?_
  refine wn_ic (pc' := 10) (w := nI 0) rfl rfl (by decide) ?_
  refine wn_st (pc' := 12) (q := 5) (kin := 0) (lv' := [(0, .ref (0)), (1, .int (nI (i))), (2, .int (nI (y))), (3, .int (nI (1))), (4, .ref (ls)), (5, .int (nI (0)))]) rfl (fun _ _ _ => rfl) rfl (Nat.le_of_ble_eq_true rfl) rfl ?_
  refine wn_ic (pc' := 13) (w := nI 0) rfl rfl (by decide) ?_
  refine wn_st (pc' := 15) (q := 6) (kin := 0) (lv' := [(0, .ref (0)), (1, .int (nI (i))), (2, .int (nI (y))), (3, .int (nI (1))), (4, .ref (ls)), (5, .int (nI (0))), (6, .int (nI (0)))]) rfl (fun _ _ _ => rfl) rfl (Nat.le_of_ble_eq_true rfl) rfl ?_
  have lp1 : ∀ (n9 : Nat) (k : Nat), (nrW w) + 1 ≤ k + n9 → k ≤ nrW w → Wn (Rn (d + 3)) 73 15 [(0, .ref (0)), (1, .int (nI (i))), (2, .int (nI (y))), (3, .int (nI (1))), (4, .ref (ls)), (5, .int (nI (cntP (fun x7 => (lnW w x7 i y) ∧ (w (58 + 3 * x7) = 1)) k))), (6, .int (nI (k)))] [] (h) (fun r9 h9 => r9 = (some (.int (nI (cntP (fun k => (lnW w k i y) ∧ (w (58 + 3 * k) = 1)) (nrW w))))) ∧ h9 = h) := by
    intro n9
    induction n9 with
    | zero => intro k hm9 hk_k; exfalso; omega
    | succ n9 ih =>
      intro k hm9 hk_k
      have := cntP_le (fun x7 => (lnW w x7 i y) ∧ (w (58 + 3 * x7) = 1)) k
      refine wn_ld (pc' := 17) (q := 6) (kin := 0) (v := .int (nI (k))) rfl (fun _ _ _ => rfl) rfl rfl ?_
      refine wn_ld (pc' := 19) (q := 4) (kin := 2) (v := .ref (ls)) rfl (fun _ _ _ => rfl) rfl rfl ?_
      refine wn_get (pc' := 22) (v := .int (nI (nrW w))) rfl rfl l0 rfl ?_
      refine wn_icmpN (t := 60) (f := 25) rfl rfl rfl (by omega) (by omega) (fun c2 => ?_) (fun c2 => ?_)
      · have c2 : (nrW w) ≤ k := c2
        obtain rfl : k = nrW w := by omega
        refine wn_ld (pc' := 62) (q := 5) (kin := 0) (v := .int (nI (cntP (fun x7 => (lnW w x7 i y) ∧ (w (58 + 3 * x7) = 1)) (nrW w)))) rfl (fun _ _ _ => rfl) rfl rfl ?_
        refine wn_iret rfl rfl rfl ⟨?_, rfl⟩
        exact congrArg (fun z => some (Value.int z)) (rfl)
      · have c2 : k < (nrW w) := c2
        refine wn_ld (pc' := 26) (q := 0) (kin := 2) (v := .ref (0)) rfl (fun _ _ _ => rfl) rfl rfl ?_
        refine wn_ld (pc' := 28) (q := 6) (kin := 0) (v := .int (nI (k))) rfl (fun _ _ _ => rfl) rfl rfl ?_
        refine wn_ld (pc' := 29) (q := 1) (kin := 0) (v := .int (nI (i))) rfl (fun _ _ _ => rfl) rfl rfl ?_
        refine wn_ld (pc' := 30) (q := 2) (kin := 0) (v := .int (nI (y))) rfl (fun _ _ _ => rfl) rfl rfl ?_
        refine wn_virI (pc' := 33) rfl rfl (by decide) rfl rfl v1 (Nat.le_of_ble_eq_true rfl) (x_isLine _ _ ls w hWf V k i y (by omega) (by omega) (by omega) Rc) ?_
        refine wn_ifeqB (t := 54) (f := 36) rfl rfl rfl (fun c3 => ?_) (fun c3 => ?_)
        · have c3 : ¬ (lnW w k i y) := c3
          refine wn_incN (n := 1) (pc' := 57) (lv' := [(0, .ref (0)), (1, .int (nI (i))), (2, .int (nI (y))), (3, .int (nI (1))), (4, .ref (ls)), (5, .int (nI (cntP (fun x7 => (lnW w x7 i y) ∧ (w (58 + 3 * x7) = 1)) k))), (6, .int (nI (k + 1)))]) rfl rfl rfl (Nat.le_of_ble_eq_true rfl) rfl (by decide) ?_
          refine wn_jp (pc' := 15) rfl rfl ?_
          refine wn_weak (lv' := [(0, .ref (0)), (1, .int (nI (i))), (2, .int (nI (y))), (3, .int (nI (1))), (4, .ref (ls)), (5, .int (nI (cntP (fun x7 => (lnW w x7 i y) ∧ (w (58 + 3 * x7) = 1)) k))), (6, .int (nI (k + 1)))]) (by simp) ?_
          have z9 := ih (k + 1) (by omega) (by omega)
          rw [show (nI (cntP (fun x7 => (lnW w x7 i y) ∧ (w (58 + 3 * x7) = 1)) (k + 1))) = (nI (cntP (fun x7 => (lnW w x7 i y) ∧ (w (58 + 3 * x7) = 1)) k)) from (by exact congrArg nI (cntP_f (p := fun x7 => (lnW w x7 i y) ∧ (w (58 + 3 * x7) = 1)) (fun q8 => c3 q8.1)))] at z9
          exact z9
        · have c3 : (lnW w k i y) := c3
          refine wn_ld (pc' := 38) (q := 4) (kin := 2) (v := .ref (ls)) rfl (fun _ _ _ => rfl) rfl rfl ?_
          refine wn_get (pc' := 41) (v := .ref (ls + 4)) rfl rfl l0 rfl ?_
          refine wn_ld (pc' := 43) (q := 6) (kin := 0) (v := .int (nI (k))) rfl (fun _ _ _ => rfl) rfl rfl ?_
          refine wn_baldv (pc' := 44) (j := k) (v := (bI (w (58 + 3 * k) = 1))) rfl rfl (Or.inr rfl) l4 rfl (by omega) (by decide) ((g2 k (by omega)).2.2.1.trans (wf_rv hWf (by omega))) ?_
          refine wn_ifneB (t := 51) (f := 47) rfl rfl rfl (fun c4 => ?_) (fun c4 => ?_)
          · have c4 : (w (58 + 3 * k) = 1) := c4
            refine wn_incN (n := 1) (pc' := 54) (lv' := [(0, .ref (0)), (1, .int (nI (i))), (2, .int (nI (y))), (3, .int (nI (1))), (4, .ref (ls)), (5, .int (nI (cntP (fun x7 => (lnW w x7 i y) ∧ (w (58 + 3 * x7) = 1)) k + 1))), (6, .int (nI (k)))]) rfl rfl rfl (Nat.le_of_ble_eq_true rfl) rfl (by decide) ?_
            refine wn_incN (n := 1) (pc' := 57) (lv' := [(0, .ref (0)), (1, .int (nI (i))), (2, .int (nI (y))), (3, .int (nI (1))), (4, .ref (ls)), (5, .int (nI (cntP (fun x7 => (lnW w x7 i y) ∧ (w (58 + 3 * x7) = 1)) k + 1))), (6, .int (nI (k + 1)))]) rfl rfl rfl (Nat.le_of_ble_eq_true rfl) rfl (by decide) ?_
            refine wn_jp (pc' := 15) rfl rfl ?_
            refine wn_weak (lv' := [(0, .ref (0)), (1, .int (nI (i))), (2, .int (nI (y))), (3, .int (nI (1))), (4, .ref (ls)), (5, .int (nI (cntP (fun x7 => (lnW w x7 i y) ∧ (w (58 + 3 * x7) = 1)) k + 1))), (6, .int (nI (k + 1)))]) (by simp) ?_
            have z9 := ih (k + 1) (by omega) (by omega)
            rw [show (nI (cntP (fun x7 => (lnW w x7 i y) ∧ (w (58 + 3 * x7) = 1)) (k + 1))) = (nI (cntP (fun x7 => (lnW w x7 i y) ∧ (w (58 + 3 * x7) = 1)) k + 1)) from (by exact congrArg nI (cntP_t (p := fun x7 => (lnW w x7 i y) ∧ (w (58 + 3 * x7) = 1)) ⟨c3, c4⟩))] at z9
            exact z9
          · have c4 : ¬ (w (58 + 3 * k) = 1) := c4
            refine wn_ld (pc' := 48) (q := 3) (kin := 0) (v := .int (nI (1))) rfl (fun _ _ _ => rfl) rfl rfl ?_
            refine wn_ifN (t := 54) (f := 51) rfl rfl rfl (by omega) (fun c5 => ?_) (fun c5 => ?_)
            · have c5 : ¬ 1 = 0 := c5
              refine wn_incN (n := 1) (pc' := 57) (lv' := [(0, .ref (0)), (1, .int (nI (i))), (2, .int (nI (y))), (3, .int (nI (1))), (4, .ref (ls)), (5, .int (nI (cntP (fun x7 => (lnW w x7 i y) ∧ (w (58 + 3 * x7) = 1)) k))), (6, .int (nI (k + 1)))]) rfl rfl rfl (Nat.le_of_ble_eq_true rfl) rfl (by decide) ?_
              refine wn_jp (pc' := 15) rfl rfl ?_
              refine wn_weak (lv' := [(0, .ref (0)), (1, .int (nI (i))), (2, .int (nI (y))), (3, .int (nI (1))), (4, .ref (ls)), (5, .int (nI (cntP (fun x7 => (lnW w x7 i y) ∧ (w (58 + 3 * x7) = 1)) k))), (6, .int (nI (k + 1)))]) (by simp) ?_
              have z9 := ih (k + 1) (by omega) (by omega)
              rw [show (nI (cntP (fun x7 => (lnW w x7 i y) ∧ (w (58 + 3 * x7) = 1)) (k + 1))) = (nI (cntP (fun x7 => (lnW w x7 i y) ∧ (w (58 + 3 * x7) = 1)) k)) from (by exact congrArg nI (cntP_f (p := fun x7 => (lnW w x7 i y) ∧ (w (58 + 3 * x7) = 1)) (fun q8 => c4 q8.2)))] at z9
              exact z9
            · have c5 : 1 = 0 := c5
              exact absurd c5 (by decide)
  refine wn_weak (lv' := [(0, .ref (0)), (1, .int (nI (i))), (2, .int (nI (y))), (3, .int (nI (1))), (4, .ref (ls)), (5, .int (nI (0))), (6, .int (nI (0)))]) (by simp) ?_
  have z9 := lp1 ((nrW w) + 1) 0 (by omega) (by omega)
  rw [show (nI (cntP (fun x7 => (lnW w x7 i y) ∧ (w (58 + 3 * x7) = 1)) 0)) = (nI (0)) from (by rfl)] at z9
  exact z9

noncomputable def bnW (w : Nat → Int32) (y r : Nat) : Nat := cntP (fun k => lnW w r k y) (ntW w)
theorem bnW_le {w : Nat → Int32} (hWf : WfW w) (y r : Nat) : bnW w y r ≤ 10 := Nat.le_trans (cntP_le _ _) hWf.1.2.2.2.1.2
theorem x_bundleOf (d : Nat) (h : aH) (ls : Nat) (w : Nat → Int32) (hWf : WfW w) (V : XV h ls w) (y : Nat) (hy : y ≤ 60) (Ra : ∀ i, i < ntW w → Rch h w i y) (r : Nat) (hr : r < nrW w) : Rn (d + 4) 76 [.ref (0), .int (nI (r)), .int (nI (y))] h (some (.int (nI (bnW w y r)))) h 0 0 := by
  obtain ⟨⟨e1, e2⟩, ⟨e3, e4⟩, ⟨e5, e6⟩⟩ := Wf_n hWf
  obtain ⟨⟨e7, e8⟩, ⟨e9, e10⟩⟩ := Wf_m hWf
  obtain ⟨v0, ⟨x9, v1⟩, ⟨v2, ⟨sz, rf, rt, rv, ag, vr, sd, tl, l0, l1, l2, l3, l4, l5, l6, l7, l8, g1, g2, g3, g4, g5⟩, ⟨sec, it, fi, se, sg, lst, rs, rp, pj, pk, pv, k0, k1, k2, k3, k4, k5, k6, k7, k8, k9, k10, k11, k12, k13⟩, ⟨hv, hc, y0, y1, y2, y3, y4⟩, ⟨an, wk, n0, n1, n2, n3, n4⟩⟩, v3⟩ := id V
  rw [e1, e3, e5] at l0
  rw [e7, e9] at k1
  refine Rn_of (by decide) (Nat.le_of_ble_eq_true rfl) ?_
  show Wn _ _ 0 [(0, .ref (0)), (1, .int (nI (r))), (2, .int (nI (y)))] [] _ _
  refine wn_ic (pc' := 1) (w := nI 0) rfl rfl (by decide) ?_
  refine wn_st (pc' := 2) (q := 3) (kin := 0) (lv' := [(0, .ref (0)), (1, .int (nI (r))), (2, .int (nI (y))), (3, .int (nI (0)))]) rfl (fun _ _ _ => rfl) rfl (Nat.le_of_ble_eq_true rfl) rfl ?_
  refine wn_ic (pc' := 3) (w := nI 0) rfl rfl (by decide) ?_
  refine wn_st (pc' := 5) (q := 4) (kin := 0) (lv' := [(0, .ref (0)), (1, .int (nI (r))), (2, .int (nI (y))), (3, .int (nI (0))), (4, .int (nI (0)))]) rfl (fun _ _ _ => rfl) rfl (Nat.le_of_ble_eq_true rfl) rfl ?_
  have lp1 : ∀ (n9 : Nat) (k : Nat), (ntW w) + 1 ≤ k + n9 → k ≤ ntW w → Wn (Rn (d + 3)) 76 5 [(0, .ref (0)), (1, .int (nI (r))), (2, .int (nI (y))), (3, .int (nI (cntP (fun x7 => lnW w r x7 y) k))), (4, .int (nI (k)))] [] (h) (fun r9 h9 => r9 = (some (.int (nI (bnW w y r)))) ∧ h9 = h) := by
    intro n9
    induction n9 with
    | zero => intro k hm9 hk_k; exfalso; omega
    | succ n9 ih =>
      intro k hm9 hk_k
      have := cntP_le (fun x7 => lnW w r x7 y) k
      refine wn_ld (pc' := 7) (q := 4) (kin := 0) (v := .int (nI (k))) rfl (fun _ _ _ => rfl) rfl rfl ?_
      refine wn_ld (pc' := 8) (q := 0) (kin := 2) (v := .ref (0)) rfl (fun _ _ _ => rfl) rfl rfl ?_
      refine wn_get (pc' := 11) (v := .ref (23)) rfl rfl v1 rfl ?_
      refine wn_get (pc' := 14) (v := .ref (ls)) rfl rfl v2 rfl ?_
      refine wn_get (pc' := 17) (v := .int (nI (ntW w))) rfl rfl l0 rfl ?_
      refine wn_icmpN (t := 40) (f := 20) rfl rfl rfl (by omega) (by omega) (fun c2 => ?_) (fun c2 => ?_)
      · have c2 : (ntW w) ≤ k := c2
        obtain rfl : k = ntW w := by omega
        refine wn_ld (pc' := 41) (q := 3) (kin := 0) (v := .int (nI (cntP (fun x7 => lnW w r x7 y) (ntW w)))) rfl (fun _ _ _ => rfl) rfl rfl ?_
        refine wn_iret rfl rfl rfl ⟨?_, rfl⟩
        exact congrArg (fun z => some (Value.int z)) (rfl)
      · have c2 : k < (ntW w) := c2
        refine wn_ld (pc' := 21) (q := 0) (kin := 2) (v := .ref (0)) rfl (fun _ _ _ => rfl) rfl rfl ?_
        refine wn_ld (pc' := 22) (q := 1) (kin := 0) (v := .int (nI (r))) rfl (fun _ _ _ => rfl) rfl rfl ?_
        refine wn_ld (pc' := 24) (q := 4) (kin := 0) (v := .int (nI (k))) rfl (fun _ _ _ => rfl) rfl rfl ?_
        refine wn_ld (pc' := 25) (q := 2) (kin := 0) (v := .int (nI (y))) rfl (fun _ _ _ => rfl) rfl rfl ?_
        refine wn_virI (pc' := 28) rfl rfl (by decide) rfl rfl v1 (Nat.le_of_ble_eq_true rfl) (x_isLine _ _ ls w hWf V r k y (by omega) (by omega) (by omega) (Ra k (by omega))) ?_
        refine wn_ifeqB (t := 34) (f := 31) rfl rfl rfl (fun c3 => ?_) (fun c3 => ?_)
        · have c3 : ¬ (lnW w r k y) := c3
          refine wn_incN (n := 1) (pc' := 37) (lv' := [(0, .ref (0)), (1, .int (nI (r))), (2, .int (nI (y))), (3, .int (nI (cntP (fun x7 => lnW w r x7 y) k))), (4, .int (nI (k + 1)))]) rfl rfl rfl (Nat.le_of_ble_eq_true rfl) rfl (by decide) ?_
          refine wn_jp (pc' := 5) rfl rfl ?_
          refine wn_weak (lv' := [(0, .ref (0)), (1, .int (nI (r))), (2, .int (nI (y))), (3, .int (nI (cntP (fun x7 => lnW w r x7 y) k))), (4, .int (nI (k + 1)))]) (by simp) ?_
          have z9 := ih (k + 1) (by omega) (by omega)
          rw [show (nI (cntP (fun x7 => lnW w r x7 y) (k + 1))) = (nI (cntP (fun x7 => lnW w r x7 y) k)) from (by exact congrArg nI (cntP_f (p := fun x7 => lnW w r x7 y) c3))] at z9
          exact z9
        · have c3 : (lnW w r k y) := c3
          refine wn_incN (n := 1) (pc' := 34) (lv' := [(0, .ref (0)), (1, .int (nI (r))), (2, .int (nI (y))), (3, .int (nI (cntP (fun x7 => lnW w r x7 y) k + 1))), (4, .int (nI (k)))]) rfl rfl rfl (Nat.le_of_ble_eq_true rfl) rfl (by decide) ?_
          refine wn_incN (n := 1) (pc' := 37) (lv' := [(0, .ref (0)), (1, .int (nI (r))), (2, .int (nI (y))), (3, .int (nI (cntP (fun x7 => lnW w r x7 y) k + 1))), (4, .int (nI (k + 1)))]) rfl rfl rfl (Nat.le_of_ble_eq_true rfl) rfl (by decide) ?_
          refine wn_jp (pc' := 5) rfl rfl ?_
          refine wn_weak (lv' := [(0, .ref (0)), (1, .int (nI (r))), (2, .int (nI (y))), (3, .int (nI (cntP (fun x7 => lnW w r x7 y) k + 1))), (4, .int (nI (k + 1)))]) (by simp) ?_
          have z9 := ih (k + 1) (by omega) (by omega)
          rw [show (nI (cntP (fun x7 => lnW w r x7 y) (k + 1))) = (nI (cntP (fun x7 => lnW w r x7 y) k + 1)) from (by exact congrArg nI (cntP_t (p := fun x7 => lnW w r x7 y) c3))] at z9
          exact z9
  refine wn_weak (lv' := [(0, .ref (0)), (1, .int (nI (r))), (2, .int (nI (y))), (3, .int (nI (0))), (4, .int (nI (0)))]) (by simp) ?_
  have z9 := lp1 ((ntW w) + 1) 0 (by omega) (by omega)
  rw [show (nI (cntP (fun x7 => lnW w r x7 y) 0)) = (nI (0)) from (by rfl)] at z9
  exact z9

noncomputable def dfW (w : Nat → Int32) (y v u : Nat) : Int32 := bitP (fun k => ¬ (sdW w y v k = sdW w y u k)) (ntW w)
theorem x_difference (d : Nat) (h : aH) (ls : Nat) (w : Nat → Int32) (hWf : WfW w) (V : XV h ls w) (y : Nat) (hy : y ≤ 60) (Ra : ∀ i, i < ntW w → Rch h w i y) (v u : Nat) (hv9 : v < nvW w) (hu : u < nvW w) : Rn (d + 3) 90 [.ref (0), .int (nI (v)), .int (nI (u)), .int (nI (y))] h (some (.int (dfW w y v u))) h 0 0 := by
  obtain ⟨⟨e1, e2⟩, ⟨e3, e4⟩, ⟨e5, e6⟩⟩ := Wf_n hWf
  obtain ⟨⟨e7, e8⟩, ⟨e9, e10⟩⟩ := Wf_m hWf
  obtain ⟨v0, ⟨x9, v1⟩, ⟨v2, ⟨sz, rf, rt, rv, ag, vr, sd, tl, l0, l1, l2, l3, l4, l5, l6, l7, l8, g1, g2, g3, g4, g5⟩, ⟨sec, it, fi, se, sg, lst, rs, rp, pj, pk, pv, k0, k1, k2, k3, k4, k5, k6, k7, k8, k9, k10, k11, k12, k13⟩, ⟨hv, hc, y0, y1, y2, y3, y4⟩, ⟨an, wk, n0, n1, n2, n3, n4⟩⟩, v3⟩ := id V
  rw [e1, e3, e5] at l0
  rw [e7, e9] at k1
  refine Rn_of (by decide) (Nat.le_of_ble_eq_true rfl) ?_
  show Wn _ _ 0 [(0, .ref (0)), (1, .int (nI (v))), (2, .int (nI (u))), (3, .int (nI (y)))] [] _ _
  refine wn_ic (pc' := 1) (w := nI 0) rfl rfl (by decide) ?_
  refine wn_st (pc' := 3) (q := 4) (kin := 0) (lv' := [(0, .ref (0)), (1, .int (nI (v))), (2, .int (nI (u))), (3, .int (nI (y))), (4, .int (nI (0)))]) rfl (fun _ _ _ => rfl) rfl (Nat.le_of_ble_eq_true rfl) rfl ?_
  refine wn_ic (pc' := 4) (w := nI 0) rfl rfl (by decide) ?_
  refine wn_st (pc' := 6) (q := 5) (kin := 0) (lv' := [(0, .ref (0)), (1, .int (nI (v))), (2, .int (nI (u))), (3, .int (nI (y))), (4, .int (nI (0))), (5, .int (nI (0)))]) rfl (fun _ _ _ => rfl) rfl (Nat.le_of_ble_eq_true rfl) rfl ?_
  have lp1 : ∀ (n9 : Nat) (k : Nat), (ntW w) + 1 ≤ k + n9 → k ≤ ntW w → Wn (Rn (d + 2)) 90 6 [(0, .ref (0)), (1, .int (nI (v))), (2, .int (nI (u))), (3, .int (nI (y))), (4, .int (bitP (fun x7 => ¬ (sdW w y v x7 = sdW w y u x7)) k)), (5, .int (nI (k)))] [] (h) (fun r9 h9 => r9 = (some (.int (dfW w y v u))) ∧ h9 = h) := by
    intro n9
    induction n9 with
    | zero => intro k hm9 hk_k; exfalso; omega
    | succ n9 ih =>
      intro k hm9 hk_k
      refine wn_ld (pc' := 8) (q := 5) (kin := 0) (v := .int (nI (k))) rfl (fun _ _ _ => rfl) rfl rfl ?_
      refine wn_ld (pc' := 9) (q := 0) (kin := 2) (v := .ref (0)) rfl (fun _ _ _ => rfl) rfl rfl ?_
      refine wn_get (pc' := 12) (v := .ref (23)) rfl rfl v1 rfl ?_
      refine wn_get (pc' := 15) (v := .ref (ls)) rfl rfl v2 rfl ?_
      refine wn_get (pc' := 18) (v := .int (nI (ntW w))) rfl rfl l0 rfl ?_
      refine wn_icmpN (t := 61) (f := 21) rfl rfl rfl (by omega) (by omega) (fun c2 => ?_) (fun c2 => ?_)
      · have c2 : (ntW w) ≤ k := c2
        obtain rfl : k = ntW w := by omega
        refine wn_ld (pc' := 63) (q := 4) (kin := 0) (v := .int (bitP (fun x7 => ¬ (sdW w y v x7 = sdW w y u x7)) (ntW w))) rfl (fun _ _ _ => rfl) rfl rfl ?_
        exact wn_iret rfl rfl rfl ⟨rfl, rfl⟩
      · have c2 : k < (ntW w) := c2
        refine wn_ld (pc' := 22) (q := 0) (kin := 2) (v := .ref (0)) rfl (fun _ _ _ => rfl) rfl rfl ?_
        refine wn_get (pc' := 25) (v := .ref (52)) rfl rfl v1 rfl ?_
        refine wn_ld (pc' := 27) (q := 5) (kin := 0) (v := .int (nI (k))) rfl (fun _ _ _ => rfl) rfl rfl ?_
        refine wn_ld (pc' := 28) (q := 3) (kin := 0) (v := .int (nI (y))) rfl (fun _ _ _ => rfl) rfl rfl ?_
        refine wn_ld (pc' := 29) (q := 1) (kin := 0) (v := .int (nI (v))) rfl (fun _ _ _ => rfl) rfl rfl ?_
        have := sdW_5 hWf (y := y) (show v < nvW w by omega) (show k < ntW w by omega)
        refine wn_virI (pc' := 32) rfl rfl (by decide) rfl rfl v3 (Nat.le_of_ble_eq_true rfl) (x_variantAt _ _ ls w hWf V k y v (by omega) (by omega) (by omega) (Ra k (by omega))) ?_
        refine wn_ld (pc' := 33) (q := 0) (kin := 2) (v := .ref (0)) rfl (fun _ _ _ => rfl) rfl rfl ?_
        refine wn_get (pc' := 36) (v := .ref (52)) rfl rfl v1 rfl ?_
        refine wn_ld (pc' := 38) (q := 5) (kin := 0) (v := .int (nI (k))) rfl (fun _ _ _ => rfl) rfl rfl ?_
        refine wn_ld (pc' := 39) (q := 3) (kin := 0) (v := .int (nI (y))) rfl (fun _ _ _ => rfl) rfl rfl ?_
        refine wn_ld (pc' := 40) (q := 2) (kin := 0) (v := .int (nI (u))) rfl (fun _ _ _ => rfl) rfl rfl ?_
        have := sdW_5 hWf (y := y) (show u < nvW w by omega) (show k < ntW w by omega)
        refine wn_virI (pc' := 43) rfl rfl (by decide) rfl rfl v3 (Nat.le_of_ble_eq_true rfl) (x_variantAt _ _ ls w hWf V k y u (by omega) (by omega) (by omega) (Ra k (by omega))) ?_
        refine wn_icmpN (t := 55) (f := 46) rfl rfl rfl (by omega) (by omega) (fun c3 => ?_) (fun c3 => ?_)
        · have c3 : (sdW w y v k) = (sdW w y u k) := c3
          refine wn_incN (n := 1) (pc' := 58) (lv' := [(0, .ref (0)), (1, .int (nI (v))), (2, .int (nI (u))), (3, .int (nI (y))), (4, .int (bitP (fun x7 => ¬ (sdW w y v x7 = sdW w y u x7)) k)), (5, .int (nI (k + 1)))]) rfl rfl rfl (Nat.le_of_ble_eq_true rfl) rfl (by decide) ?_
          refine wn_jp (pc' := 6) rfl rfl ?_
          refine wn_weak (lv' := [(0, .ref (0)), (1, .int (nI (v))), (2, .int (nI (u))), (3, .int (nI (y))), (4, .int (bitP (fun x7 => ¬ (sdW w y v x7 = sdW w y u x7)) k)), (5, .int (nI (k + 1)))]) (by simp) ?_
          have z9 := ih (k + 1) (by omega) (by omega)
          rw [show (bitP (fun x7 => ¬ (sdW w y v x7 = sdW w y u x7)) (k + 1)) = (bitP (fun x7 => ¬ (sdW w y v x7 = sdW w y u x7)) k) from (by exact bitP_f (p := fun x7 => ¬ (sdW w y v x7 = sdW w y u x7)) (by omega))] at z9
          exact z9
        · have c3 : ¬ (sdW w y v k) = (sdW w y u k) := c3
          refine wn_ld (pc' := 48) (q := 4) (kin := 0) (v := .int (bitP (fun x7 => ¬ (sdW w y v x7 = sdW w y u x7)) k)) rfl (fun _ _ _ => rfl) rfl rfl ?_
          refine wn_ic (pc' := 49) (w := nI 1) rfl rfl (by decide) ?_
          refine wn_ld (pc' := 51) (q := 5) (kin := 0) (v := .int (nI (k))) rfl (fun _ _ _ => rfl) rfl rfl ?_
          refine wn_pu (pc' := 52) (st' := [.int ((nI (1)) <<< ((nI (k)) &&& 31)), .int (bitP (fun x7 => ¬ (sdW w y v x7 = sdW w y u x7)) k)]) rfl (fun _ _ _ => rfl) rfl rfl ?_
          refine wn_pu (pc' := 53) (st' := [.int ((bitP (fun x7 => ¬ (sdW w y v x7 = sdW w y u x7)) k) ||| ((nI (1)) <<< ((nI (k)) &&& 31)))]) rfl (fun _ _ _ => rfl) rfl rfl ?_
          refine wn_st (pc' := 55) (q := 4) (kin := 0) (lv' := [(0, .ref (0)), (1, .int (nI (v))), (2, .int (nI (u))), (3, .int (nI (y))), (4, .int ((bitP (fun x7 => ¬ (sdW w y v x7 = sdW w y u x7)) k) ||| ((nI (1)) <<< ((nI (k)) &&& 31)))), (5, .int (nI (k)))]) rfl (fun _ _ _ => rfl) rfl (Nat.le_of_ble_eq_true rfl) rfl ?_
          refine wn_incN (n := 1) (pc' := 58) (lv' := [(0, .ref (0)), (1, .int (nI (v))), (2, .int (nI (u))), (3, .int (nI (y))), (4, .int ((bitP (fun x7 => ¬ (sdW w y v x7 = sdW w y u x7)) k) ||| ((nI (1)) <<< ((nI (k)) &&& 31)))), (5, .int (nI (k + 1)))]) rfl rfl rfl (Nat.le_of_ble_eq_true rfl) rfl (by decide) ?_
          refine wn_jp (pc' := 6) rfl rfl ?_
          refine wn_weak (lv' := [(0, .ref (0)), (1, .int (nI (v))), (2, .int (nI (u))), (3, .int (nI (y))), (4, .int ((bitP (fun x7 => ¬ (sdW w y v x7 = sdW w y u x7)) k) ||| ((nI (1)) <<< ((nI (k)) &&& 31)))), (5, .int (nI (k + 1)))]) (by simp) ?_
          have z9 := ih (k + 1) (by omega) (by omega)
          rw [show (bitP (fun x7 => ¬ (sdW w y v x7 = sdW w y u x7)) (k + 1)) = ((bitP (fun x7 => ¬ (sdW w y v x7 = sdW w y u x7)) k) ||| ((nI (1)) <<< ((nI (k)) &&& 31))) from (by exact bitP_t (p := fun x7 => ¬ (sdW w y v x7 = sdW w y u x7)) (by omega))] at z9
          exact z9
  refine wn_weak (lv' := [(0, .ref (0)), (1, .int (nI (v))), (2, .int (nI (u))), (3, .int (nI (y))), (4, .int (nI (0))), (5, .int (nI (0)))]) (by simp) ?_
  have z9 := lp1 ((ntW w) + 1) 0 (by omega) (by omega)
  rw [show (bitP (fun x7 => ¬ (sdW w y v x7 = sdW w y u x7)) 0) = (nI (0)) from (by rfl)] at z9
  exact z9

def afW (w : Nat → Int32) (i : Nat) : Prop := ∃ l, l < nlW w ∧ lwI w l = i
theorem lwI_lt {w : Nat → Int32} (hWf : WfW w) {l : Nat} (hl : l < nlW w) : lwI w l < 10 := by
  obtain ⟨sec, h⟩ := hWf.2.2.2.2.2.1
  have := (h l hl).1.2
  have := hWf.1.2.2.2.1.2
  omega
theorem x_areFor (d : Nat) (h : aH) (ls : Nat) (w : Nat → Int32) (hWf : WfW w) (V : XV h ls w) (i : Nat) (hi : i < ntW w) : Rn (d + 1) 13 [.ref (ls + 9), .int (nI (i))] h (some (.int (bI (afW w i)))) h 0 0 := by
  obtain ⟨⟨e1, e2⟩, ⟨e3, e4⟩, ⟨e5, e6⟩⟩ := Wf_n hWf
  obtain ⟨⟨e7, e8⟩, ⟨e9, e10⟩⟩ := Wf_m hWf
  obtain ⟨v0, ⟨x9, v1⟩, ⟨v2, ⟨sz, rf, rt, rv, ag, vr, sd, tl, l0, l1, l2, l3, l4, l5, l6, l7, l8, g1, g2, g3, g4, g5⟩, ⟨sec, it, fi, se, sg, lst, rs, rp, pj, pk, pv, k0, k1, k2, k3, k4, k5, k6, k7, k8, k9, k10, k11, k12, k13⟩, ⟨hv, hc, y0, y1, y2, y3, y4⟩, ⟨an, wk, n0, n1, n2, n3, n4⟩⟩, v3⟩ := id V
  rw [e1, e3, e5] at l0
  rw [e7, e9] at k1
  refine Rn_of (by decide) (Nat.le_of_ble_eq_true rfl) ?_
  show Wn _ _ 0 [(0, .ref (ls + 9)), (1, .int (nI (i)))] [] _ _
  refine wn_ic (pc' := 1) (w := nI 0) rfl rfl (by decide) ?_
  refine wn_st (pc' := 2) (q := 2) (kin := 0) (lv' := [(0, .ref (ls + 9)), (1, .int (nI (i))), (2, .int (nI (0)))]) rfl (fun _ _ _ => rfl) rfl (Nat.le_of_ble_eq_true rfl) rfl ?_
  have lp1 : ∀ (n9 : Nat) (l : Nat), (nlW w) + 1 ≤ l + n9 → l ≤ nlW w → (∀ l9, l9 < l → ¬ lwI w l9 = i) → Wn (Rn (d + 0)) 13 2 [(0, .ref (ls + 9)), (1, .int (nI (i))), (2, .int (nI (l)))] [] (h) (fun r9 h9 => r9 = (some (.int (bI (afW w i)))) ∧ h9 = h) := by
    intro n9
    induction n9 with
    | zero => intro l hm9 hl hn; exfalso; omega
    | succ n9 ih =>
      intro l hm9 hl hn
      refine wn_ld (pc' := 3) (q := 2) (kin := 0) (v := .int (nI (l))) rfl (fun _ _ _ => rfl) rfl rfl ?_
      refine wn_ld (pc' := 4) (q := 0) (kin := 2) (v := .ref (ls + 9)) rfl (fun _ _ _ => rfl) rfl rfl ?_
      refine wn_get (pc' := 7) (v := .int (nI (nlW w))) rfl rfl k1 rfl ?_
      refine wn_icmpN (t := 28) (f := 10) rfl rfl rfl (by omega) (by omega) (fun c2 => ?_) (fun c2 => ?_)
      · have c2 : (nlW w) ≤ l := c2
        refine wn_ic (pc' := 29) (w := nI 0) rfl rfl (by decide) ?_
        refine wn_iret rfl rfl (by decide) ⟨?_, rfl⟩
        exact congrArg (fun z => some (Value.int z)) (bI_f0 (fun q => by obtain ⟨l9, q1, q2⟩ := q; exact hn l9 (by omega) q2))
      · have c2 : l < (nlW w) := c2
        refine wn_ld (pc' := 11) (q := 0) (kin := 2) (v := .ref (ls + 9)) rfl (fun _ _ _ => rfl) rfl rfl ?_
        refine wn_get (pc' := 14) (v := .ref (ls + 9 + 1)) rfl rfl k1 rfl ?_
        refine wn_ld (pc' := 15) (q := 2) (kin := 0) (v := .int (nI (l))) rfl (fun _ _ _ => rfl) rfl rfl ?_
        have := lwI_lt hWf (show l < nlW w by omega)
        refine wn_ialdv (pc' := 16) (j := l) (v := (nI (lwI w l))) rfl rfl k2 rfl (by omega) (by decide) ((k12 l (by omega)).1.trans (wf_lw hWf (by omega))) ?_
        refine wn_ld (pc' := 17) (q := 1) (kin := 0) (v := .int (nI (i))) rfl (fun _ _ _ => rfl) rfl rfl ?_
        refine wn_icmpN (t := 22) (f := 20) rfl rfl rfl (by omega) (by omega) (fun c3 => ?_) (fun c3 => ?_)
        · have c3 : ¬ (lwI w l) = i := c3
          refine wn_incN (n := 1) (pc' := 25) (lv' := [(0, .ref (ls + 9)), (1, .int (nI (i))), (2, .int (nI (l + 1)))]) rfl rfl rfl (Nat.le_of_ble_eq_true rfl) rfl (by decide) ?_
          refine wn_jp (pc' := 2) rfl rfl ?_
          refine wn_weak (lv' := [(0, .ref (ls + 9)), (1, .int (nI (i))), (2, .int (nI (l + 1)))]) (by simp) ?_
          have z9 := ih (l + 1) (by omega) (by omega) (fun l9 h9 => by by_cases e : l9 = l; (subst e; exact c3); exact hn l9 (by omega))
          exact z9
        · have c3 : (lwI w l) = i := c3
          refine wn_ic (pc' := 21) (w := nI 1) rfl rfl (by decide) ?_
          refine wn_iret rfl rfl (by decide) ⟨?_, rfl⟩
          exact congrArg (fun z => some (Value.int z)) (bI_t1 ⟨l, by omega, c3⟩)
  refine wn_weak (lv' := [(0, .ref (ls + 9)), (1, .int (nI (i))), (2, .int (nI (0)))]) (by simp) ?_
  have z9 := lp1 ((nlW w) + 1) 0 (by omega) (by omega) (fun _ h9 => absurd h9 (by omega))
  exact z9

