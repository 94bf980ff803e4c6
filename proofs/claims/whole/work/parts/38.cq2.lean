/-! THE CLASS'S questions, second part: what fits; their cases -/
theorem bcF_s {n : Nat} (h : n ≤ 1024) : bcF (nI n) = nI (popc n) := bcF_p _ (fun k h1 h2 => by rw [bt_nI _ h2]; exact Nat.testBit_lt_two_pow (Nat.lt_of_lt_of_le (show n < 2 ^ 24 by omega) (Nat.pow_le_pow_right (by omega) h1)))
theorem x_fittingItems (d : Nat) (h : aH) (ls : Nat) (w : Nat → Int32) (hWf : WfW w) (V : XV h ls w) (y : Nat) (hy : y ≤ 60) (Ra : ∀ i, i < ntW w → Rch h w i y) (v : Nat) (hv9 : v < nvW w) : Rn (d + 3) 98 [.ref (0), .int (nI (v)), .int (nI (y))] h (some (.int (fiW w y v))) h 0 0 := by
  obtain ⟨⟨e1, e2⟩, ⟨e3, e4⟩, ⟨e5, e6⟩⟩ := Wf_n hWf
  obtain ⟨⟨e7, e8⟩, ⟨e9, e10⟩⟩ := Wf_m hWf
  obtain ⟨v0, ⟨x9, v1⟩, ⟨v2, ⟨sz, rf, rt, rv, ag, vr, sd, tl, l0, l1, l2, l3, l4, l5, l6, l7, l8, g1, g2, g3, g4, g5⟩, ⟨sec, it, fi, se, sg, lst, rs, rp, pj, pk, pv, k0, k1, k2, k3, k4, k5, k6, k7, k8, k9, k10, k11, k12, k13⟩, ⟨hv, hc, y0, y1, y2, y3, y4⟩, ⟨an, wk, n0, n1, n2, n3, n4⟩⟩, v3⟩ := id V
  rw [e1, e3, e5] at l0
  rw [e7, e9] at k1
  refine Rn_of (by decide) (Nat.le_of_ble_eq_true rfl) ?_
  show Wn _ _ 0 [(0, .ref (0)), (1, .int (nI (v))), (2, .int (nI (y)))] [] _ _
  refine wn_ld (pc' := 1) (q := 0) (kin := 2) (v := .ref (0)) rfl (fun _ _ _ => rfl) rfl rfl ?_
  refine wn_get (pc' := 4) (v := .ref (23)) rfl rfl v1 rfl ?_
  refine wn_get (pc' := 7) (v := .ref (44)) rfl rfl v2 rfl ?_
  refine wn_st (pc' := 8) (q := 3) (kin := 2) (lv' := [(0, .ref (0)), (1, .int (nI (v))), (2, .int (nI (y))), (3, .ref (44))]) rfl (fun _ _ _ => rfl) rfl (Nat.le_of_ble_eq_true rfl) rfl ?_
  refine wn_ic (pc' := 9) (w := nI 0) rfl rfl (by decide) ?_
  refine wn_st (pc' := 11) (q := 4) (kin := 0) (lv' := [(0, .ref (0)), (1, .int (nI (v))), (2, .int (nI (y))), (3, .ref (44)), (4, .int (nI (0)))]) rfl (fun _ _ _ => rfl) rfl (Nat.le_of_ble_eq_true rfl) rfl ?_
  refine wn_ic (pc' := 12) (w := nI 0) rfl rfl (by decide) ?_
  refine wn_st (pc' := 14) (q := 5) (kin := 0) (lv' := [(0, .ref (0)), (1, .int (nI (v))), (2, .int (nI (y))), (3, .ref (44)), (4, .int (nI (0))), (5, .int (nI (0)))]) rfl (fun _ _ _ => rfl) rfl (Nat.le_of_ble_eq_true rfl) rfl ?_
  have lp1 : ∀ (n_lp1 : Nat) (k : Nat), (ntW w) + 1 ≤ k + n_lp1 → k ≤ ntW w → Wn (Rn (d + 2)) 98 14 [(0, .ref (0)), (1, .int (nI (v))), (2, .int (nI (y))), (3, .ref (44)), (4, .int (bitP (fun x7 => (¬ w (178 + 4 * x7) = -1) ∧ fitW w y v x7) k)), (5, .int (nI (k)))] [] (h) (fun r9 h9 => r9 = (some (.int (fiW w y v))) ∧ h9 = h) := by
    intro n_lp1
    induction n_lp1 with
    | zero => intro k hm_lp1 hk; exfalso; omega
    | succ n_lp1 ih_lp1 =>
      intro k hm_lp1 hk
      refine wn_ld (pc' := 16) (q := 5) (kin := 0) (v := .int (nI (k))) rfl (fun _ _ _ => rfl) rfl rfl ?_
      refine wn_ld (pc' := 17) (q := 0) (kin := 2) (v := .ref (0)) rfl (fun _ _ _ => rfl) rfl rfl ?_
      refine wn_get (pc' := 20) (v := .ref (23)) rfl rfl v1 rfl ?_
      refine wn_get (pc' := 23) (v := .ref (ls)) rfl rfl v2 rfl ?_
      refine wn_get (pc' := 26) (v := .int (nI (ntW w))) rfl rfl l0 rfl ?_
      refine wn_icmpN (t := 115) (f := 29) rfl rfl rfl (by omega) (by omega) (fun c2 => ?_) (fun c2 => ?_)
      · have c2 : (ntW w) ≤ k := c2
        obtain rfl : k = ntW w := by omega
        refine wn_ld (pc' := 117) (q := 4) (kin := 0) (v := .int (bitP (fun x7 => (¬ w (178 + 4 * x7) = -1) ∧ fitW w y v x7) (ntW w))) rfl (fun _ _ _ => rfl) rfl rfl ?_
        exact wn_iret rfl rfl rfl ⟨rfl, rfl⟩
      · have c2 : k < (ntW w) := c2
        refine wn_ld (pc' := 30) (q := 3) (kin := 2) (v := .ref (44)) rfl (fun _ _ _ => rfl) rfl rfl ?_
        refine wn_get (pc' := 33) (v := .ref (45)) rfl rfl y0 rfl ?_
        refine wn_ld (pc' := 35) (q := 5) (kin := 0) (v := .int (nI (k))) rfl (fun _ _ _ => rfl) rfl rfl ?_
        refine wn_ialdv (pc' := 36) (j := k) (v := (w (178 + 4 * k))) rfl rfl y1 rfl (by omega) (by decide) ((y3 k (by omega)).1.trans (if_pos (by omega))) ?_
        refine wn_st (pc' := 38) (q := 6) (kin := 0) (lv' := [(0, .ref (0)), (1, .int (nI (v))), (2, .int (nI (y))), (3, .ref (44)), (4, .int (bitP (fun x7 => (¬ w (178 + 4 * x7) = -1) ∧ fitW w y v x7) k)), (5, .int (nI (k))), (6, .int (w (178 + 4 * k)))]) rfl (fun _ _ _ => rfl) rfl (Nat.le_of_ble_eq_true rfl) rfl ?_
        refine wn_ld (pc' := 39) (q := 3) (kin := 2) (v := .ref (44)) rfl (fun _ _ _ => rfl) rfl rfl ?_
        refine wn_get (pc' := 42) (v := .ref (46)) rfl rfl y0 rfl ?_
        refine wn_ld (pc' := 44) (q := 5) (kin := 0) (v := .int (nI (k))) rfl (fun _ _ _ => rfl) rfl rfl ?_
        refine wn_baldv (pc' := 45) (j := k) (v := (hc (k))) rfl rfl (Or.inr rfl) y2 rfl (by omega) (by decide) (rfl) ?_
        refine wn_ifc (t := 70) (f := 48) rfl rfl rfl (fun c3 => ?_) (fun c3 => ?_)
        · have c3 : ((hc (k))) = 0 := c3
          refine wn_ic (pc' := 71) (w := nI 0) rfl rfl (by decide) ?_
          refine wn_st (pc' := 73) (q := 7) (kin := 0) (lv' := [(0, .ref (0)), (1, .int (nI (v))), (2, .int (nI (y))), (3, .ref (44)), (4, .int (bitP (fun x7 => (¬ w (178 + 4 * x7) = -1) ∧ fitW w y v x7) k)), (5, .int (nI (k))), (6, .int (w (178 + 4 * k))), (7, .int (nI (0)))]) rfl (fun _ _ _ => rfl) rfl (Nat.le_of_ble_eq_true rfl) rfl ?_
          refine wn_ld (pc' := 75) (q := 6) (kin := 0) (v := .int (w (178 + 4 * k))) rfl (fun _ _ _ => rfl) rfl rfl ?_
          refine wn_ic (pc' := 76) (w := -1) rfl rfl (by decide) ?_
          refine wn_icmp (t := 109) (f := 79) rfl rfl rfl (fun c4 => ?_) (fun c4 => ?_)
          · have c4 : ((w (178 + 4 * k))) = ((-1)) := c4
            refine wn_incN (n := 1) (pc' := 112) (lv' := [(0, .ref (0)), (1, .int (nI (v))), (2, .int (nI (y))), (3, .ref (44)), (4, .int (bitP (fun x7 => (¬ w (178 + 4 * x7) = -1) ∧ fitW w y v x7) k)), (5, .int (nI (k + 1))), (6, .int (w (178 + 4 * k))), (7, .int (nI (0)))]) rfl rfl rfl (Nat.le_of_ble_eq_true rfl) rfl (by decide) ?_
            refine wn_jp (pc' := 14) rfl rfl ?_
            refine wn_weak (lv' := [(0, .ref (0)), (1, .int (nI (v))), (2, .int (nI (y))), (3, .ref (44)), (4, .int (bitP (fun x7 => (¬ w (178 + 4 * x7) = -1) ∧ fitW w y v x7) k)), (5, .int (nI (k + 1)))]) (by simp) ?_
            have z9 := ih_lp1 (k + 1) (by omega) (by omega)
            rw [show (bitP (fun x7 => (¬ w (178 + 4 * x7) = -1) ∧ fitW w y v x7) (k + 1)) = (bitP (fun x7 => (¬ w (178 + 4 * x7) = -1) ∧ fitW w y v x7) k) from (by exact bitP_f (p := fun x7 => (¬ w (178 + 4 * x7) = -1) ∧ fitW w y v x7) (fun q => q.1 c4))] at z9
            exact z9
          · have c4 : ¬ ((w (178 + 4 * k))) = ((-1)) := c4
            refine wn_ld (pc' := 81) (q := 7) (kin := 0) (v := .int (nI (0))) rfl (fun _ _ _ => rfl) rfl rfl ?_
            refine wn_ifN (t := 100) (f := 84) rfl rfl rfl (by omega) (fun c5 => ?_) (fun c5 => ?_)
            · have c5 : ¬ 0 = 0 := c5
              exact absurd c5 (by decide)
            · have c5 : 0 = 0 := c5
              refine wn_ld (pc' := 86) (q := 6) (kin := 0) (v := .int (w (178 + 4 * k))) rfl (fun _ _ _ => rfl) rfl rfl ?_
              refine wn_ld (pc' := 87) (q := 0) (kin := 2) (v := .ref (0)) rfl (fun _ _ _ => rfl) rfl rfl ?_
              refine wn_get (pc' := 90) (v := .ref (52)) rfl rfl v1 rfl ?_
              refine wn_ld (pc' := 92) (q := 5) (kin := 0) (v := .int (nI (k))) rfl (fun _ _ _ => rfl) rfl rfl ?_
              refine wn_ld (pc' := 93) (q := 2) (kin := 0) (v := .int (nI (y))) rfl (fun _ _ _ => rfl) rfl rfl ?_
              refine wn_ld (pc' := 94) (q := 1) (kin := 0) (v := .int (nI (v))) rfl (fun _ _ _ => rfl) rfl rfl ?_
              have := sdW_5 hWf (y := y) (show v < nvW w by omega) (show k < ntW w by omega)
              refine wn_virI (pc' := 97) rfl rfl (by decide) rfl rfl v3 (Nat.le_of_ble_eq_true rfl) (x_variantAt _ _ ls w hWf V k y v (by omega) (by omega) (by omega) (Ra k (by omega))) ?_
              refine wn_icmp (t := 109) (f := 100) rfl rfl rfl (fun c6 => ?_) (fun c6 => ?_)
              · have c6 : ¬ ((w (178 + 4 * k))) = ((nI (sdW w y v k))) := c6
                refine wn_incN (n := 1) (pc' := 112) (lv' := [(0, .ref (0)), (1, .int (nI (v))), (2, .int (nI (y))), (3, .ref (44)), (4, .int (bitP (fun x7 => (¬ w (178 + 4 * x7) = -1) ∧ fitW w y v x7) k)), (5, .int (nI (k + 1))), (6, .int (w (178 + 4 * k))), (7, .int (nI (0)))]) rfl rfl rfl (Nat.le_of_ble_eq_true rfl) rfl (by decide) ?_
                refine wn_jp (pc' := 14) rfl rfl ?_
                refine wn_weak (lv' := [(0, .ref (0)), (1, .int (nI (v))), (2, .int (nI (y))), (3, .ref (44)), (4, .int (bitP (fun x7 => (¬ w (178 + 4 * x7) = -1) ∧ fitW w y v x7) k)), (5, .int (nI (k + 1)))]) (by simp) ?_
                have z9 := ih_lp1 (k + 1) (by omega) (by omega)
                rw [show (bitP (fun x7 => (¬ w (178 + 4 * x7) = -1) ∧ fitW w y v x7) (k + 1)) = (bitP (fun x7 => (¬ w (178 + 4 * x7) = -1) ∧ fitW w y v x7) k) from (by exact bitP_f (p := fun x7 => (¬ w (178 + 4 * x7) = -1) ∧ fitW w y v x7) (fun q => q.2.elim (fun e9 => c6 e9.symm) (fun e9 => (hc_iff hWf y4 (by omega) c4).mpr e9.1 c3)))] at z9
                exact z9
              · have c6 : ((w (178 + 4 * k))) = ((nI (sdW w y v k))) := c6
                refine wn_ld (pc' := 102) (q := 4) (kin := 0) (v := .int (bitP (fun x7 => (¬ w (178 + 4 * x7) = -1) ∧ fitW w y v x7) k)) rfl (fun _ _ _ => rfl) rfl rfl ?_
                refine wn_ic (pc' := 103) (w := nI 1) rfl rfl (by decide) ?_
                refine wn_ld (pc' := 105) (q := 5) (kin := 0) (v := .int (nI (k))) rfl (fun _ _ _ => rfl) rfl rfl ?_
                refine wn_pu (pc' := 106) (st' := [.int ((nI (1)) <<< ((nI (k)) &&& 31)), .int (bitP (fun x7 => (¬ w (178 + 4 * x7) = -1) ∧ fitW w y v x7) k)]) rfl (fun _ _ _ => rfl) rfl rfl ?_
                refine wn_pu (pc' := 107) (st' := [.int ((bitP (fun x7 => (¬ w (178 + 4 * x7) = -1) ∧ fitW w y v x7) k) ||| ((nI (1)) <<< ((nI (k)) &&& 31)))]) rfl (fun _ _ _ => rfl) rfl rfl ?_
                refine wn_st (pc' := 109) (q := 4) (kin := 0) (lv' := [(0, .ref (0)), (1, .int (nI (v))), (2, .int (nI (y))), (3, .ref (44)), (4, .int ((bitP (fun x7 => (¬ w (178 + 4 * x7) = -1) ∧ fitW w y v x7) k) ||| ((nI (1)) <<< ((nI (k)) &&& 31)))), (5, .int (nI (k))), (6, .int (w (178 + 4 * k))), (7, .int (nI (0)))]) rfl (fun _ _ _ => rfl) rfl (Nat.le_of_ble_eq_true rfl) rfl ?_
                refine wn_incN (n := 1) (pc' := 112) (lv' := [(0, .ref (0)), (1, .int (nI (v))), (2, .int (nI (y))), (3, .ref (44)), (4, .int ((bitP (fun x7 => (¬ w (178 + 4 * x7) = -1) ∧ fitW w y v x7) k) ||| ((nI (1)) <<< ((nI (k)) &&& 31)))), (5, .int (nI (k + 1))), (6, .int (w (178 + 4 * k))), (7, .int (nI (0)))]) rfl rfl rfl (Nat.le_of_ble_eq_true rfl) rfl (by decide) ?_
                refine wn_jp (pc' := 14) rfl rfl ?_
                refine wn_weak (lv' := [(0, .ref (0)), (1, .int (nI (v))), (2, .int (nI (y))), (3, .ref (44)), (4, .int ((bitP (fun x7 => (¬ w (178 + 4 * x7) = -1) ∧ fitW w y v x7) k) ||| ((nI (1)) <<< ((nI (k)) &&& 31)))), (5, .int (nI (k + 1)))]) (by simp) ?_
                have z9 := ih_lp1 (k + 1) (by omega) (by omega)
                rw [show (bitP (fun x7 => (¬ w (178 + 4 * x7) = -1) ∧ fitW w y v x7) (k + 1)) = ((bitP (fun x7 => (¬ w (178 + 4 * x7) = -1) ∧ fitW w y v x7) k) ||| ((nI (1)) <<< ((nI (k)) &&& 31))) from (by exact bitP_t (p := fun x7 => (¬ w (178 + 4 * x7) = -1) ∧ fitW w y v x7) ⟨c4, Or.inl c6.symm⟩)] at z9
                exact z9
        · have c3 : ¬ ((hc (k))) = 0 := c3
          refine wn_ld (pc' := 50) (q := 6) (kin := 0) (v := .int (w (178 + 4 * k))) rfl (fun _ _ _ => rfl) rfl rfl ?_
          refine wn_ld (pc' := 51) (q := 0) (kin := 2) (v := .ref (0)) rfl (fun _ _ _ => rfl) rfl rfl ?_
          refine wn_get (pc' := 54) (v := .ref (23)) rfl rfl v1 rfl ?_
          refine wn_get (pc' := 57) (v := .ref (ls)) rfl rfl v2 rfl ?_
          refine wn_get (pc' := 60) (v := .ref (ls + 7)) rfl rfl l0 rfl ?_
          refine wn_ld (pc' := 62) (q := 5) (kin := 0) (v := .int (nI (k))) rfl (fun _ _ _ => rfl) rfl rfl ?_
          refine wn_ialdv (pc' := 63) (j := k) (v := (w (177 + 4 * k))) rfl rfl l7 rfl (by omega) (by decide) ((g4 k (by omega)).2) ?_
          refine wn_icmp (t := 70) (f := 66) rfl rfl rfl (fun c7 => ?_) (fun c7 => ?_)
          · have c7 : ¬ ((w (178 + 4 * k))) = ((w (177 + 4 * k))) := c7
            refine wn_ic (pc' := 71) (w := nI 0) rfl rfl (by decide) ?_
            refine wn_st (pc' := 73) (q := 7) (kin := 0) (lv' := [(0, .ref (0)), (1, .int (nI (v))), (2, .int (nI (y))), (3, .ref (44)), (4, .int (bitP (fun x7 => (¬ w (178 + 4 * x7) = -1) ∧ fitW w y v x7) k)), (5, .int (nI (k))), (6, .int (w (178 + 4 * k))), (7, .int (nI (0)))]) rfl (fun _ _ _ => rfl) rfl (Nat.le_of_ble_eq_true rfl) rfl ?_
            refine wn_ld (pc' := 75) (q := 6) (kin := 0) (v := .int (w (178 + 4 * k))) rfl (fun _ _ _ => rfl) rfl rfl ?_
            refine wn_ic (pc' := 76) (w := -1) rfl rfl (by decide) ?_
            refine wn_icmp (t := 109) (f := 79) rfl rfl rfl (fun c8 => ?_) (fun c8 => ?_)
            · have c8 : ((w (178 + 4 * k))) = ((-1)) := c8
              refine wn_incN (n := 1) (pc' := 112) (lv' := [(0, .ref (0)), (1, .int (nI (v))), (2, .int (nI (y))), (3, .ref (44)), (4, .int (bitP (fun x7 => (¬ w (178 + 4 * x7) = -1) ∧ fitW w y v x7) k)), (5, .int (nI (k + 1))), (6, .int (w (178 + 4 * k))), (7, .int (nI (0)))]) rfl rfl rfl (Nat.le_of_ble_eq_true rfl) rfl (by decide) ?_
              refine wn_jp (pc' := 14) rfl rfl ?_
              refine wn_weak (lv' := [(0, .ref (0)), (1, .int (nI (v))), (2, .int (nI (y))), (3, .ref (44)), (4, .int (bitP (fun x7 => (¬ w (178 + 4 * x7) = -1) ∧ fitW w y v x7) k)), (5, .int (nI (k + 1)))]) (by simp) ?_
              have z9 := ih_lp1 (k + 1) (by omega) (by omega)
              rw [show (bitP (fun x7 => (¬ w (178 + 4 * x7) = -1) ∧ fitW w y v x7) (k + 1)) = (bitP (fun x7 => (¬ w (178 + 4 * x7) = -1) ∧ fitW w y v x7) k) from (by exact bitP_f (p := fun x7 => (¬ w (178 + 4 * x7) = -1) ∧ fitW w y v x7) (fun q => q.1 c8))] at z9
              exact z9
            · have c8 : ¬ ((w (178 + 4 * k))) = ((-1)) := c8
              refine wn_ld (pc' := 81) (q := 7) (kin := 0) (v := .int (nI (0))) rfl (fun _ _ _ => rfl) rfl rfl ?_
              refine wn_ifN (t := 100) (f := 84) rfl rfl rfl (by omega) (fun c9 => ?_) (fun c9 => ?_)
              · have c9 : ¬ 0 = 0 := c9
                exact absurd c9 (by decide)
              · have c9 : 0 = 0 := c9
                refine wn_ld (pc' := 86) (q := 6) (kin := 0) (v := .int (w (178 + 4 * k))) rfl (fun _ _ _ => rfl) rfl rfl ?_
                refine wn_ld (pc' := 87) (q := 0) (kin := 2) (v := .ref (0)) rfl (fun _ _ _ => rfl) rfl rfl ?_
                refine wn_get (pc' := 90) (v := .ref (52)) rfl rfl v1 rfl ?_
                refine wn_ld (pc' := 92) (q := 5) (kin := 0) (v := .int (nI (k))) rfl (fun _ _ _ => rfl) rfl rfl ?_
                refine wn_ld (pc' := 93) (q := 2) (kin := 0) (v := .int (nI (y))) rfl (fun _ _ _ => rfl) rfl rfl ?_
                refine wn_ld (pc' := 94) (q := 1) (kin := 0) (v := .int (nI (v))) rfl (fun _ _ _ => rfl) rfl rfl ?_
                have := sdW_5 hWf (y := y) (show v < nvW w by omega) (show k < ntW w by omega)
                refine wn_virI (pc' := 97) rfl rfl (by decide) rfl rfl v3 (Nat.le_of_ble_eq_true rfl) (x_variantAt _ _ ls w hWf V k y v (by omega) (by omega) (by omega) (Ra k (by omega))) ?_
                refine wn_icmp (t := 109) (f := 100) rfl rfl rfl (fun c10 => ?_) (fun c10 => ?_)
                · have c10 : ¬ ((w (178 + 4 * k))) = ((nI (sdW w y v k))) := c10
                  refine wn_incN (n := 1) (pc' := 112) (lv' := [(0, .ref (0)), (1, .int (nI (v))), (2, .int (nI (y))), (3, .ref (44)), (4, .int (bitP (fun x7 => (¬ w (178 + 4 * x7) = -1) ∧ fitW w y v x7) k)), (5, .int (nI (k + 1))), (6, .int (w (178 + 4 * k))), (7, .int (nI (0)))]) rfl rfl rfl (Nat.le_of_ble_eq_true rfl) rfl (by decide) ?_
                  refine wn_jp (pc' := 14) rfl rfl ?_
                  refine wn_weak (lv' := [(0, .ref (0)), (1, .int (nI (v))), (2, .int (nI (y))), (3, .ref (44)), (4, .int (bitP (fun x7 => (¬ w (178 + 4 * x7) = -1) ∧ fitW w y v x7) k)), (5, .int (nI (k + 1)))]) (by simp) ?_
                  have z9 := ih_lp1 (k + 1) (by omega) (by omega)
                  rw [show (bitP (fun x7 => (¬ w (178 + 4 * x7) = -1) ∧ fitW w y v x7) (k + 1)) = (bitP (fun x7 => (¬ w (178 + 4 * x7) = -1) ∧ fitW w y v x7) k) from (by exact bitP_f (p := fun x7 => (¬ w (178 + 4 * x7) = -1) ∧ fitW w y v x7) (fun q => q.2.elim (fun e9 => c10 e9.symm) (fun e9 => c7 e9.2)))] at z9
                  exact z9
                · have c10 : ((w (178 + 4 * k))) = ((nI (sdW w y v k))) := c10
                  refine wn_ld (pc' := 102) (q := 4) (kin := 0) (v := .int (bitP (fun x7 => (¬ w (178 + 4 * x7) = -1) ∧ fitW w y v x7) k)) rfl (fun _ _ _ => rfl) rfl rfl ?_
                  refine wn_ic (pc' := 103) (w := nI 1) rfl rfl (by decide) ?_
                  refine wn_ld (pc' := 105) (q := 5) (kin := 0) (v := .int (nI (k))) rfl (fun _ _ _ => rfl) rfl rfl ?_
                  refine wn_pu (pc' := 106) (st' := [.int ((nI (1)) <<< ((nI (k)) &&& 31)), .int (bitP (fun x7 => (¬ w (178 + 4 * x7) = -1) ∧ fitW w y v x7) k)]) rfl (fun _ _ _ => rfl) rfl rfl ?_
                  refine wn_pu (pc' := 107) (st' := [.int ((bitP (fun x7 => (¬ w (178 + 4 * x7) = -1) ∧ fitW w y v x7) k) ||| ((nI (1)) <<< ((nI (k)) &&& 31)))]) rfl (fun _ _ _ => rfl) rfl rfl ?_
                  refine wn_st (pc' := 109) (q := 4) (kin := 0) (lv' := [(0, .ref (0)), (1, .int (nI (v))), (2, .int (nI (y))), (3, .ref (44)), (4, .int ((bitP (fun x7 => (¬ w (178 + 4 * x7) = -1) ∧ fitW w y v x7) k) ||| ((nI (1)) <<< ((nI (k)) &&& 31)))), (5, .int (nI (k))), (6, .int (w (178 + 4 * k))), (7, .int (nI (0)))]) rfl (fun _ _ _ => rfl) rfl (Nat.le_of_ble_eq_true rfl) rfl ?_
                  refine wn_incN (n := 1) (pc' := 112) (lv' := [(0, .ref (0)), (1, .int (nI (v))), (2, .int (nI (y))), (3, .ref (44)), (4, .int ((bitP (fun x7 => (¬ w (178 + 4 * x7) = -1) ∧ fitW w y v x7) k) ||| ((nI (1)) <<< ((nI (k)) &&& 31)))), (5, .int (nI (k + 1))), (6, .int (w (178 + 4 * k))), (7, .int (nI (0)))]) rfl rfl rfl (Nat.le_of_ble_eq_true rfl) rfl (by decide) ?_
                  refine wn_jp (pc' := 14) rfl rfl ?_
                  refine wn_weak (lv' := [(0, .ref (0)), (1, .int (nI (v))), (2, .int (nI (y))), (3, .ref (44)), (4, .int ((bitP (fun x7 => (¬ w (178 + 4 * x7) = -1) ∧ fitW w y v x7) k) ||| ((nI (1)) <<< ((nI (k)) &&& 31)))), (5, .int (nI (k + 1)))]) (by simp) ?_
                  have z9 := ih_lp1 (k + 1) (by omega) (by omega)
                  rw [show (bitP (fun x7 => (¬ w (178 + 4 * x7) = -1) ∧ fitW w y v x7) (k + 1)) = ((bitP (fun x7 => (¬ w (178 + 4 * x7) = -1) ∧ fitW w y v x7) k) ||| ((nI (1)) <<< ((nI (k)) &&& 31))) from (by exact bitP_t (p := fun x7 => (¬ w (178 + 4 * x7) = -1) ∧ fitW w y v x7) ⟨c8, Or.inl c10.symm⟩)] at z9
                  exact z9
          · have c7 : ((w (178 + 4 * k))) = ((w (177 + 4 * k))) := c7
            refine wn_ic (pc' := 67) (w := nI 1) rfl rfl (by decide) ?_
            refine wn_jp (pc' := 71) rfl rfl ?_
            refine wn_st (pc' := 73) (q := 7) (kin := 0) (lv' := [(0, .ref (0)), (1, .int (nI (v))), (2, .int (nI (y))), (3, .ref (44)), (4, .int (bitP (fun x7 => (¬ w (178 + 4 * x7) = -1) ∧ fitW w y v x7) k)), (5, .int (nI (k))), (6, .int (w (178 + 4 * k))), (7, .int (nI (1)))]) rfl (fun _ _ _ => rfl) rfl (Nat.le_of_ble_eq_true rfl) rfl ?_
            refine wn_ld (pc' := 75) (q := 6) (kin := 0) (v := .int (w (178 + 4 * k))) rfl (fun _ _ _ => rfl) rfl rfl ?_
            refine wn_ic (pc' := 76) (w := -1) rfl rfl (by decide) ?_
            refine wn_icmp (t := 109) (f := 79) rfl rfl rfl (fun c11 => ?_) (fun c11 => ?_)
            · have c11 : ((w (178 + 4 * k))) = ((-1)) := c11
              refine wn_incN (n := 1) (pc' := 112) (lv' := [(0, .ref (0)), (1, .int (nI (v))), (2, .int (nI (y))), (3, .ref (44)), (4, .int (bitP (fun x7 => (¬ w (178 + 4 * x7) = -1) ∧ fitW w y v x7) k)), (5, .int (nI (k + 1))), (6, .int (w (178 + 4 * k))), (7, .int (nI (1)))]) rfl rfl rfl (Nat.le_of_ble_eq_true rfl) rfl (by decide) ?_
              refine wn_jp (pc' := 14) rfl rfl ?_
              refine wn_weak (lv' := [(0, .ref (0)), (1, .int (nI (v))), (2, .int (nI (y))), (3, .ref (44)), (4, .int (bitP (fun x7 => (¬ w (178 + 4 * x7) = -1) ∧ fitW w y v x7) k)), (5, .int (nI (k + 1)))]) (by simp) ?_
              have z9 := ih_lp1 (k + 1) (by omega) (by omega)
              rw [show (bitP (fun x7 => (¬ w (178 + 4 * x7) = -1) ∧ fitW w y v x7) (k + 1)) = (bitP (fun x7 => (¬ w (178 + 4 * x7) = -1) ∧ fitW w y v x7) k) from (by exact bitP_f (p := fun x7 => (¬ w (178 + 4 * x7) = -1) ∧ fitW w y v x7) (fun q => q.1 c11))] at z9
              exact z9
            · have c11 : ¬ ((w (178 + 4 * k))) = ((-1)) := c11
              refine wn_ld (pc' := 81) (q := 7) (kin := 0) (v := .int (nI (1))) rfl (fun _ _ _ => rfl) rfl rfl ?_
              refine wn_ifN (t := 100) (f := 84) rfl rfl rfl (by omega) (fun c12 => ?_) (fun c12 => ?_)
              · have c12 : ¬ 1 = 0 := c12
                refine wn_ld (pc' := 102) (q := 4) (kin := 0) (v := .int (bitP (fun x7 => (¬ w (178 + 4 * x7) = -1) ∧ fitW w y v x7) k)) rfl (fun _ _ _ => rfl) rfl rfl ?_
                refine wn_ic (pc' := 103) (w := nI 1) rfl rfl (by decide) ?_
                refine wn_ld (pc' := 105) (q := 5) (kin := 0) (v := .int (nI (k))) rfl (fun _ _ _ => rfl) rfl rfl ?_
                refine wn_pu (pc' := 106) (st' := [.int ((nI (1)) <<< ((nI (k)) &&& 31)), .int (bitP (fun x7 => (¬ w (178 + 4 * x7) = -1) ∧ fitW w y v x7) k)]) rfl (fun _ _ _ => rfl) rfl rfl ?_
                refine wn_pu (pc' := 107) (st' := [.int ((bitP (fun x7 => (¬ w (178 + 4 * x7) = -1) ∧ fitW w y v x7) k) ||| ((nI (1)) <<< ((nI (k)) &&& 31)))]) rfl (fun _ _ _ => rfl) rfl rfl ?_
                refine wn_st (pc' := 109) (q := 4) (kin := 0) (lv' := [(0, .ref (0)), (1, .int (nI (v))), (2, .int (nI (y))), (3, .ref (44)), (4, .int ((bitP (fun x7 => (¬ w (178 + 4 * x7) = -1) ∧ fitW w y v x7) k) ||| ((nI (1)) <<< ((nI (k)) &&& 31)))), (5, .int (nI (k))), (6, .int (w (178 + 4 * k))), (7, .int (nI (1)))]) rfl (fun _ _ _ => rfl) rfl (Nat.le_of_ble_eq_true rfl) rfl ?_
                refine wn_incN (n := 1) (pc' := 112) (lv' := [(0, .ref (0)), (1, .int (nI (v))), (2, .int (nI (y))), (3, .ref (44)), (4, .int ((bitP (fun x7 => (¬ w (178 + 4 * x7) = -1) ∧ fitW w y v x7) k) ||| ((nI (1)) <<< ((nI (k)) &&& 31)))), (5, .int (nI (k + 1))), (6, .int (w (178 + 4 * k))), (7, .int (nI (1)))]) rfl rfl rfl (Nat.le_of_ble_eq_true rfl) rfl (by decide) ?_
                refine wn_jp (pc' := 14) rfl rfl ?_
                refine wn_weak (lv' := [(0, .ref (0)), (1, .int (nI (v))), (2, .int (nI (y))), (3, .ref (44)), (4, .int ((bitP (fun x7 => (¬ w (178 + 4 * x7) = -1) ∧ fitW w y v x7) k) ||| ((nI (1)) <<< ((nI (k)) &&& 31)))), (5, .int (nI (k + 1)))]) (by simp) ?_
                have z9 := ih_lp1 (k + 1) (by omega) (by omega)
                rw [show (bitP (fun x7 => (¬ w (178 + 4 * x7) = -1) ∧ fitW w y v x7) (k + 1)) = ((bitP (fun x7 => (¬ w (178 + 4 * x7) = -1) ∧ fitW w y v x7) k) ||| ((nI (1)) <<< ((nI (k)) &&& 31))) from (by exact bitP_t (p := fun x7 => (¬ w (178 + 4 * x7) = -1) ∧ fitW w y v x7) ⟨c11, Or.inr ⟨(hc_iff hWf y4 (by omega) c11).mp c3, c7⟩⟩)] at z9
                exact z9
              · have c12 : 1 = 0 := c12
                exact absurd c12 (by decide)
  refine wn_weak (lv' := [(0, .ref (0)), (1, .int (nI (v))), (2, .int (nI (y))), (3, .ref (44)), (4, .int (nI (0))), (5, .int (nI (0)))]) (by simp) ?_
  have z9 := lp1 ((ntW w) + 1) 0 (by omega) (by omega)
  rw [show (bitP (fun x7 => (¬ w (178 + 4 * x7) = -1) ∧ fitW w y v x7) 0) = (nI (0)) from (by rfl)] at z9
  exact z9

theorem x_fits (d : Nat) (h : aH) (ls : Nat) (w : Nat → Int32) (hWf : WfW w) (V : XV h ls w) (R0 : RX h h ls w) (v y : Int32) : Sp (Rn (d + 7)) 99 [.ref (0), .int (v), .int (y)] h (fun r9 h9 => r9 = some (.int (fitsA w v y)) ∧ RX h h9 ls w) := by
  obtain ⟨⟨e1, e2⟩, ⟨e3, e4⟩, ⟨e5, e6⟩⟩ := Wf_n hWf
  obtain ⟨⟨e7, e8⟩, ⟨e9, e10⟩⟩ := Wf_m hWf
  obtain ⟨v0, ⟨x9, v1⟩, ⟨v2, ⟨sz, rf, rt, rv, ag, vr, sd, tl, l0, l1, l2, l3, l4, l5, l6, l7, l8, g1, g2, g3, g4, g5⟩, ⟨sec, it, fi, se, sg, lst, rs, rp, pj, pk, pv, k0, k1, k2, k3, k4, k5, k6, k7, k8, k9, k10, k11, k12, k13⟩, ⟨hv, hc, y0, y1, y2, y3, y4⟩, ⟨an, wk, n0, n1, n2, n3, n4⟩⟩, v3⟩ := id V
  rw [e1, e3, e5] at l0
  rw [e7, e9] at k1
  refine Sp_of (by decide) (Nat.le_of_ble_eq_true rfl) ?_
  show Wn _ _ 0 [(0, .ref (0)), (1, .int (v)), (2, .int (y))] [] _ _
  refine wn_ld (pc' := 1) (q := 0) (kin := 2) (v := .ref (0)) rfl (fun _ _ _ => rfl) rfl rfl ?_
  refine wn_ld (pc' := 2) (q := 1) (kin := 0) (v := .int (v)) rfl (fun _ _ _ => rfl) rfl rfl ?_
  refine wn_virI (pc' := 5) rfl rfl (by decide) rfl rfl v1 (Nat.le_of_ble_eq_true rfl) (x_hasVillage _ _ ls w hWf V _) ?_
  refine wn_ifeqB (t := 16) (f := 8) rfl rfl rfl (fun c1 => ?_) (fun c1 => ?_)
  · have c1 : ¬ (iin v (nvW w)) := c1
    refine wn_bp (pc' := 18) (w := -2) rfl rfl (by decide) ?_
    try simp only [Int32.lt_iff_toInt_lt, Int32.le_iff_toInt_le, i2l_int, Int32.toInt_zero, iin] at c1
    refine wn_iret rfl rfl rfl ⟨congrArg (fun z => some (Value.int z)) ?_, (RY.rx (RY.rfl' R0.2.2.1) R0.2.2.2)⟩
    unfold fitsA
    rw [qI_f (by simp only [iin]; omega)]
  · have c1 : (iin v (nvW w)) := c1
    obtain ⟨v9, hv9, rfl⟩ := iin_of c1
    have ti_v := nI_toInt (n := v9) (show v9 < 2 ^ 31 by omega)
    have cl_v := nI_clamp (n := v9) (show v9 < 2 ^ 31 by omega)
    refine wn_ld (pc' := 9) (q := 0) (kin := 2) (v := .ref (0)) rfl (fun _ _ _ => rfl) rfl rfl ?_
    refine wn_ld (pc' := 10) (q := 2) (kin := 0) (v := .int (y)) rfl (fun _ _ _ => rfl) rfl rfl ?_
    refine wn_virS (pc' := 13) rfl rfl (by decide) rfl rfl v1 (Nat.le_of_ble_eq_true rfl) (x_reachesYear _ _ ls w hWf V R0.2.2.1 y) (fun r9 h2 e3 => ?_)
    obtain ⟨rfl, R_h2, Ra_h2⟩ := e3
    have RY_h2 := RY.tr (RY.rfl' R0.2.2.1) R_h2
    have V_h2 := RY_h2.xv V
    obtain ⟨v0_h2, ⟨x9_h2, v1_h2⟩, ⟨v2_h2, ⟨sz_h2, rf_h2, rt_h2, rv_h2, ag_h2, vr_h2, sd_h2, tl_h2, l0_h2, l1_h2, l2_h2, l3_h2, l4_h2, l5_h2, l6_h2, l7_h2, l8_h2, g1_h2, g2_h2, g3_h2, g4_h2, g5_h2⟩, ⟨sec_h2, it_h2, fi_h2, se_h2, sg_h2, lst_h2, rs_h2, rp_h2, pj_h2, pk_h2, pv_h2, k0_h2, k1_h2, k2_h2, k3_h2, k4_h2, k5_h2, k6_h2, k7_h2, k8_h2, k9_h2, k10_h2, k11_h2, k12_h2, k13_h2⟩, ⟨hv_h2, hc_h2, y0_h2, y1_h2, y2_h2, y3_h2, y4_h2⟩, ⟨an_h2, wk_h2, n0_h2, n1_h2, n2_h2, n3_h2, n4_h2⟩⟩, v3_h2⟩ := id V_h2
    rw [e1, e3, e5] at l0_h2
    rw [e7, e9] at k1_h2
    show Wn _ _ 13 _ [.int (bI (iin y 61))] h2 _
    refine wn_ifneB (t := 19) (f := 16) rfl rfl rfl (fun c4 => ?_) (fun c4 => ?_)
    · have c4 : (iin y 61) := c4
      obtain ⟨y9, hy9, rfl⟩ := iin_of c4
      have ti_y := nI_toInt (n := y9) (show y9 < 2 ^ 31 by omega)
      have cl_y := nI_clamp (n := y9) (show y9 < 2 ^ 31 by omega)
      have Rd_h2 : ∀ i, i < ntW w → Rch h2 w i y9 := by have q := Ra_h2 c4; rw [cl_y] at q; exact q
      refine wn_ld (pc' := 20) (q := 0) (kin := 2) (v := .ref (0)) rfl (fun _ _ _ => rfl) rfl rfl ?_
      refine wn_ld (pc' := 21) (q := 1) (kin := 0) (v := .int (nI (v9))) rfl (fun _ _ _ => rfl) rfl rfl ?_
      refine wn_ld (pc' := 22) (q := 2) (kin := 0) (v := .int (nI (y9))) rfl (fun _ _ _ => rfl) rfl rfl ?_
      refine wn_virI (pc' := 25) rfl rfl (by decide) rfl rfl v1_h2 (Nat.le_of_ble_eq_true rfl) (x_fittingItems _ _ ls w hWf V_h2 y9 (by omega) Rd_h2 v9 (by omega)) ?_
      refine wn_staI (pc' := 28) rfl rfl (by decide) rfl rfl (Nat.le_of_ble_eq_true rfl) (x_bitCount _ _ _) ?_
      rw [fi_cnt hWf]
      have := ftN_le hWf y9 v9
      try simp only [Int32.lt_iff_toInt_lt, Int32.le_iff_toInt_le, i2l_int, Int32.toInt_zero, iin] at c1
      try simp only [Int32.lt_iff_toInt_lt, Int32.le_iff_toInt_le, i2l_int, Int32.toInt_zero, iin] at c4
      refine wn_iret rfl rfl rfl ⟨congrArg (fun z => some (Value.int z)) ?_, (RY.rx RY_h2 R0.2.2.2)⟩
      unfold fitsA
      rw [qI_t (by simp only [iin]; omega)]
      first | rfl | (simp only [cl_v, cl_y]; done) | (simp only [cl_v, cl_y]; rfl)
    · have c4 : ¬ (iin y 61) := c4
      refine wn_bp (pc' := 18) (w := -2) rfl rfl (by decide) ?_
      try simp only [Int32.lt_iff_toInt_lt, Int32.le_iff_toInt_le, i2l_int, Int32.toInt_zero, iin] at c1
      try simp only [Int32.lt_iff_toInt_lt, Int32.le_iff_toInt_le, i2l_int, Int32.toInt_zero, iin] at c4
      refine wn_iret rfl rfl rfl ⟨congrArg (fun z => some (Value.int z)) ?_, (RY.rx RY_h2 R0.2.2.2)⟩
      unfold fitsA
      rw [qI_f (by simp only [iin]; omega)]

theorem case_21 (v : Int32) (y : Int32) : CaseI Rp 99 211 [.int v, .int y] := case_q (fun h ls w hWf V R => ⟨_, x_fits 693 h ls w hWf V R v y, fun h1 HQ => m_fits 689 h1 w hWf HQ v y⟩)
theorem x_fillFitting (d : Nat) (h : aH) (ls : Nat) (w : Nat → Int32) (hWf : WfW w) (V : XV h ls w) (ft : Nat → Int32) (b0 : isI h 60 24 ft) (y : Nat) (hy : y ≤ 60) (Ra : ∀ i, i < ntW w → Rch h w i y) : Sp (Rn (d + 4)) 97 [.ref (0), .int (nI (y))] h (fun r9 h9 => r9 = none ∧ Fr [60] h h9 ∧ ∃ f1, isI h9 60 24 f1 ∧ ∀ v, v < nvW w → f1 v = fiW w y v) := by
  obtain ⟨⟨e1, e2⟩, ⟨e3, e4⟩, ⟨e5, e6⟩⟩ := Wf_n hWf
  obtain ⟨⟨e7, e8⟩, ⟨e9, e10⟩⟩ := Wf_m hWf
  obtain ⟨v0, ⟨x9, v1⟩, ⟨v2, ⟨sz, rf, rt, rv, ag, vr, sd, tl, l0, l1, l2, l3, l4, l5, l6, l7, l8, g1, g2, g3, g4, g5⟩, ⟨sec, it, fi, se, sg, lst, rs, rp, pj, pk, pv, k0, k1, k2, k3, k4, k5, k6, k7, k8, k9, k10, k11, k12, k13⟩, ⟨hv, hc, y0, y1, y2, y3, y4⟩, ⟨an, wk, n0, n1, n2, n3, n4⟩⟩, v3⟩ := id V
  rw [e1, e3, e5] at l0
  rw [e7, e9] at k1
  refine Sp_of (by decide) (Nat.le_of_ble_eq_true rfl) ?_
  show Wn _ _ 0 [(0, .ref (0)), (1, .int (nI (y)))] [] _ _
  refine wn_ic (pc' := 1) (w := nI 0) rfl rfl (by decide) ?_
  refine wn_st (pc' := 2) (q := 2) (kin := 0) (lv' := [(0, .ref (0)), (1, .int (nI (y))), (2, .int (nI (0)))]) rfl (fun _ _ _ => rfl) rfl (Nat.le_of_ble_eq_true rfl) rfl ?_
  have lp2 : ∀ (n_lp2 : Nat) (g1 : aH) (f1 : Nat → Int32) (v : Nat), (nvW w) + 1 ≤ v + n_lp2 → Fr [60] h g1 → isI g1 60 24 f1 → v ≤ nvW w → (∀ q, q < v → f1 q = fiW w y q) → Wn (Rn (d + 3)) 97 2 [(0, .ref (0)), (1, .int (nI (y))), (2, .int (nI (v)))] [] (g1) (fun r9 h9 => r9 = none ∧ Fr [60] h h9 ∧ ∃ f1, isI h9 60 24 f1 ∧ ∀ v, v < nvW w → f1 v = fiW w y v) := by
    intro n_lp2
    induction n_lp2 with
    | zero => intro g1 f1 v hm_lp2 hf_g1 c_60_g1 hv_ hB; exfalso; omega
    | succ n_lp2 ih_lp2 =>
      intro g1 f1 v hm_lp2 hf_g1 c_60_g1 hv_ hB
      have V_g1 : XV g1 ls w := XV.frl V hf_g1 (by decide)
      have Ra_g1 : ∀ i, i < ntW w → Rch g1 w i y := fun i q => Rch.fr (Ra i q) hf_g1 (by decide)
      refine wn_ld (pc' := 3) (q := 2) (kin := 0) (v := .int (nI (v))) rfl (fun _ _ _ => rfl) rfl rfl ?_
      refine wn_ld (pc' := 4) (q := 0) (kin := 2) (v := .ref (0)) rfl (fun _ _ _ => rfl) rfl rfl ?_
      refine wn_get (pc' := 7) (v := .ref (23)) rfl rfl ((hf_g1.2 0 (by decide)).trans v1) rfl ?_
      refine wn_get (pc' := 10) (v := .ref (ls)) rfl rfl ((hf_g1.2 23 (by decide)).trans v2) rfl ?_
      refine wn_get (pc' := 13) (v := .int (nI (nvW w))) rfl rfl ((hf_g1.2 ls (by simp only [List.mem_cons, List.not_mem_nil, or_false]; omega)).trans l0) rfl ?_
      refine wn_icmpN (t := 34) (f := 16) rfl rfl rfl (by omega) (by omega) (fun c3 => ?_) (fun c3 => ?_)
      · have c3 : (nvW w) ≤ v := c3
        obtain rfl : v = nvW w := by omega
        exact wn_vret rfl rfl ⟨rfl, hf_g1, _, c_60_g1, hB⟩
      · have c3 : v < (nvW w) := c3
        refine wn_ld (pc' := 17) (q := 0) (kin := 2) (v := .ref (0)) rfl (fun _ _ _ => rfl) rfl rfl ?_
        refine wn_get (pc' := 20) (v := .ref (60)) rfl rfl ((hf_g1.2 0 (by decide)).trans v1) rfl ?_
        refine wn_ld (pc' := 21) (q := 2) (kin := 0) (v := .int (nI (v))) rfl (fun _ _ _ => rfl) rfl rfl ?_
        refine wn_ld (pc' := 22) (q := 0) (kin := 2) (v := .ref (0)) rfl (fun _ _ _ => rfl) rfl rfl ?_
        refine wn_ld (pc' := 23) (q := 2) (kin := 0) (v := .int (nI (v))) rfl (fun _ _ _ => rfl) rfl rfl ?_
        refine wn_ld (pc' := 24) (q := 1) (kin := 0) (v := .int (nI (y))) rfl (fun _ _ _ => rfl) rfl rfl ?_
        refine wn_virI (pc' := 27) rfl rfl (by decide) rfl rfl ((hf_g1.2 0 (by decide)).trans v1) (Nat.le_of_ble_eq_true rfl) (x_fittingItems _ _ ls w hWf V_g1 y (by omega) Ra_g1 v (by omega)) ?_
        refine wn_iast (pc' := 28) (j := v) rfl rfl c_60_g1 rfl (by omega) (by decide) ?_
        refine wn_incN (n := 1) (pc' := 31) (lv' := [(0, .ref (0)), (1, .int (nI (y))), (2, .int (nI (v + 1)))]) rfl rfl rfl (Nat.le_of_ble_eq_true rfl) rfl (by decide) ?_
        refine wn_jp (pc' := 2) rfl rfl ?_
        refine wn_weak (lv' := [(0, .ref (0)), (1, .int (nI (y))), (2, .int (nI (v + 1)))]) (by simp) ?_
        have z9 := ih_lp2 (g1.set 60 (.inl (0, 24, .inl (upd f1 (v) ((fiW w y v)))))) (upd f1 (v) ((fiW w y v))) (v + 1) (by omega) (Fr.st hf_g1 (by decide)) (gs_self c_60_g1) (by omega) (fun q hq => by by_cases e : q = v; (subst e; exact pk_us); (rw [pk_un (by omega)]; exact hB q (by omega)))
        exact z9
  refine wn_weak (lv' := [(0, .ref (0)), (1, .int (nI (y))), (2, .int (nI (0)))]) (by simp) ?_
  have z9 := lp2 ((nvW w) + 1) h ft 0 (by omega) (Fr.rfl' [60] h) b0 (by omega) (fun _ q => absurd q (by omega))
  exact z9

theorem hr_as {w hv : Nat → Int32} (h10 : ntW w ≤ 10) (y3 : ∀ i, i < 10 → hv i = (if i < ntW w then w (178 + 4 * i) else -1)) : bitP (fun k => ¬ hv k = -1) 10 = hrW w := b_ext (fun i hi => by
  apply Bool.eq_iff_iff.mpr
  unfold hrW
  rw [bitP_bt (by omega) hi, bitP_bt (by omega) hi]
  constructor
  · rintro ⟨h1, h2⟩
    by_cases c : i < ntW w
    · rw [y3 i h1, if_pos c] at h2; exact ⟨c, h2⟩
    · rw [y3 i h1, if_neg c] at h2; exact absurd rfl h2
  · rintro ⟨h1, h2⟩
    exact ⟨by omega, by rw [y3 i (by omega), if_pos h1]; exact h2⟩)
theorem x_asBits (d : Nat) (h : aH) (ls : Nat) (w : Nat → Int32) (hWf : WfW w) (V : XV h ls w) : Rn (d + 1) 62 [.ref (44)] h (some (.int (hrW w))) h 0 0 := by
  obtain ⟨⟨e1, e2⟩, ⟨e3, e4⟩, ⟨e5, e6⟩⟩ := Wf_n hWf
  obtain ⟨⟨e7, e8⟩, ⟨e9, e10⟩⟩ := Wf_m hWf
  obtain ⟨v0, ⟨x9, v1⟩, ⟨v2, ⟨sz, rf, rt, rv, ag, vr, sd, tl, l0, l1, l2, l3, l4, l5, l6, l7, l8, g1, g2, g3, g4, g5⟩, ⟨sec, it, fi, se, sg, lst, rs, rp, pj, pk, pv, k0, k1, k2, k3, k4, k5, k6, k7, k8, k9, k10, k11, k12, k13⟩, ⟨hv, hc, y0, y1, y2, y3, y4⟩, ⟨an, wk, n0, n1, n2, n3, n4⟩⟩, v3⟩ := id V
  rw [e1, e3, e5] at l0
  rw [e7, e9] at k1
  refine Rn_of (by decide) (Nat.le_of_ble_eq_true rfl) ?_
  show Wn _ _ 0 [(0, .ref (44))] [] _ _
  refine wn_ic (pc' := 1) (w := nI 0) rfl rfl (by decide) ?_
  refine wn_st (pc' := 2) (q := 1) (kin := 0) (lv' := [(0, .ref (44)), (1, .int (nI (0)))]) rfl (fun _ _ _ => rfl) rfl (Nat.le_of_ble_eq_true rfl) rfl ?_
  refine wn_ic (pc' := 3) (w := nI 0) rfl rfl (by decide) ?_
  refine wn_st (pc' := 4) (q := 2) (kin := 0) (lv' := [(0, .ref (44)), (1, .int (nI (0))), (2, .int (nI (0)))]) rfl (fun _ _ _ => rfl) rfl (Nat.le_of_ble_eq_true rfl) rfl ?_
  have lp1 : ∀ (n_lp1 : Nat) (k : Nat), 10 + 1 ≤ k + n_lp1 → k ≤ 10 → Wn (Rn (d + 0)) 62 4 [(0, .ref (44)), (1, .int (bitP (fun x7 => ¬ (hv x7 = -1)) k)), (2, .int (nI (k)))] [] (h) (fun r9 h9 => r9 = (some (.int (hrW w))) ∧ h9 = h) := by
    intro n_lp1
    induction n_lp1 with
    | zero => intro k hm_lp1 hk_k; exfalso; omega
    | succ n_lp1 ih_lp1 =>
      intro k hm_lp1 hk_k
      refine wn_ld (pc' := 5) (q := 2) (kin := 0) (v := .int (nI (k))) rfl (fun _ _ _ => rfl) rfl rfl ?_
      refine wn_bp (pc' := 7) (w := nI 10) rfl rfl (by decide) ?_
      refine wn_icmpN (t := 32) (f := 10) rfl rfl rfl (by omega) (by omega) (fun c2 => ?_) (fun c2 => ?_)
      · have c2 : 10 ≤ k := c2
        obtain rfl : k = 10 := by omega
        refine wn_ld (pc' := 33) (q := 1) (kin := 0) (v := .int (bitP (fun x7 => ¬ (hv x7 = -1)) 10)) rfl (fun _ _ _ => rfl) rfl rfl ?_
        exact wn_iret rfl rfl rfl ⟨congrArg (fun z => some (Value.int z)) (hr_as e6 (fun i q => (y3 i q).1)), rfl⟩
      · have c2 : k < 10 := c2
        refine wn_ld (pc' := 11) (q := 0) (kin := 2) (v := .ref (44)) rfl (fun _ _ _ => rfl) rfl rfl ?_
        refine wn_get (pc' := 14) (v := .ref (45)) rfl rfl y0 rfl ?_
        refine wn_ld (pc' := 15) (q := 2) (kin := 0) (v := .int (nI (k))) rfl (fun _ _ _ => rfl) rfl rfl ?_
        refine wn_ialdv (pc' := 16) (j := k) (v := (hv (k))) rfl rfl y1 rfl (by omega) (by decide) (rfl) ?_
        refine wn_ic (pc' := 17) (w := -1) rfl rfl (by decide) ?_
        refine wn_icmp (t := 26) (f := 20) rfl rfl rfl (fun c3 => ?_) (fun c3 => ?_)
        · have c3 : ((hv (k))) = ((-1)) := c3
          refine wn_incN (n := 1) (pc' := 29) (lv' := [(0, .ref (44)), (1, .int (bitP (fun x7 => ¬ (hv x7 = -1)) k)), (2, .int (nI (k + 1)))]) rfl rfl rfl (Nat.le_of_ble_eq_true rfl) rfl (by decide) ?_
          refine wn_jp (pc' := 4) rfl rfl ?_
          refine wn_weak (lv' := [(0, .ref (44)), (1, .int (bitP (fun x7 => ¬ (hv x7 = -1)) k)), (2, .int (nI (k + 1)))]) (by simp) ?_
          have z9 := ih_lp1 (k + 1) (by omega) (by omega)
          rw [show (bitP (fun x7 => ¬ (hv x7 = -1)) (k + 1)) = (bitP (fun x7 => ¬ (hv x7 = -1)) k) from (by exact bitP_f (p := fun x7 => ¬ (hv x7 = -1)) (fun q9 => q9 c3))] at z9
          exact z9
        · have c3 : ¬ ((hv (k))) = ((-1)) := c3
          refine wn_ld (pc' := 21) (q := 1) (kin := 0) (v := .int (bitP (fun x7 => ¬ (hv x7 = -1)) k)) rfl (fun _ _ _ => rfl) rfl rfl ?_
          refine wn_ic (pc' := 22) (w := nI 1) rfl rfl (by decide) ?_
          refine wn_ld (pc' := 23) (q := 2) (kin := 0) (v := .int (nI (k))) rfl (fun _ _ _ => rfl) rfl rfl ?_
          refine wn_pu (pc' := 24) (st' := [.int ((nI (1)) <<< ((nI (k)) &&& 31)), .int (bitP (fun x7 => ¬ (hv x7 = -1)) k)]) rfl (fun _ _ _ => rfl) rfl rfl ?_
          refine wn_pu (pc' := 25) (st' := [.int ((bitP (fun x7 => ¬ (hv x7 = -1)) k) ||| ((nI (1)) <<< ((nI (k)) &&& 31)))]) rfl (fun _ _ _ => rfl) rfl rfl ?_
          refine wn_st (pc' := 26) (q := 1) (kin := 0) (lv' := [(0, .ref (44)), (1, .int ((bitP (fun x7 => ¬ (hv x7 = -1)) k) ||| ((nI (1)) <<< ((nI (k)) &&& 31)))), (2, .int (nI (k)))]) rfl (fun _ _ _ => rfl) rfl (Nat.le_of_ble_eq_true rfl) rfl ?_
          refine wn_incN (n := 1) (pc' := 29) (lv' := [(0, .ref (44)), (1, .int ((bitP (fun x7 => ¬ (hv x7 = -1)) k) ||| ((nI (1)) <<< ((nI (k)) &&& 31)))), (2, .int (nI (k + 1)))]) rfl rfl rfl (Nat.le_of_ble_eq_true rfl) rfl (by decide) ?_
          refine wn_jp (pc' := 4) rfl rfl ?_
          refine wn_weak (lv' := [(0, .ref (44)), (1, .int ((bitP (fun x7 => ¬ (hv x7 = -1)) k) ||| ((nI (1)) <<< ((nI (k)) &&& 31)))), (2, .int (nI (k + 1)))]) (by simp) ?_
          have z9 := ih_lp1 (k + 1) (by omega) (by omega)
          rw [show (bitP (fun x7 => ¬ (hv x7 = -1)) (k + 1)) = ((bitP (fun x7 => ¬ (hv x7 = -1)) k) ||| ((nI (1)) <<< ((nI (k)) &&& 31))) from (by exact bitP_t (p := fun x7 => ¬ (hv x7 = -1)) c3)] at z9
          exact z9
  refine wn_weak (lv' := [(0, .ref (44)), (1, .int (nI (0))), (2, .int (nI (0)))]) (by simp) ?_
  have z9 := lp1 (10 + 1) 0 (by omega) (by omega)
  rw [show (bitP (fun x7 => ¬ (hv x7 = -1)) 0) = (nI (0)) from (by rfl)] at z9
  exact z9

theorem x_wholeVillages (d : Nat) (h : aH) (ls : Nat) (w : Nat → Int32) (hWf : WfW w) (V : XV h ls w) (ft : Nat → Int32) (b0 : isI h 60 24 ft) (y : Nat) (hy : y ≤ 60) (Ra : ∀ i, i < ntW w → Rch h w i y) : Sp (Rn (d + 5)) 101 [.ref (0), .int (nI (y))] h (fun r9 h9 => r9 = some (.int (whW w y)) ∧ Fr [60] h h9 ∧ ∃ f1, isI h9 60 24 f1) := by
  obtain ⟨⟨e1, e2⟩, ⟨e3, e4⟩, ⟨e5, e6⟩⟩ := Wf_n hWf
  obtain ⟨⟨e7, e8⟩, ⟨e9, e10⟩⟩ := Wf_m hWf
  obtain ⟨v0, ⟨x9, v1⟩, ⟨v2, ⟨sz, rf, rt, rv, ag, vr, sd, tl, l0, l1, l2, l3, l4, l5, l6, l7, l8, g1, g2, g3, g4, g5⟩, ⟨sec, it, fi, se, sg, lst, rs, rp, pj, pk, pv, k0, k1, k2, k3, k4, k5, k6, k7, k8, k9, k10, k11, k12, k13⟩, ⟨hv, hc, y0, y1, y2, y3, y4⟩, ⟨an, wk, n0, n1, n2, n3, n4⟩⟩, v3⟩ := id V
  rw [e1, e3, e5] at l0
  rw [e7, e9] at k1
  refine Sp_of (by decide) (Nat.le_of_ble_eq_true rfl) ?_
  show Wn _ _ 0 [(0, .ref (0)), (1, .int (nI (y)))] [] _ _
  refine wn_ld (pc' := 1) (q := 0) (kin := 2) (v := .ref (0)) rfl (fun _ _ _ => rfl) rfl rfl ?_
  refine wn_ld (pc' := 2) (q := 1) (kin := 0) (v := .int (nI (y))) rfl (fun _ _ _ => rfl) rfl rfl ?_
  refine wn_virS (pc' := 5) rfl rfl (by decide) rfl rfl v1 (Nat.le_of_ble_eq_true rfl) (x_fillFitting _ _ ls w hWf V _ b0 y (by omega) Ra) (fun r9 h1 e2 => ?_)
  obtain ⟨rfl, f_h1, b_h1, i_h1, fv_h1⟩ := e2
  have V_h1 := XV.frl V f_h1 (by decide)
  obtain ⟨v0_h1, ⟨x9_h1, v1_h1⟩, ⟨v2_h1, ⟨sz_h1, rf_h1, rt_h1, rv_h1, ag_h1, vr_h1, sd_h1, tl_h1, l0_h1, l1_h1, l2_h1, l3_h1, l4_h1, l5_h1, l6_h1, l7_h1, l8_h1, g1_h1, g2_h1, g3_h1, g4_h1, g5_h1⟩, ⟨sec_h1, it_h1, fi_h1, se_h1, sg_h1, lst_h1, rs_h1, rp_h1, pj_h1, pk_h1, pv_h1, k0_h1, k1_h1, k2_h1, k3_h1, k4_h1, k5_h1, k6_h1, k7_h1, k8_h1, k9_h1, k10_h1, k11_h1, k12_h1, k13_h1⟩, ⟨hv_h1, hc_h1, y0_h1, y1_h1, y2_h1, y3_h1, y4_h1⟩, ⟨an_h1, wk_h1, n0_h1, n1_h1, n2_h1, n3_h1, n4_h1⟩⟩, v3_h1⟩ := id V_h1
  rw [e1, e3, e5] at l0_h1
  rw [e7, e9] at k1_h1
  have Rb_h1 : ∀ i, i < ntW w → Rch h1 w i y := fun i q => Rch.fr (Ra i q) f_h1 (by decide)
  show Wn _ _ 5 _ [] h1 _
  refine wn_ld (pc' := 6) (q := 0) (kin := 2) (v := .ref (0)) rfl (fun _ _ _ => rfl) rfl rfl ?_
  refine wn_get (pc' := 9) (v := .ref (23)) rfl rfl v1_h1 rfl ?_
  refine wn_get (pc' := 12) (v := .ref (44)) rfl rfl v2_h1 rfl ?_
  refine wn_virI (pc' := 15) rfl rfl (by decide) rfl rfl y0_h1 (Nat.le_of_ble_eq_true rfl) (x_asBits _ _ ls w hWf V_h1) ?_
  refine wn_st (pc' := 16) (q := 2) (kin := 0) (lv' := [(0, .ref (0)), (1, .int (nI (y))), (2, .int (hrW w))]) rfl (fun _ _ _ => rfl) rfl (Nat.le_of_ble_eq_true rfl) rfl ?_
  refine wn_ic (pc' := 17) (w := nI 0) rfl rfl (by decide) ?_
  refine wn_st (pc' := 18) (q := 3) (kin := 0) (lv' := [(0, .ref (0)), (1, .int (nI (y))), (2, .int (hrW w)), (3, .int (nI (0)))]) rfl (fun _ _ _ => rfl) rfl (Nat.le_of_ble_eq_true rfl) rfl ?_
  refine wn_ic (pc' := 19) (w := nI 0) rfl rfl (by decide) ?_
  refine wn_st (pc' := 21) (q := 4) (kin := 0) (lv' := [(0, .ref (0)), (1, .int (nI (y))), (2, .int (hrW w)), (3, .int (nI (0))), (4, .int (nI (0)))]) rfl (fun _ _ _ => rfl) rfl (Nat.le_of_ble_eq_true rfl) rfl ?_
  have lp3 : ∀ (n_lp3 : Nat) (v : Nat), (nvW w) + 1 ≤ v + n_lp3 → v ≤ nvW w → Wn (Rn (d + 4)) 101 21 [(0, .ref (0)), (1, .int (nI (y))), (2, .int (hrW w)), (3, .int (bitP (fun x7 => fiW w y x7 = hrW w) v)), (4, .int (nI (v)))] [] (h1) (fun r9 h9 => r9 = some (.int (whW w y)) ∧ Fr [60] h h9 ∧ ∃ f1, isI h9 60 24 f1) := by
    intro n_lp3
    induction n_lp3 with
    | zero => intro v hm_lp3 hk_v; exfalso; omega
    | succ n_lp3 ih_lp3 =>
      intro v hm_lp3 hk_v
      refine wn_ld (pc' := 23) (q := 4) (kin := 0) (v := .int (nI (v))) rfl (fun _ _ _ => rfl) rfl rfl ?_
      refine wn_ld (pc' := 24) (q := 0) (kin := 2) (v := .ref (0)) rfl (fun _ _ _ => rfl) rfl rfl ?_
      refine wn_get (pc' := 27) (v := .ref (23)) rfl rfl v1_h1 rfl ?_
      refine wn_get (pc' := 30) (v := .ref (ls)) rfl rfl v2_h1 rfl ?_
      refine wn_get (pc' := 33) (v := .int (nI (nvW w))) rfl rfl l0_h1 rfl ?_
      refine wn_icmpN (t := 60) (f := 36) rfl rfl rfl (by omega) (by omega) (fun c4 => ?_) (fun c4 => ?_)
      · have c4 : (nvW w) ≤ v := c4
        obtain rfl : v = nvW w := by omega
        refine wn_ld (pc' := 61) (q := 3) (kin := 0) (v := .int (bitP (fun x7 => fiW w y x7 = hrW w) (nvW w))) rfl (fun _ _ _ => rfl) rfl rfl ?_
        exact wn_iret rfl rfl rfl ⟨congrArg (fun z => some (Value.int z)) (bitP_c (fun k _ => fi_hr hWf y k)), f_h1, _, i_h1⟩
      · have c4 : v < (nvW w) := c4
        refine wn_ld (pc' := 37) (q := 0) (kin := 2) (v := .ref (0)) rfl (fun _ _ _ => rfl) rfl rfl ?_
        refine wn_get (pc' := 40) (v := .ref (60)) rfl rfl v1_h1 rfl ?_
        refine wn_ld (pc' := 42) (q := 4) (kin := 0) (v := .int (nI (v))) rfl (fun _ _ _ => rfl) rfl rfl ?_
        refine wn_ialdv (pc' := 43) (j := v) (v := (fiW w y v)) rfl rfl i_h1 rfl (by omega) (by decide) (fv_h1 v (by omega)) ?_
        refine wn_ld (pc' := 44) (q := 2) (kin := 0) (v := .int (hrW w)) rfl (fun _ _ _ => rfl) rfl rfl ?_
        refine wn_icmp (t := 54) (f := 47) rfl rfl rfl (fun c5 => ?_) (fun c5 => ?_)
        · have c5 : ¬ ((fiW w y v)) = ((hrW w)) := c5
          refine wn_incN (n := 1) (pc' := 57) (lv' := [(0, .ref (0)), (1, .int (nI (y))), (2, .int (hrW w)), (3, .int (bitP (fun x7 => fiW w y x7 = hrW w) v)), (4, .int (nI (v + 1)))]) rfl rfl rfl (Nat.le_of_ble_eq_true rfl) rfl (by decide) ?_
          refine wn_jp (pc' := 21) rfl rfl ?_
          refine wn_weak (lv' := [(0, .ref (0)), (1, .int (nI (y))), (2, .int (hrW w)), (3, .int (bitP (fun x7 => fiW w y x7 = hrW w) v)), (4, .int (nI (v + 1)))]) (by simp) ?_
          have z9 := ih_lp3 (v + 1) (by omega) (by omega)
          rw [show (bitP (fun x7 => fiW w y x7 = hrW w) (v + 1)) = (bitP (fun x7 => fiW w y x7 = hrW w) v) from (by exact bitP_f (p := fun x7 => fiW w y x7 = hrW w) c5)] at z9
          exact z9
        · have c5 : ((fiW w y v)) = ((hrW w)) := c5
          refine wn_ld (pc' := 48) (q := 3) (kin := 0) (v := .int (bitP (fun x7 => fiW w y x7 = hrW w) v)) rfl (fun _ _ _ => rfl) rfl rfl ?_
          refine wn_ic (pc' := 49) (w := nI 1) rfl rfl (by decide) ?_
          refine wn_ld (pc' := 51) (q := 4) (kin := 0) (v := .int (nI (v))) rfl (fun _ _ _ => rfl) rfl rfl ?_
          refine wn_pu (pc' := 52) (st' := [.int ((nI (1)) <<< ((nI (v)) &&& 31)), .int (bitP (fun x7 => fiW w y x7 = hrW w) v)]) rfl (fun _ _ _ => rfl) rfl rfl ?_
          refine wn_pu (pc' := 53) (st' := [.int ((bitP (fun x7 => fiW w y x7 = hrW w) v) ||| ((nI (1)) <<< ((nI (v)) &&& 31)))]) rfl (fun _ _ _ => rfl) rfl rfl ?_
          refine wn_st (pc' := 54) (q := 3) (kin := 0) (lv' := [(0, .ref (0)), (1, .int (nI (y))), (2, .int (hrW w)), (3, .int ((bitP (fun x7 => fiW w y x7 = hrW w) v) ||| ((nI (1)) <<< ((nI (v)) &&& 31)))), (4, .int (nI (v)))]) rfl (fun _ _ _ => rfl) rfl (Nat.le_of_ble_eq_true rfl) rfl ?_
          refine wn_incN (n := 1) (pc' := 57) (lv' := [(0, .ref (0)), (1, .int (nI (y))), (2, .int (hrW w)), (3, .int ((bitP (fun x7 => fiW w y x7 = hrW w) v) ||| ((nI (1)) <<< ((nI (v)) &&& 31)))), (4, .int (nI (v + 1)))]) rfl rfl rfl (Nat.le_of_ble_eq_true rfl) rfl (by decide) ?_
          refine wn_jp (pc' := 21) rfl rfl ?_
          refine wn_weak (lv' := [(0, .ref (0)), (1, .int (nI (y))), (2, .int (hrW w)), (3, .int ((bitP (fun x7 => fiW w y x7 = hrW w) v) ||| ((nI (1)) <<< ((nI (v)) &&& 31)))), (4, .int (nI (v + 1)))]) (by simp) ?_
          have z9 := ih_lp3 (v + 1) (by omega) (by omega)
          rw [show (bitP (fun x7 => fiW w y x7 = hrW w) (v + 1)) = ((bitP (fun x7 => fiW w y x7 = hrW w) v) ||| ((nI (1)) <<< ((nI (v)) &&& 31))) from (by exact bitP_t (p := fun x7 => fiW w y x7 = hrW w) c5)] at z9
          exact z9
  refine wn_weak (lv' := [(0, .ref (0)), (1, .int (nI (y))), (2, .int (hrW w)), (3, .int (nI (0))), (4, .int (nI (0)))]) (by simp) ?_
  have z9 := lp3 ((nvW w) + 1) 0 (by omega) (by omega)
  rw [show (bitP (fun x7 => fiW w y x7 = hrW w) 0) = (nI (0)) from (by rfl)] at z9
  exact z9

theorem x_whole (d : Nat) (h : aH) (ls : Nat) (w : Nat → Int32) (hWf : WfW w) (V : XV h ls w) (R0 : RX h h ls w) (y : Int32) : Sp (Rn (d + 7)) 100 [.ref (0), .int (y)] h (fun r9 h9 => r9 = some (.int (wholeA w y)) ∧ RX h h9 ls w) := by
  obtain ⟨⟨e1, e2⟩, ⟨e3, e4⟩, ⟨e5, e6⟩⟩ := Wf_n hWf
  obtain ⟨⟨e7, e8⟩, ⟨e9, e10⟩⟩ := Wf_m hWf
  obtain ⟨v0, ⟨x9, v1⟩, ⟨v2, ⟨sz, rf, rt, rv, ag, vr, sd, tl, l0, l1, l2, l3, l4, l5, l6, l7, l8, g1, g2, g3, g4, g5⟩, ⟨sec, it, fi, se, sg, lst, rs, rp, pj, pk, pv, k0, k1, k2, k3, k4, k5, k6, k7, k8, k9, k10, k11, k12, k13⟩, ⟨hv, hc, y0, y1, y2, y3, y4⟩, ⟨an, wk, n0, n1, n2, n3, n4⟩⟩, v3⟩ := id V
  rw [e1, e3, e5] at l0
  rw [e7, e9] at k1
  refine Sp_of (by decide) (Nat.le_of_ble_eq_true rfl) ?_
  show Wn _ _ 0 [(0, .ref (0)), (1, .int (y))] [] _ _
  refine wn_ld (pc' := 1) (q := 0) (kin := 2) (v := .ref (0)) rfl (fun _ _ _ => rfl) rfl rfl ?_
  refine wn_ld (pc' := 2) (q := 1) (kin := 0) (v := .int (y)) rfl (fun _ _ _ => rfl) rfl rfl ?_
  refine wn_virS (pc' := 5) rfl rfl (by decide) rfl rfl v1 (Nat.le_of_ble_eq_true rfl) (x_reachesYear _ _ ls w hWf V R0.2.2.1 y) (fun r9 h1 e2 => ?_)
  obtain ⟨rfl, R_h1, Ra_h1⟩ := e2
  have RY_h1 := RY.tr (RY.rfl' R0.2.2.1) R_h1
  have V_h1 := RY_h1.xv V
  obtain ⟨v0_h1, ⟨x9_h1, v1_h1⟩, ⟨v2_h1, ⟨sz_h1, rf_h1, rt_h1, rv_h1, ag_h1, vr_h1, sd_h1, tl_h1, l0_h1, l1_h1, l2_h1, l3_h1, l4_h1, l5_h1, l6_h1, l7_h1, l8_h1, g1_h1, g2_h1, g3_h1, g4_h1, g5_h1⟩, ⟨sec_h1, it_h1, fi_h1, se_h1, sg_h1, lst_h1, rs_h1, rp_h1, pj_h1, pk_h1, pv_h1, k0_h1, k1_h1, k2_h1, k3_h1, k4_h1, k5_h1, k6_h1, k7_h1, k8_h1, k9_h1, k10_h1, k11_h1, k12_h1, k13_h1⟩, ⟨hv_h1, hc_h1, y0_h1, y1_h1, y2_h1, y3_h1, y4_h1⟩, ⟨an_h1, wk_h1, n0_h1, n1_h1, n2_h1, n3_h1, n4_h1⟩⟩, v3_h1⟩ := id V_h1
  rw [e1, e3, e5] at l0_h1
  rw [e7, e9] at k1_h1
  show Wn _ _ 5 _ [.int (bI (iin y 61))] h1 _
  refine wn_ifneB (t := 11) (f := 8) rfl rfl rfl (fun c3 => ?_) (fun c3 => ?_)
  · have c3 : (iin y 61) := c3
    obtain ⟨y9, hy9, rfl⟩ := iin_of c3
    have ti_y := nI_toInt (n := y9) (show y9 < 2 ^ 31 by omega)
    have cl_y := nI_clamp (n := y9) (show y9 < 2 ^ 31 by omega)
    have Rd_h1 : ∀ i, i < ntW w → Rch h1 w i y9 := by have q := Ra_h1 c3; rw [cl_y] at q; exact q
    refine wn_ld (pc' := 12) (q := 0) (kin := 2) (v := .ref (0)) rfl (fun _ _ _ => rfl) rfl rfl ?_
    refine wn_ld (pc' := 13) (q := 1) (kin := 0) (v := .int (nI (y9))) rfl (fun _ _ _ => rfl) rfl rfl ?_
    refine wn_virS (pc' := 16) rfl rfl (by decide) rfl rfl v1_h1 (Nat.le_of_ble_eq_true rfl) (x_wholeVillages _ _ ls w hWf V_h1 _ (ScrX.i60 (RY.rx RY_h1 R0.2.2.2).2.2.2).choose_spec y9 (by omega) Rd_h1) (fun r9 h4 e5 => ?_)
    obtain ⟨rfl, f_h4, b_h4, i_h4⟩ := e5
    have RX_h4 := RX.s60 (RY.rx RY_h1 R0.2.2.2) f_h4 i_h4
    have V_h4 := RX_h4.xv V
    obtain ⟨v0_h4, ⟨x9_h4, v1_h4⟩, ⟨v2_h4, ⟨sz_h4, rf_h4, rt_h4, rv_h4, ag_h4, vr_h4, sd_h4, tl_h4, l0_h4, l1_h4, l2_h4, l3_h4, l4_h4, l5_h4, l6_h4, l7_h4, l8_h4, g1_h4, g2_h4, g3_h4, g4_h4, g5_h4⟩, ⟨sec_h4, it_h4, fi_h4, se_h4, sg_h4, lst_h4, rs_h4, rp_h4, pj_h4, pk_h4, pv_h4, k0_h4, k1_h4, k2_h4, k3_h4, k4_h4, k5_h4, k6_h4, k7_h4, k8_h4, k9_h4, k10_h4, k11_h4, k12_h4, k13_h4⟩, ⟨hv_h4, hc_h4, y0_h4, y1_h4, y2_h4, y3_h4, y4_h4⟩, ⟨an_h4, wk_h4, n0_h4, n1_h4, n2_h4, n3_h4, n4_h4⟩⟩, v3_h4⟩ := id V_h4
    rw [e1, e3, e5] at l0_h4
    rw [e7, e9] at k1_h4
    have Rb_h4 : ∀ i, i < ntW w → Rch h4 w i y9 := fun i q => Rch.fr (Rd_h1 i q) f_h4 (by decide)
    show Wn _ _ 16 _ [.int (whW w y9)] h4 _
    try simp only [Int32.lt_iff_toInt_lt, Int32.le_iff_toInt_le, i2l_int, Int32.toInt_zero, iin] at c3
    refine wn_iret rfl rfl rfl ⟨congrArg (fun z => some (Value.int z)) ?_, RX_h4⟩
    unfold wholeA
    rw [qI_t (by simp only [iin]; omega)]
    first | rfl | (simp only [cl_y]; done) | (simp only [cl_y]; rfl)
  · have c3 : ¬ (iin y 61) := c3
    refine wn_bp (pc' := 10) (w := -2) rfl rfl (by decide) ?_
    try simp only [Int32.lt_iff_toInt_lt, Int32.le_iff_toInt_le, i2l_int, Int32.toInt_zero, iin] at c3
    refine wn_iret rfl rfl rfl ⟨congrArg (fun z => some (Value.int z)) ?_, (RY.rx RY_h1 R0.2.2.2)⟩
    unfold wholeA
    rw [qI_f (by simp only [iin]; omega)]

theorem case_22 (y : Int32) : CaseI Rp 100 213 [.int y] := case_q (fun h ls w hWf V R => ⟨_, x_whole 693 h ls w hWf V R y, fun h1 HQ => m_whole 688 h1 w hWf HQ y⟩)
theorem x_from (d : Nat) (h : aH) (ls : Nat) (w : Nat → Int32) (hWf : WfW w) (V : XV h ls w) (R0 : RX h h ls w) (y : Int32) : Sp (Rn (d + 7)) 102 [.ref (0), .int (y)] h (fun r9 h9 => r9 = some (.int (fromA w y)) ∧ RX h h9 ls w) := by
  obtain ⟨⟨e1, e2⟩, ⟨e3, e4⟩, ⟨e5, e6⟩⟩ := Wf_n hWf
  obtain ⟨⟨e7, e8⟩, ⟨e9, e10⟩⟩ := Wf_m hWf
  obtain ⟨v0, ⟨x9, v1⟩, ⟨v2, ⟨sz, rf, rt, rv, ag, vr, sd, tl, l0, l1, l2, l3, l4, l5, l6, l7, l8, g1, g2, g3, g4, g5⟩, ⟨sec, it, fi, se, sg, lst, rs, rp, pj, pk, pv, k0, k1, k2, k3, k4, k5, k6, k7, k8, k9, k10, k11, k12, k13⟩, ⟨hv, hc, y0, y1, y2, y3, y4⟩, ⟨an, wk, n0, n1, n2, n3, n4⟩⟩, v3⟩ := id V
  rw [e1, e3, e5] at l0
  rw [e7, e9] at k1
  refine Sp_of (by decide) (Nat.le_of_ble_eq_true rfl) ?_
  show Wn _ _ 0 [(0, .ref (0)), (1, .int (y))] [] _ _
  refine wn_ld (pc' := 1) (q := 0) (kin := 2) (v := .ref (0)) rfl (fun _ _ _ => rfl) rfl rfl ?_
  refine wn_ld (pc' := 2) (q := 1) (kin := 0) (v := .int (y)) rfl (fun _ _ _ => rfl) rfl rfl ?_
  refine wn_virS (pc' := 5) rfl rfl (by decide) rfl rfl v1 (Nat.le_of_ble_eq_true rfl) (x_reachesYear _ _ ls w hWf V R0.2.2.1 y) (fun r9 h1 e2 => ?_)
  obtain ⟨rfl, R_h1, Ra_h1⟩ := e2
  have RY_h1 := RY.tr (RY.rfl' R0.2.2.1) R_h1
  have V_h1 := RY_h1.xv V
  obtain ⟨v0_h1, ⟨x9_h1, v1_h1⟩, ⟨v2_h1, ⟨sz_h1, rf_h1, rt_h1, rv_h1, ag_h1, vr_h1, sd_h1, tl_h1, l0_h1, l1_h1, l2_h1, l3_h1, l4_h1, l5_h1, l6_h1, l7_h1, l8_h1, g1_h1, g2_h1, g3_h1, g4_h1, g5_h1⟩, ⟨sec_h1, it_h1, fi_h1, se_h1, sg_h1, lst_h1, rs_h1, rp_h1, pj_h1, pk_h1, pv_h1, k0_h1, k1_h1, k2_h1, k3_h1, k4_h1, k5_h1, k6_h1, k7_h1, k8_h1, k9_h1, k10_h1, k11_h1, k12_h1, k13_h1⟩, ⟨hv_h1, hc_h1, y0_h1, y1_h1, y2_h1, y3_h1, y4_h1⟩, ⟨an_h1, wk_h1, n0_h1, n1_h1, n2_h1, n3_h1, n4_h1⟩⟩, v3_h1⟩ := id V_h1
  rw [e1, e3, e5] at l0_h1
  rw [e7, e9] at k1_h1
  show Wn _ _ 5 _ [.int (bI (iin y 61))] h1 _
  refine wn_ifneB (t := 11) (f := 8) rfl rfl rfl (fun c3 => ?_) (fun c3 => ?_)
  · have c3 : (iin y 61) := c3
    obtain ⟨y9, hy9, rfl⟩ := iin_of c3
    have ti_y := nI_toInt (n := y9) (show y9 < 2 ^ 31 by omega)
    have cl_y := nI_clamp (n := y9) (show y9 < 2 ^ 31 by omega)
    have Rd_h1 : ∀ i, i < ntW w → Rch h1 w i y9 := by have q := Ra_h1 c3; rw [cl_y] at q; exact q
    refine wn_ld (pc' := 12) (q := 0) (kin := 2) (v := .ref (0)) rfl (fun _ _ _ => rfl) rfl rfl ?_
    refine wn_ld (pc' := 13) (q := 1) (kin := 0) (v := .int (nI (y9))) rfl (fun _ _ _ => rfl) rfl rfl ?_
    refine wn_virS (pc' := 16) rfl rfl (by decide) rfl rfl v1_h1 (Nat.le_of_ble_eq_true rfl) (x_fillFitting _ _ ls w hWf V_h1 _ (ScrX.i60 (RY.rx RY_h1 R0.2.2.2).2.2.2).choose_spec y9 (by omega) Rd_h1) (fun r9 h4 e5 => ?_)
    obtain ⟨rfl, f_h4, b_h4, i_h4, fv_h4⟩ := e5
    have RX_h4 := RX.s60 (RY.rx RY_h1 R0.2.2.2) f_h4 i_h4
    have V_h4 := RX_h4.xv V
    obtain ⟨v0_h4, ⟨x9_h4, v1_h4⟩, ⟨v2_h4, ⟨sz_h4, rf_h4, rt_h4, rv_h4, ag_h4, vr_h4, sd_h4, tl_h4, l0_h4, l1_h4, l2_h4, l3_h4, l4_h4, l5_h4, l6_h4, l7_h4, l8_h4, g1_h4, g2_h4, g3_h4, g4_h4, g5_h4⟩, ⟨sec_h4, it_h4, fi_h4, se_h4, sg_h4, lst_h4, rs_h4, rp_h4, pj_h4, pk_h4, pv_h4, k0_h4, k1_h4, k2_h4, k3_h4, k4_h4, k5_h4, k6_h4, k7_h4, k8_h4, k9_h4, k10_h4, k11_h4, k12_h4, k13_h4⟩, ⟨hv_h4, hc_h4, y0_h4, y1_h4, y2_h4, y3_h4, y4_h4⟩, ⟨an_h4, wk_h4, n0_h4, n1_h4, n2_h4, n3_h4, n4_h4⟩⟩, v3_h4⟩ := id V_h4
    rw [e1, e3, e5] at l0_h4
    rw [e7, e9] at k1_h4
    have Rb_h4 : ∀ i, i < ntW w → Rch h4 w i y9 := fun i q => Rch.fr (Rd_h1 i q) f_h4 (by decide)
    show Wn _ _ 16 _ [] h4 _
    refine wn_ic (pc' := 17) (w := -1) rfl rfl (by decide) ?_
    refine wn_st (pc' := 18) (q := 2) (kin := 0) (lv' := [(0, .ref (0)), (1, .int (nI (y9))), (2, .int (-1))]) rfl (fun _ _ _ => rfl) rfl (Nat.le_of_ble_eq_true rfl) rfl ?_
    refine wn_ic (pc' := 19) (w := nI 0) rfl rfl (by decide) ?_
    refine wn_st (pc' := 20) (q := 3) (kin := 0) (lv' := [(0, .ref (0)), (1, .int (nI (y9))), (2, .int (-1)), (3, .int (nI (0)))]) rfl (fun _ _ _ => rfl) rfl (Nat.le_of_ble_eq_true rfl) rfl ?_
    have lp6 : ∀ (n_lp6 : Nat) (k : Nat), (nvW w) + 1 ≤ k + n_lp6 → k ≤ nvW w → Wn (Rn (d + 6)) 102 20 [(0, .ref (0)), (1, .int (nI (y9))), (2, .int (oI (amx (ftN w y9) k))), (3, .int (nI (k)))] [] (h4) (fun r9 h9 => r9 = some (.int (fromA w (nI y9))) ∧ RX h h9 ls w) := by
      intro n_lp6
      induction n_lp6 with
      | zero => intro k hm_lp6 hk; exfalso; omega
      | succ n_lp6 ih_lp6 =>
        intro k hm_lp6 hk
        refine wn_ld (pc' := 21) (q := 3) (kin := 0) (v := .int (nI (k))) rfl (fun _ _ _ => rfl) rfl rfl ?_
        refine wn_ld (pc' := 22) (q := 0) (kin := 2) (v := .ref (0)) rfl (fun _ _ _ => rfl) rfl rfl ?_
        refine wn_get (pc' := 25) (v := .ref (23)) rfl rfl v1_h4 rfl ?_
        refine wn_get (pc' := 28) (v := .ref (ls)) rfl rfl v2_h4 rfl ?_
        refine wn_get (pc' := 31) (v := .int (nI (nvW w))) rfl rfl l0_h4 rfl ?_
        refine wn_icmpN (t := 68) (f := 34) rfl rfl rfl (by omega) (by omega) (fun c7 => ?_) (fun c7 => ?_)
        · have c7 : (nvW w) ≤ k := c7
          obtain rfl : k = nvW w := by omega
          refine wn_ld (pc' := 69) (q := 2) (kin := 0) (v := .int (oI (amx (ftN w y9) (nvW w)))) rfl (fun _ _ _ => rfl) rfl rfl ?_
          try simp only [Int32.lt_iff_toInt_lt, Int32.le_iff_toInt_le, i2l_int, Int32.toInt_zero, iin] at c3
          refine wn_iret rfl rfl rfl ⟨congrArg (fun z => some (Value.int z)) ?_, RX_h4⟩
          unfold fromA
          rw [qI_t (by simp only [iin]; omega)]
          first | rfl | (simp only [cl_y]; done) | (simp only [cl_y]; rfl)
        · have c7 : k < (nvW w) := c7
          cases ho9 : amx (ftN w y9) k with
          | none =>
            show Wn _ _ 34 [(0, .ref (0)), (1, .int (nI (y9))), (2, .int (-1)), (3, .int (nI (k)))] _ _ _
            refine wn_ld (pc' := 35) (q := 2) (kin := 0) (v := .int (-1)) rfl (fun _ _ _ => rfl) rfl rfl ?_
            refine wn_ic (pc' := 36) (w := -1) rfl rfl (by decide) ?_
            refine wn_icmp (t := 60) (f := 39) rfl rfl rfl (fun c8 => ?_) (fun c8 => ?_)
            · have c8 : ((-1) : Int32) = ((-1)) := c8
              refine wn_ld (pc' := 61) (q := 3) (kin := 0) (v := .int (nI (k))) rfl (fun _ _ _ => rfl) rfl rfl ?_
              refine wn_st (pc' := 62) (q := 2) (kin := 0) (lv' := [(0, .ref (0)), (1, .int (nI (y9))), (2, .int (nI (k))), (3, .int (nI (k)))]) rfl (fun _ _ _ => rfl) rfl (Nat.le_of_ble_eq_true rfl) rfl ?_
              refine wn_incN (n := 1) (pc' := 65) (lv' := [(0, .ref (0)), (1, .int (nI (y9))), (2, .int (nI (k))), (3, .int (nI (k + 1)))]) rfl rfl rfl (Nat.le_of_ble_eq_true rfl) rfl (by decide) ?_
              refine wn_jp (pc' := 20) rfl rfl ?_
              refine wn_weak (lv' := [(0, .ref (0)), (1, .int (nI (y9))), (2, .int (nI (k))), (3, .int (nI (k + 1)))]) (by simp) ?_
              have z9 := ih_lp6 (k + 1) (by omega) (by omega)
              rw [show (oI (amx (ftN w y9) (k + 1))) = (nI (k)) from (by exact congrArg oI (amx_n ho9))] at z9
              exact z9
            · have c8 : ¬ ((-1) : Int32) = ((-1)) := c8
              exact absurd rfl c8
          | some b =>
            have hb9 := amx_lt ho9
            show Wn _ _ 34 [(0, .ref (0)), (1, .int (nI (y9))), (2, .int (nI (b))), (3, .int (nI (k)))] _ _ _
            refine wn_ld (pc' := 35) (q := 2) (kin := 0) (v := .int (nI (b))) rfl (fun _ _ _ => rfl) rfl rfl ?_
            refine wn_ic (pc' := 36) (w := -1) rfl rfl (by decide) ?_
            refine wn_icmp (t := 60) (f := 39) rfl rfl rfl (fun c9 => ?_) (fun c9 => ?_)
            · have c9 : ((nI (b))) = ((-1)) := c9
              exact absurd c9 (nI_m1 (by omega))
            · have c9 : ¬ ((nI (b))) = ((-1)) := c9
              refine wn_ld (pc' := 40) (q := 0) (kin := 2) (v := .ref (0)) rfl (fun _ _ _ => rfl) rfl rfl ?_
              refine wn_get (pc' := 43) (v := .ref (60)) rfl rfl v1_h4 rfl ?_
              refine wn_ld (pc' := 44) (q := 3) (kin := 0) (v := .int (nI (k))) rfl (fun _ _ _ => rfl) rfl rfl ?_
              refine wn_ialdv (pc' := 45) (j := k) (v := (fiW w y9 k)) rfl rfl i_h4 rfl (by omega) (by decide) (fv_h4 k (by omega)) ?_
              refine wn_staI (pc' := 48) rfl rfl (by decide) rfl rfl (Nat.le_of_ble_eq_true rfl) (x_bitCount _ _ _) ?_
              rw [fi_cnt hWf]
              have := ftN_le hWf y9 k
              refine wn_ld (pc' := 49) (q := 0) (kin := 2) (v := .ref (0)) rfl (fun _ _ _ => rfl) rfl rfl ?_
              refine wn_get (pc' := 52) (v := .ref (60)) rfl rfl v1_h4 rfl ?_
              refine wn_ld (pc' := 53) (q := 2) (kin := 0) (v := .int (nI (b))) rfl (fun _ _ _ => rfl) rfl rfl ?_
              refine wn_ialdv (pc' := 54) (j := b) (v := (fiW w y9 b)) rfl rfl i_h4 rfl (by omega) (by decide) (fv_h4 b (by omega)) ?_
              refine wn_staI (pc' := 57) rfl rfl (by decide) rfl rfl (Nat.le_of_ble_eq_true rfl) (x_bitCount _ _ _) ?_
              rw [fi_cnt hWf]
              have := ftN_le hWf y9 b
              refine wn_icmpN (t := 62) (f := 60) rfl rfl rfl (by omega) (by omega) (fun c10 => ?_) (fun c10 => ?_)
              · have c10 : (ftN w y9 k) ≤ (ftN w y9 b) := c10
                refine wn_incN (n := 1) (pc' := 65) (lv' := [(0, .ref (0)), (1, .int (nI (y9))), (2, .int (nI (b))), (3, .int (nI (k + 1)))]) rfl rfl rfl (Nat.le_of_ble_eq_true rfl) rfl (by decide) ?_
                refine wn_jp (pc' := 20) rfl rfl ?_
                refine wn_weak (lv' := [(0, .ref (0)), (1, .int (nI (y9))), (2, .int (nI (b))), (3, .int (nI (k + 1)))]) (by simp) ?_
                have z9 := ih_lp6 (k + 1) (by omega) (by omega)
                rw [show (oI (amx (ftN w y9) (k + 1))) = (nI (b)) from (by exact congrArg oI (amx_f ho9 (by omega)))] at z9
                exact z9
              · have c10 : (ftN w y9 b) < (ftN w y9 k) := c10
                refine wn_ld (pc' := 61) (q := 3) (kin := 0) (v := .int (nI (k))) rfl (fun _ _ _ => rfl) rfl rfl ?_
                refine wn_st (pc' := 62) (q := 2) (kin := 0) (lv' := [(0, .ref (0)), (1, .int (nI (y9))), (2, .int (nI (k))), (3, .int (nI (k)))]) rfl (fun _ _ _ => rfl) rfl (Nat.le_of_ble_eq_true rfl) rfl ?_
                refine wn_incN (n := 1) (pc' := 65) (lv' := [(0, .ref (0)), (1, .int (nI (y9))), (2, .int (nI (k))), (3, .int (nI (k + 1)))]) rfl rfl rfl (Nat.le_of_ble_eq_true rfl) rfl (by decide) ?_
                refine wn_jp (pc' := 20) rfl rfl ?_
                refine wn_weak (lv' := [(0, .ref (0)), (1, .int (nI (y9))), (2, .int (nI (k))), (3, .int (nI (k + 1)))]) (by simp) ?_
                have z9 := ih_lp6 (k + 1) (by omega) (by omega)
                rw [show (oI (amx (ftN w y9) (k + 1))) = (nI (k)) from (by exact congrArg oI (amx_t ho9 (by omega)))] at z9
                exact z9
    refine wn_weak (lv' := [(0, .ref (0)), (1, .int (nI (y9))), (2, .int (-1)), (3, .int (nI (0)))]) (by simp) ?_
    have z9 := lp6 ((nvW w) + 1) 0 (by omega) (by omega)
    rw [show (oI (amx (ftN w y9) 0)) = (-1) from (by rfl)] at z9
    exact z9
  · have c3 : ¬ (iin y 61) := c3
    refine wn_bp (pc' := 10) (w := -2) rfl rfl (by decide) ?_
    try simp only [Int32.lt_iff_toInt_lt, Int32.le_iff_toInt_le, i2l_int, Int32.toInt_zero, iin] at c3
    refine wn_iret rfl rfl rfl ⟨congrArg (fun z => some (Value.int z)) ?_, (RY.rx RY_h1 R0.2.2.2)⟩
    unfold fromA
    rw [qI_f (by simp only [iin]; omega)]

theorem case_23 (y : Int32) : CaseI Rp 102 214 [.int y] := case_q (fun h ls w hWf V R => ⟨_, x_from 693 h ls w hWf V R y, fun h1 HQ => m_from 689 h1 w hWf HQ y⟩)
noncomputable def cpV (w : Nat → Int32) (y : Nat) (s : Int32) (i v a : Nat) : Nat := cntP (fun x => bt s x = true ∧ sdW w y x i = a) v
theorem cpV_le (w : Nat → Int32) (y : Nat) (s : Int32) (i v a : Nat) : cpV w y s i v a ≤ v := cntP_le _ _
theorem cpV_n {w : Nat → Int32} {y : Nat} {s : Int32} {i v : Nat} (h : ¬ bt s v = true) : cpV w y s i (v + 1) = cpV w y s i v := funext (fun a => cntP_f (p := fun x => bt s x = true ∧ sdW w y x i = a) (fun q => h q.1))
theorem cpV_t {w : Nat → Int32} {y : Nat} {s : Int32} {i v : Nat} (h : bt s v = true) : cpV w y s i (v + 1) (sdW w y v i) = cpV w y s i v (sdW w y v i) + 1 := cntP_t (p := fun x => bt s x = true ∧ sdW w y x i = sdW w y v i) ⟨h, rfl⟩
theorem cpV_f {w : Nat → Int32} {y : Nat} {s : Int32} {i v a : Nat} (h : a ≠ sdW w y v i) : cpV w y s i (v + 1) a = cpV w y s i v a := cntP_f (p := fun x => bt s x = true ∧ sdW w y x i = a) (fun q => h q.2.symm)
theorem cpV_m {w : Nat → Int32} {y : Nat} {s : Int32} {i v : Nat} (h : bt s v = true) (h5 : sdW w y v i < 5) : mxP (cpV w y s i (v + 1)) 5 = max (mxP (cpV w y s i v) 5) (cpV w y s i v (sdW w y v i) + 1) := by
  rw [mxP_u (f := cpV w y s i v) (g := cpV w y s i (v + 1)) (b := sdW w y v i) (fun a q => cpV_f q) (by rw [cpV_t h]; omega) 5, if_pos h5, cpV_t h]
theorem x_clearTally (d : Nat) (h : aH) (ls : Nat) (w : Nat → Int32) (hWf : WfW w) (V : XV h ls w) (ta : Nat → Int32) (b0 : isI h 61 5 ta) : Sp (Rn (d + 1)) 105 [.ref (0)] h (fun r9 h9 => r9 = none ∧ Fr [61] h h9 ∧ ∃ t1, isI h9 61 5 t1 ∧ ∀ a, a < 5 → t1 a = nI 0) := by
  obtain ⟨⟨e1, e2⟩, ⟨e3, e4⟩, ⟨e5, e6⟩⟩ := Wf_n hWf
  obtain ⟨⟨e7, e8⟩, ⟨e9, e10⟩⟩ := Wf_m hWf
  obtain ⟨v0, ⟨x9, v1⟩, ⟨v2, ⟨sz, rf, rt, rv, ag, vr, sd, tl, l0, l1, l2, l3, l4, l5, l6, l7, l8, g1, g2, g3, g4, g5⟩, ⟨sec, it, fi, se, sg, lst, rs, rp, pj, pk, pv, k0, k1, k2, k3, k4, k5, k6, k7, k8, k9, k10, k11, k12, k13⟩, ⟨hv, hc, y0, y1, y2, y3, y4⟩, ⟨an, wk, n0, n1, n2, n3, n4⟩⟩, v3⟩ := id V
  rw [e1, e3, e5] at l0
  rw [e7, e9] at k1
  refine Sp_of (by decide) (Nat.le_of_ble_eq_true rfl) ?_
  show Wn _ _ 0 [(0, .ref (0))] [] _ _
  refine wn_ic (pc' := 1) (w := nI 0) rfl rfl (by decide) ?_
  refine wn_st (pc' := 2) (q := 1) (kin := 0) (lv' := [(0, .ref (0)), (1, .int (nI (0)))]) rfl (fun _ _ _ => rfl) rfl (Nat.le_of_ble_eq_true rfl) rfl ?_
  have lp2 : ∀ (n_lp2 : Nat) (g1 : aH) (t1 : Nat → Int32) (a : Nat), 5 + 1 ≤ a + n_lp2 → Fr [61] h g1 → isI g1 61 5 t1 → a ≤ 5 → (∀ q, q < a → t1 q = nI 0) → Wn (Rn (d + 0)) 105 2 [(0, .ref (0)), (1, .int (nI (a)))] [] (g1) (fun r9 h9 => r9 = none ∧ Fr [61] h h9 ∧ ∃ t1, isI h9 61 5 t1 ∧ ∀ a, a < 5 → t1 a = nI 0) := by
    intro n_lp2
    induction n_lp2 with
    | zero => intro g1 t1 a hm_lp2 hf_g1 c_61_g1 ha hB; exfalso; omega
    | succ n_lp2 ih_lp2 =>
      intro g1 t1 a hm_lp2 hf_g1 c_61_g1 ha hB
      have V_g1 : XV g1 ls w := XV.frl V hf_g1 (by decide)
      refine wn_ld (pc' := 3) (q := 1) (kin := 0) (v := .int (nI (a))) rfl (fun _ _ _ => rfl) rfl rfl ?_
      refine wn_ic (pc' := 4) (w := nI 5) rfl rfl (by decide) ?_
      refine wn_icmpN (t := 20) (f := 7) rfl rfl rfl (by omega) (by omega) (fun c3 => ?_) (fun c3 => ?_)
      · have c3 : 5 ≤ a := c3
        exact wn_vret rfl rfl ⟨rfl, hf_g1, _, c_61_g1, fun a q => hB a (by omega)⟩
      · have c3 : a < 5 := c3
        refine wn_ld (pc' := 8) (q := 0) (kin := 2) (v := .ref (0)) rfl (fun _ _ _ => rfl) rfl rfl ?_
        refine wn_get (pc' := 11) (v := .ref (61)) rfl rfl ((hf_g1.2 0 (by decide)).trans v1) rfl ?_
        refine wn_ld (pc' := 12) (q := 1) (kin := 0) (v := .int (nI (a))) rfl (fun _ _ _ => rfl) rfl rfl ?_
        refine wn_ic (pc' := 13) (w := nI 0) rfl rfl (by decide) ?_
        refine wn_iast (pc' := 14) (j := a) rfl rfl c_61_g1 rfl (by omega) (by decide) ?_
        refine wn_incN (n := 1) (pc' := 17) (lv' := [(0, .ref (0)), (1, .int (nI (a + 1)))]) rfl rfl rfl (Nat.le_of_ble_eq_true rfl) rfl (by decide) ?_
        refine wn_jp (pc' := 2) rfl rfl ?_
        refine wn_weak (lv' := [(0, .ref (0)), (1, .int (nI (a + 1)))]) (by simp) ?_
        have z9 := ih_lp2 (g1.set 61 (.inl (0, 5, .inl (upd t1 (a) ((nI (0))))))) (upd t1 (a) ((nI (0)))) (a + 1) (by omega) (Fr.st hf_g1 (by decide)) (gs_self c_61_g1) (by omega) (fun q hq => by by_cases e : q = a; (subst e; exact pk_us); (rw [pk_un (by omega)]; exact hB q (by omega)))
        exact z9
  refine wn_weak (lv' := [(0, .ref (0)), (1, .int (nI (0)))]) (by simp) ?_
  have z9 := lp2 (5 + 1) h ta 0 (by omega) (Fr.rfl' [61] h) b0 (by omega) (fun _ q => absurd q (by omega))
  exact z9

theorem x_greatestCamp (d : Nat) (h : aH) (ls : Nat) (w : Nat → Int32) (hWf : WfW w) (V : XV h ls w) (ta : Nat → Int32) (b0 : isI h 61 5 ta) (i y : Nat) (s0 : Int32) (hi : i < ntW w) (hy : y ≤ 60) (Rc : Rch h w i y) : Sp (Rn (d + 3)) 104 [.ref (0), .int (nI (i)), .int (nI (y)), .int (s0)] h (fun r9 h9 => r9 = some (.int (nI (mxP (cpN w y s0 i) 5))) ∧ Fr [61] h h9 ∧ ∃ t1, isI h9 61 5 t1) := by
  obtain ⟨⟨e1, e2⟩, ⟨e3, e4⟩, ⟨e5, e6⟩⟩ := Wf_n hWf
  obtain ⟨⟨e7, e8⟩, ⟨e9, e10⟩⟩ := Wf_m hWf
  obtain ⟨v0, ⟨x9, v1⟩, ⟨v2, ⟨sz, rf, rt, rv, ag, vr, sd, tl, l0, l1, l2, l3, l4, l5, l6, l7, l8, g1, g2, g3, g4, g5⟩, ⟨sec, it, fi, se, sg, lst, rs, rp, pj, pk, pv, k0, k1, k2, k3, k4, k5, k6, k7, k8, k9, k10, k11, k12, k13⟩, ⟨hv, hc, y0, y1, y2, y3, y4⟩, ⟨an, wk, n0, n1, n2, n3, n4⟩⟩, v3⟩ := id V
  rw [e1, e3, e5] at l0
  rw [e7, e9] at k1
  refine Sp_of (by decide) (Nat.le_of_ble_eq_true rfl) ?_
  show Wn _ _ 0 [(0, .ref (0)), (1, .int (nI (i))), (2, .int (nI (y))), (3, .int (s0))] [] _ _
  refine wn_ld (pc' := 1) (q := 0) (kin := 2) (v := .ref (0)) rfl (fun _ _ _ => rfl) rfl rfl ?_
  refine wn_virS (pc' := 4) rfl rfl (by decide) rfl rfl v1 (Nat.le_of_ble_eq_true rfl) (x_clearTally _ _ ls w hWf V _ b0) (fun r9 h1 e2 => ?_)
  obtain ⟨rfl, f_h1, t_h1, i_h1, tz_h1⟩ := e2
  have V_h1 := XV.frl V f_h1 (by decide)
  obtain ⟨v0_h1, ⟨x9_h1, v1_h1⟩, ⟨v2_h1, ⟨sz_h1, rf_h1, rt_h1, rv_h1, ag_h1, vr_h1, sd_h1, tl_h1, l0_h1, l1_h1, l2_h1, l3_h1, l4_h1, l5_h1, l6_h1, l7_h1, l8_h1, g1_h1, g2_h1, g3_h1, g4_h1, g5_h1⟩, ⟨sec_h1, it_h1, fi_h1, se_h1, sg_h1, lst_h1, rs_h1, rp_h1, pj_h1, pk_h1, pv_h1, k0_h1, k1_h1, k2_h1, k3_h1, k4_h1, k5_h1, k6_h1, k7_h1, k8_h1, k9_h1, k10_h1, k11_h1, k12_h1, k13_h1⟩, ⟨hv_h1, hc_h1, y0_h1, y1_h1, y2_h1, y3_h1, y4_h1⟩, ⟨an_h1, wk_h1, n0_h1, n1_h1, n2_h1, n3_h1, n4_h1⟩⟩, v3_h1⟩ := id V_h1
  rw [e1, e3, e5] at l0_h1
  rw [e7, e9] at k1_h1
  show Wn _ _ 4 _ [] h1 _
  refine wn_ic (pc' := 5) (w := nI 0) rfl rfl (by decide) ?_
  refine wn_st (pc' := 7) (q := 4) (kin := 0) (lv' := [(0, .ref (0)), (1, .int (nI (i))), (2, .int (nI (y))), (3, .int (s0)), (4, .int (nI (0)))]) rfl (fun _ _ _ => rfl) rfl (Nat.le_of_ble_eq_true rfl) rfl ?_
  refine wn_ic (pc' := 8) (w := nI 0) rfl rfl (by decide) ?_
  refine wn_st (pc' := 10) (q := 5) (kin := 0) (lv' := [(0, .ref (0)), (1, .int (nI (i))), (2, .int (nI (y))), (3, .int (s0)), (4, .int (nI (0))), (5, .int (nI (0)))]) rfl (fun _ _ _ => rfl) rfl (Nat.le_of_ble_eq_true rfl) rfl ?_
  have lp4 : ∀ (n_lp4 : Nat) (g3 : aH) (t1 : Nat → Int32) (v : Nat), (nvW w) + 1 ≤ v + n_lp4 → Fr [61] h g3 → isI g3 61 5 t1 → v ≤ nvW w → (∀ a, a < 5 → t1 a = nI (cpV w y s0 i v a)) → Wn (Rn (d + 2)) 104 10 [(0, .ref (0)), (1, .int (nI (i))), (2, .int (nI (y))), (3, .int (s0)), (4, .int (nI (mxP (cpV w y s0 i v) 5))), (5, .int (nI (v)))] [] (g3) (fun r9 h9 => r9 = some (.int (nI (mxP (cpN w y s0 i) 5))) ∧ Fr [61] h h9 ∧ ∃ t1, isI h9 61 5 t1) := by
    intro n_lp4
    induction n_lp4 with
    | zero => intro g3 t1 v hm_lp4 hf_g3 c_61_g3 hv_ hT; exfalso; omega
    | succ n_lp4 ih_lp4 =>
      intro g3 t1 v hm_lp4 hf_g3 c_61_g3 hv_ hT
      have V_g3 : XV g3 ls w := XV.frl V hf_g3 (by decide)
      have Rc_g3 : Rch g3 w i y := Rch.fr Rc hf_g3 (by decide)
      have := mxP_le (f := cpV w y s0 i v) 5 (fun k _ => cpV_le w y s0 i v k)
      refine wn_ld (pc' := 12) (q := 5) (kin := 0) (v := .int (nI (v))) rfl (fun _ _ _ => rfl) rfl rfl ?_
      refine wn_ld (pc' := 13) (q := 0) (kin := 2) (v := .ref (0)) rfl (fun _ _ _ => rfl) rfl rfl ?_
      refine wn_get (pc' := 16) (v := .ref (23)) rfl rfl ((hf_g3.2 0 (by decide)).trans v1) rfl ?_
      refine wn_get (pc' := 19) (v := .ref (ls)) rfl rfl ((hf_g3.2 23 (by decide)).trans v2) rfl ?_
      refine wn_get (pc' := 22) (v := .int (nI (nvW w))) rfl rfl ((hf_g3.2 ls (by simp only [List.mem_cons, List.not_mem_nil, or_false]; omega)).trans l0) rfl ?_
      refine wn_icmpN (t := 78) (f := 25) rfl rfl rfl (by omega) (by omega) (fun c5 => ?_) (fun c5 => ?_)
      · have c5 : (nvW w) ≤ v := c5
        obtain rfl : v = nvW w := by omega
        refine wn_ld (pc' := 80) (q := 4) (kin := 0) (v := .int (nI (mxP (cpV w y s0 i (nvW w)) 5))) rfl (fun _ _ _ => rfl) rfl rfl ?_
        exact wn_iret rfl rfl rfl ⟨rfl, hf_g3, _, c_61_g3⟩
      · have c5 : v < (nvW w) := c5
        refine wn_ld (pc' := 26) (q := 3) (kin := 0) (v := .int (s0)) rfl (fun _ _ _ => rfl) rfl rfl ?_
        refine wn_ld (pc' := 28) (q := 5) (kin := 0) (v := .int (nI (v))) rfl (fun _ _ _ => rfl) rfl rfl ?_
        refine wn_pu (pc' := 29) (st' := [.int ((s0) >>> ((nI (v)) &&& 31))]) rfl (fun _ _ _ => rfl) rfl rfl ?_
        refine wn_ic (pc' := 30) (w := nI 1) rfl rfl (by decide) ?_
        refine wn_pu (pc' := 31) (st' := [.int (((s0) >>> ((nI (v)) &&& 31)) &&& (nI (1)))]) rfl (fun _ _ _ => rfl) rfl rfl ?_
        rw [tst_b (show v < 31 by omega)]
        refine wn_ifeqB (t := 72) (f := 34) rfl rfl rfl (fun c6 => ?_) (fun c6 => ?_)
        · have c6 : ¬ (bt s0 v = true) := c6
          refine wn_incN (n := 1) (pc' := 75) (lv' := [(0, .ref (0)), (1, .int (nI (i))), (2, .int (nI (y))), (3, .int (s0)), (4, .int (nI (mxP (cpV w y s0 i v) 5))), (5, .int (nI (v + 1)))]) rfl rfl rfl (Nat.le_of_ble_eq_true rfl) rfl (by decide) ?_
          refine wn_jp (pc' := 10) rfl rfl ?_
          refine wn_weak (lv' := [(0, .ref (0)), (1, .int (nI (i))), (2, .int (nI (y))), (3, .int (s0)), (4, .int (nI (mxP (cpV w y s0 i v) 5))), (5, .int (nI (v + 1)))]) (by simp) ?_
          have z9 := ih_lp4 g3 t1 (v + 1) (by omega) hf_g3 c_61_g3 (by omega) (fun a q => by rw [cpV_n c6]; exact hT a q)
          rw [show (nI (mxP (cpV w y s0 i (v + 1)) 5)) = (nI (mxP (cpV w y s0 i v) 5)) from (by rw [cpV_n c6])] at z9
          exact z9
        · have c6 : (bt s0 v = true) := c6
          refine wn_ld (pc' := 35) (q := 0) (kin := 2) (v := .ref (0)) rfl (fun _ _ _ => rfl) rfl rfl ?_
          refine wn_get (pc' := 38) (v := .ref (52)) rfl rfl ((hf_g3.2 0 (by decide)).trans v1) rfl ?_
          refine wn_ld (pc' := 39) (q := 1) (kin := 0) (v := .int (nI (i))) rfl (fun _ _ _ => rfl) rfl rfl ?_
          refine wn_ld (pc' := 40) (q := 2) (kin := 0) (v := .int (nI (y))) rfl (fun _ _ _ => rfl) rfl rfl ?_
          refine wn_ld (pc' := 42) (q := 5) (kin := 0) (v := .int (nI (v))) rfl (fun _ _ _ => rfl) rfl rfl ?_
          have := sdW_5 hWf (y := y) (show v < nvW w by omega) (show i < ntW w by omega)
          refine wn_virI (pc' := 45) rfl rfl (by decide) rfl rfl ((hf_g3.2 52 (by decide)).trans v3) (Nat.le_of_ble_eq_true rfl) (x_variantAt _ _ ls w hWf V_g3 i y v (by omega) (by omega) (by omega) Rc_g3) ?_
          refine wn_st (pc' := 47) (q := 6) (kin := 0) (lv' := [(0, .ref (0)), (1, .int (nI (i))), (2, .int (nI (y))), (3, .int (s0)), (4, .int (nI (mxP (cpV w y s0 i v) 5))), (5, .int (nI (v))), (6, .int (nI (sdW w y v i)))]) rfl (fun _ _ _ => rfl) rfl (Nat.le_of_ble_eq_true rfl) rfl ?_
          refine wn_ld (pc' := 48) (q := 0) (kin := 2) (v := .ref (0)) rfl (fun _ _ _ => rfl) rfl rfl ?_
          refine wn_get (pc' := 51) (v := .ref (61)) rfl rfl ((hf_g3.2 0 (by decide)).trans v1) rfl ?_
          refine wn_ld (pc' := 53) (q := 6) (kin := 0) (v := .int (nI (sdW w y v i))) rfl (fun _ _ _ => rfl) rfl rfl ?_
          refine wn_pu (pc' := 54) (st' := [.int (nI (sdW w y v i)), .ref (61), .int (nI (sdW w y v i)), .ref (61)]) rfl (fun _ _ _ => rfl) rfl rfl ?_
          have := cpV_le w y s0 i v (sdW w y v i)
          refine wn_ialdv (pc' := 55) (j := sdW w y v i) (v := (nI (cpV w y s0 i v (sdW w y v i)))) rfl rfl c_61_g3 rfl (by omega) (by decide) (hT (sdW w y v i) (by omega)) ?_
          refine wn_ic (pc' := 56) (w := nI 1) rfl rfl (by decide) ?_
          refine wn_addN (pc' := 57) rfl rfl ?_
          refine wn_iast (pc' := 58) (j := sdW w y v i) rfl rfl c_61_g3 rfl (by omega) (by decide) ?_
          refine wn_ld (pc' := 60) (q := 4) (kin := 0) (v := .int (nI (mxP (cpV w y s0 i v) 5))) rfl (fun _ _ _ => rfl) rfl rfl ?_
          refine wn_ld (pc' := 61) (q := 0) (kin := 2) (v := .ref (0)) rfl (fun _ _ _ => rfl) rfl rfl ?_
          refine wn_get (pc' := 64) (v := .ref (61)) rfl rfl (gs_ne (by decide) ((hf_g3.2 0 (by decide)).trans v1)) rfl ?_
          refine wn_ld (pc' := 66) (q := 6) (kin := 0) (v := .int (nI (sdW w y v i))) rfl (fun _ _ _ => rfl) rfl rfl ?_
          refine wn_ialdv (pc' := 67) (j := sdW w y v i) (v := (nI ((cpV w y s0 i v (sdW w y v i)) + 1))) rfl rfl (gs_self c_61_g3) rfl (by omega) (by decide) (pk_us) ?_
          refine wn_maxN (pc' := 70) rfl rfl (Nat.le_of_ble_eq_true rfl) (by omega) (by omega) ?_
          refine wn_st (pc' := 72) (q := 4) (kin := 0) (lv' := [(0, .ref (0)), (1, .int (nI (i))), (2, .int (nI (y))), (3, .int (s0)), (4, .int (nI (max (mxP (cpV w y s0 i v) 5) ((cpV w y s0 i v (sdW w y v i)) + 1)))), (5, .int (nI (v))), (6, .int (nI (sdW w y v i)))]) rfl (fun _ _ _ => rfl) rfl (Nat.le_of_ble_eq_true rfl) rfl ?_
          refine wn_incN (n := 1) (pc' := 75) (lv' := [(0, .ref (0)), (1, .int (nI (i))), (2, .int (nI (y))), (3, .int (s0)), (4, .int (nI (max (mxP (cpV w y s0 i v) 5) ((cpV w y s0 i v (sdW w y v i)) + 1)))), (5, .int (nI (v + 1))), (6, .int (nI (sdW w y v i)))]) rfl rfl rfl (Nat.le_of_ble_eq_true rfl) rfl (by decide) ?_
          refine wn_jp (pc' := 10) rfl rfl ?_
          refine wn_weak (lv' := [(0, .ref (0)), (1, .int (nI (i))), (2, .int (nI (y))), (3, .int (s0)), (4, .int (nI (max (mxP (cpV w y s0 i v) 5) ((cpV w y s0 i v (sdW w y v i)) + 1)))), (5, .int (nI (v + 1)))]) (by simp) ?_
          have z9 := ih_lp4 (g3.set 61 (.inl (0, 5, .inl (upd t1 (sdW w y v i) ((nI ((cpV w y s0 i v (sdW w y v i)) + 1))))))) (upd t1 (sdW w y v i) ((nI ((cpV w y s0 i v (sdW w y v i)) + 1)))) (v + 1) (by omega) (Fr.st hf_g3 (by decide)) (gs_self c_61_g3) (by omega) (fun a q => by by_cases e : a = sdW w y v i; (rw [e, pk_us, cpV_t c6]); (rw [pk_un e, cpV_f e]; exact hT a q))
          rw [show (nI (mxP (cpV w y s0 i (v + 1)) 5)) = (nI (max (mxP (cpV w y s0 i v) 5) ((cpV w y s0 i v (sdW w y v i)) + 1))) from (by exact congrArg nI (cpV_m c6 (by omega)))] at z9
          exact z9
  refine wn_weak (lv' := [(0, .ref (0)), (1, .int (nI (i))), (2, .int (nI (y))), (3, .int (s0)), (4, .int (nI (0))), (5, .int (nI (0)))]) (by simp) ?_
  have z9 := lp4 ((nvW w) + 1) h1 t_h1 0 (by omega) f_h1 i_h1 (by omega) tz_h1
  rw [show (nI (mxP (cpV w y s0 i 0) 5)) = (nI (0)) from (by rfl)] at z9
  exact z9

theorem x_next (d : Nat) (h : aH) (ls : Nat) (w : Nat → Int32) (hWf : WfW w) (V : XV h ls w) (R0 : RX h h ls w) (y : Int32) : Sp (Rn (d + 7)) 103 [.ref (0), .int (y)] h (fun r9 h9 => r9 = some (.int (nextA w y)) ∧ RX h h9 ls w) := by
  obtain ⟨⟨e1, e2⟩, ⟨e3, e4⟩, ⟨e5, e6⟩⟩ := Wf_n hWf
  obtain ⟨⟨e7, e8⟩, ⟨e9, e10⟩⟩ := Wf_m hWf
  obtain ⟨v0, ⟨x9, v1⟩, ⟨v2, ⟨sz, rf, rt, rv, ag, vr, sd, tl, l0, l1, l2, l3, l4, l5, l6, l7, l8, g1, g2, g3, g4, g5⟩, ⟨sec, it, fi, se, sg, lst, rs, rp, pj, pk, pv, k0, k1, k2, k3, k4, k5, k6, k7, k8, k9, k10, k11, k12, k13⟩, ⟨hv, hc, y0, y1, y2, y3, y4⟩, ⟨an, wk, n0, n1, n2, n3, n4⟩⟩, v3⟩ := id V
  rw [e1, e3, e5] at l0
  rw [e7, e9] at k1
  refine Sp_of (by decide) (Nat.le_of_ble_eq_true rfl) ?_
  show Wn _ _ 0 [(0, .ref (0)), (1, .int (y))] [] _ _
  refine wn_ld (pc' := 1) (q := 0) (kin := 2) (v := .ref (0)) rfl (fun _ _ _ => rfl) rfl rfl ?_
  refine wn_ld (pc' := 2) (q := 1) (kin := 0) (v := .int (y)) rfl (fun _ _ _ => rfl) rfl rfl ?_
  refine wn_virS (pc' := 5) rfl rfl (by decide) rfl rfl v1 (Nat.le_of_ble_eq_true rfl) (x_reachesYear _ _ ls w hWf V R0.2.2.1 y) (fun r9 h1 e2 => ?_)
  obtain ⟨rfl, R_h1, Ra_h1⟩ := e2
  have RY_h1 := RY.tr (RY.rfl' R0.2.2.1) R_h1
  have V_h1 := RY_h1.xv V
  obtain ⟨v0_h1, ⟨x9_h1, v1_h1⟩, ⟨v2_h1, ⟨sz_h1, rf_h1, rt_h1, rv_h1, ag_h1, vr_h1, sd_h1, tl_h1, l0_h1, l1_h1, l2_h1, l3_h1, l4_h1, l5_h1, l6_h1, l7_h1, l8_h1, g1_h1, g2_h1, g3_h1, g4_h1, g5_h1⟩, ⟨sec_h1, it_h1, fi_h1, se_h1, sg_h1, lst_h1, rs_h1, rp_h1, pj_h1, pk_h1, pv_h1, k0_h1, k1_h1, k2_h1, k3_h1, k4_h1, k5_h1, k6_h1, k7_h1, k8_h1, k9_h1, k10_h1, k11_h1, k12_h1, k13_h1⟩, ⟨hv_h1, hc_h1, y0_h1, y1_h1, y2_h1, y3_h1, y4_h1⟩, ⟨an_h1, wk_h1, n0_h1, n1_h1, n2_h1, n3_h1, n4_h1⟩⟩, v3_h1⟩ := id V_h1
  rw [e1, e3, e5] at l0_h1
  rw [e7, e9] at k1_h1
  show Wn _ _ 5 _ [.int (bI (iin y 61))] h1 _
  refine wn_ifneB (t := 11) (f := 8) rfl rfl rfl (fun c3 => ?_) (fun c3 => ?_)
  · have c3 : (iin y 61) := c3
    obtain ⟨y9, hy9, rfl⟩ := iin_of c3
    have ti_y := nI_toInt (n := y9) (show y9 < 2 ^ 31 by omega)
    have cl_y := nI_clamp (n := y9) (show y9 < 2 ^ 31 by omega)
    have Rd_h1 : ∀ i, i < ntW w → Rch h1 w i y9 := by have q := Ra_h1 c3; rw [cl_y] at q; exact q
    refine wn_ld (pc' := 12) (q := 0) (kin := 2) (v := .ref (0)) rfl (fun _ _ _ => rfl) rfl rfl ?_
    refine wn_ld (pc' := 13) (q := 1) (kin := 0) (v := .int (nI (y9))) rfl (fun _ _ _ => rfl) rfl rfl ?_
    refine wn_virS (pc' := 16) rfl rfl (by decide) rfl rfl v1_h1 (Nat.le_of_ble_eq_true rfl) (x_wholeVillages _ _ ls w hWf V_h1 _ (ScrX.i60 (RY.rx RY_h1 R0.2.2.2).2.2.2).choose_spec y9 (by omega) Rd_h1) (fun r9 h4 e5 => ?_)
    obtain ⟨rfl, f_h4, b_h4, i_h4⟩ := e5
    have RX_h4 := RX.s60 (RY.rx RY_h1 R0.2.2.2) f_h4 i_h4
    have V_h4 := RX_h4.xv V
    obtain ⟨v0_h4, ⟨x9_h4, v1_h4⟩, ⟨v2_h4, ⟨sz_h4, rf_h4, rt_h4, rv_h4, ag_h4, vr_h4, sd_h4, tl_h4, l0_h4, l1_h4, l2_h4, l3_h4, l4_h4, l5_h4, l6_h4, l7_h4, l8_h4, g1_h4, g2_h4, g3_h4, g4_h4, g5_h4⟩, ⟨sec_h4, it_h4, fi_h4, se_h4, sg_h4, lst_h4, rs_h4, rp_h4, pj_h4, pk_h4, pv_h4, k0_h4, k1_h4, k2_h4, k3_h4, k4_h4, k5_h4, k6_h4, k7_h4, k8_h4, k9_h4, k10_h4, k11_h4, k12_h4, k13_h4⟩, ⟨hv_h4, hc_h4, y0_h4, y1_h4, y2_h4, y3_h4, y4_h4⟩, ⟨an_h4, wk_h4, n0_h4, n1_h4, n2_h4, n3_h4, n4_h4⟩⟩, v3_h4⟩ := id V_h4
    rw [e1, e3, e5] at l0_h4
    rw [e7, e9] at k1_h4
    have Rb_h4 : ∀ i, i < ntW w → Rch h4 w i y9 := fun i q => Rch.fr (Rd_h1 i q) f_h4 (by decide)
    show Wn _ _ 16 _ [.int (whW w y9)] h4 _
    refine wn_st (pc' := 17) (q := 2) (kin := 0) (lv' := [(0, .ref (0)), (1, .int (nI (y9))), (2, .int (whW w y9))]) rfl (fun _ _ _ => rfl) rfl (Nat.le_of_ble_eq_true rfl) rfl ?_
    refine wn_ic (pc' := 18) (w := -1) rfl rfl (by decide) ?_
    refine wn_st (pc' := 19) (q := 3) (kin := 0) (lv' := [(0, .ref (0)), (1, .int (nI (y9))), (2, .int (whW w y9)), (3, .int (-1))]) rfl (fun _ _ _ => rfl) rfl (Nat.le_of_ble_eq_true rfl) rfl ?_
    refine wn_ld (pc' := 20) (q := 2) (kin := 0) (v := .int (whW w y9)) rfl (fun _ _ _ => rfl) rfl rfl ?_
    refine wn_staI (pc' := 23) rfl rfl (by decide) rfl rfl (Nat.le_of_ble_eq_true rfl) (x_bitCount _ _ _) ?_
    rw [wh_cnt hWf]
    have := cntP_le (fun k => bt (whW w y9) k = true) 24
    refine wn_st (pc' := 25) (q := 4) (kin := 0) (lv' := [(0, .ref (0)), (1, .int (nI (y9))), (2, .int (whW w y9)), (3, .int (-1)), (4, .int (nI (cntP (fun k => bt (whW w y9) k = true) 24)))]) rfl (fun _ _ _ => rfl) rfl (Nat.le_of_ble_eq_true rfl) rfl ?_
    refine wn_ic (pc' := 26) (w := nI 0) rfl rfl (by decide) ?_
    refine wn_st (pc' := 28) (q := 5) (kin := 0) (lv' := [(0, .ref (0)), (1, .int (nI (y9))), (2, .int (whW w y9)), (3, .int (-1)), (4, .int (nI (cntP (fun k => bt (whW w y9) k = true) 24))), (5, .int (nI (0)))]) rfl (fun _ _ _ => rfl) rfl (Nat.le_of_ble_eq_true rfl) rfl ?_
    have lp7 : ∀ (n_lp7 : Nat) (g6 : aH) (i : Nat), (ntW w) + 1 ≤ i + n_lp7 → RX h g6 ls w → (∀ i, i < ntW w → Rch g6 w i y9) → i ≤ ntW w → Wn (Rn (d + 6)) 103 28 [(0, .ref (0)), (1, .int (nI (y9))), (2, .int (whW w y9)), (3, .int ((nxS w y9 (whW w y9) i).1)), (4, .int (nI ((nxS w y9 (whW w y9) i).2))), (5, .int (nI (i)))] [] (g6) (fun r9 h9 => r9 = some (.int (nextA w (nI y9))) ∧ RX h h9 ls w) := by
      intro n_lp7
      induction n_lp7 with
      | zero => intro g6 i hm_lp7 RX_g6 Ra_g6 hi_; exfalso; omega
      | succ n_lp7 ih_lp7 =>
        intro g6 i hm_lp7 RX_g6 Ra_g6 hi_
        have V_g6 := RX_g6.xv V
        obtain ⟨v0_g6, ⟨x9_g6, v1_g6⟩, ⟨v2_g6, ⟨sz_g6, rf_g6, rt_g6, rv_g6, ag_g6, vr_g6, sd_g6, tl_g6, l0_g6, l1_g6, l2_g6, l3_g6, l4_g6, l5_g6, l6_g6, l7_g6, l8_g6, g1_g6, g2_g6, g3_g6, g4_g6, g5_g6⟩, ⟨sec_g6, it_g6, fi_g6, se_g6, sg_g6, lst_g6, rs_g6, rp_g6, pj_g6, pk_g6, pv_g6, k0_g6, k1_g6, k2_g6, k3_g6, k4_g6, k5_g6, k6_g6, k7_g6, k8_g6, k9_g6, k10_g6, k11_g6, k12_g6, k13_g6⟩, ⟨hv_g6, hc_g6, y0_g6, y1_g6, y2_g6, y3_g6, y4_g6⟩, ⟨an_g6, wk_g6, n0_g6, n1_g6, n2_g6, n3_g6, n4_g6⟩⟩, v3_g6⟩ := id V_g6
        rw [e1, e3, e5] at l0_g6
        rw [e7, e9] at k1_g6
        have := nxS_le hWf y9 (whW w y9) i
        refine wn_ld (pc' := 30) (q := 5) (kin := 0) (v := .int (nI (i))) rfl (fun _ _ _ => rfl) rfl rfl ?_
        refine wn_ld (pc' := 31) (q := 0) (kin := 2) (v := .ref (0)) rfl (fun _ _ _ => rfl) rfl rfl ?_
        refine wn_get (pc' := 34) (v := .ref (23)) rfl rfl v1_g6 rfl ?_
        refine wn_get (pc' := 37) (v := .ref (ls)) rfl rfl v2_g6 rfl ?_
        refine wn_get (pc' := 40) (v := .int (nI (ntW w))) rfl rfl l0_g6 rfl ?_
        refine wn_icmpN (t := 90) (f := 43) rfl rfl rfl (by omega) (by omega) (fun c8 => ?_) (fun c8 => ?_)
        · have c8 : (ntW w) ≤ i := c8
          obtain rfl : i = ntW w := by omega
          refine wn_ld (pc' := 91) (q := 3) (kin := 0) (v := .int ((nxS w y9 (whW w y9) (ntW w)).1)) rfl (fun _ _ _ => rfl) rfl rfl ?_
          try simp only [Int32.lt_iff_toInt_lt, Int32.le_iff_toInt_le, i2l_int, Int32.toInt_zero, iin] at c3
          refine wn_iret rfl rfl rfl ⟨congrArg (fun z => some (Value.int z)) ?_, RX_g6⟩
          unfold nextA
          rw [qI_t (by simp only [iin]; omega)]
          first | rfl | (simp only [cl_y]; done) | (simp only [cl_y]; rfl)
        · have c8 : i < (ntW w) := c8
          refine wn_ld (pc' := 44) (q := 0) (kin := 2) (v := .ref (0)) rfl (fun _ _ _ => rfl) rfl rfl ?_
          refine wn_get (pc' := 47) (v := .ref (23)) rfl rfl v1_g6 rfl ?_
          refine wn_get (pc' := 50) (v := .ref (44)) rfl rfl v2_g6 rfl ?_
          refine wn_get (pc' := 53) (v := .ref (45)) rfl rfl y0_g6 rfl ?_
          refine wn_ld (pc' := 55) (q := 5) (kin := 0) (v := .int (nI (i))) rfl (fun _ _ _ => rfl) rfl rfl ?_
          refine wn_ialdv (pc' := 56) (j := i) (v := (w (178 + 4 * i))) rfl rfl y1_g6 rfl (by omega) (by decide) ((y3_g6 i (by omega)).1.trans (if_pos (by omega))) ?_
          refine wn_ic (pc' := 57) (w := -1) rfl rfl (by decide) ?_
          refine wn_icmp (t := 84) (f := 60) rfl rfl rfl (fun c9 => ?_) (fun c9 => ?_)
          · have c9 : ¬ ((w (178 + 4 * i))) = ((-1)) := c9
            refine wn_incN (n := 1) (pc' := 87) (lv' := [(0, .ref (0)), (1, .int (nI (y9))), (2, .int (whW w y9)), (3, .int ((nxS w y9 (whW w y9) i).1)), (4, .int (nI ((nxS w y9 (whW w y9) i).2))), (5, .int (nI (i + 1)))]) rfl rfl rfl (Nat.le_of_ble_eq_true rfl) rfl (by decide) ?_
            refine wn_jp (pc' := 28) rfl rfl ?_
            refine wn_weak (lv' := [(0, .ref (0)), (1, .int (nI (y9))), (2, .int (whW w y9)), (3, .int ((nxS w y9 (whW w y9) i).1)), (4, .int (nI ((nxS w y9 (whW w y9) i).2))), (5, .int (nI (i + 1)))]) (by simp) ?_
            have z9 := ih_lp7 g6 (i + 1) (by omega) RX_g6 Ra_g6 (by omega)
            rw [show ((nxS w y9 (whW w y9) (i + 1)).1) = ((nxS w y9 (whW w y9) i).1) from (by exact (congrArg Prod.fst (nxS_f (w := w) (y := y9) (s := whW w y9) (k := i) (fun q => c9 q.1))).trans rfl)] at z9
            rw [show (nI ((nxS w y9 (whW w y9) (i + 1)).2)) = (nI ((nxS w y9 (whW w y9) i).2)) from (by exact (congrArg (fun q => nI q.2) (nxS_f (w := w) (y := y9) (s := whW w y9) (k := i) (fun q => c9 q.1))).trans rfl)] at z9
            exact z9
          · have c9 : ((w (178 + 4 * i))) = ((-1)) := c9
            refine wn_ld (pc' := 61) (q := 0) (kin := 2) (v := .ref (0)) rfl (fun _ _ _ => rfl) rfl rfl ?_
            refine wn_ld (pc' := 63) (q := 5) (kin := 0) (v := .int (nI (i))) rfl (fun _ _ _ => rfl) rfl rfl ?_
            refine wn_ld (pc' := 64) (q := 1) (kin := 0) (v := .int (nI (y9))) rfl (fun _ _ _ => rfl) rfl rfl ?_
            refine wn_ld (pc' := 65) (q := 2) (kin := 0) (v := .int (whW w y9)) rfl (fun _ _ _ => rfl) rfl rfl ?_
            have := mxP_le (f := cpN w y9 (whW w y9) i) 5 (fun k _ => cpN_le hWf y9 (whW w y9) i k)
            refine wn_virS (pc' := 68) rfl rfl (by decide) rfl rfl v1_g6 (Nat.le_of_ble_eq_true rfl) (x_greatestCamp _ _ ls w hWf V_g6 _ (ScrX.i61 RX_g6.2.2.2).choose_spec i y9 (whW w y9) (by omega) (by omega) (Ra_g6 i (by omega))) (fun r9 h10 e11 => ?_)
            obtain ⟨rfl, f_h10, b_h10, i_h10⟩ := e11
            have RX_h10 := RX.s61 RX_g6 f_h10 i_h10
            have V_h10 := RX_h10.xv V
            obtain ⟨v0_h10, ⟨x9_h10, v1_h10⟩, ⟨v2_h10, ⟨sz_h10, rf_h10, rt_h10, rv_h10, ag_h10, vr_h10, sd_h10, tl_h10, l0_h10, l1_h10, l2_h10, l3_h10, l4_h10, l5_h10, l6_h10, l7_h10, l8_h10, g1_h10, g2_h10, g3_h10, g4_h10, g5_h10⟩, ⟨sec_h10, it_h10, fi_h10, se_h10, sg_h10, lst_h10, rs_h10, rp_h10, pj_h10, pk_h10, pv_h10, k0_h10, k1_h10, k2_h10, k3_h10, k4_h10, k5_h10, k6_h10, k7_h10, k8_h10, k9_h10, k10_h10, k11_h10, k12_h10, k13_h10⟩, ⟨hv_h10, hc_h10, y0_h10, y1_h10, y2_h10, y3_h10, y4_h10⟩, ⟨an_h10, wk_h10, n0_h10, n1_h10, n2_h10, n3_h10, n4_h10⟩⟩, v3_h10⟩ := id V_h10
            rw [e1, e3, e5] at l0_h10
            rw [e7, e9] at k1_h10
            have Rb_h10 : ∀ i, i < ntW w → Rch h10 w i y9 := fun i q => Rch.fr (Ra_g6 i q) f_h10 (by decide)
            show Wn _ _ 68 _ [.int (nI (mxP (cpN w y9 (whW w y9) i) 5))] h10 _
            refine wn_st (pc' := 70) (q := 6) (kin := 0) (lv' := [(0, .ref (0)), (1, .int (nI (y9))), (2, .int (whW w y9)), (3, .int ((nxS w y9 (whW w y9) i).1)), (4, .int (nI ((nxS w y9 (whW w y9) i).2))), (5, .int (nI (i))), (6, .int (nI (mxP (cpN w y9 (whW w y9) i) 5)))]) rfl (fun _ _ _ => rfl) rfl (Nat.le_of_ble_eq_true rfl) rfl ?_
            refine wn_ld (pc' := 72) (q := 6) (kin := 0) (v := .int (nI (mxP (cpN w y9 (whW w y9) i) 5))) rfl (fun _ _ _ => rfl) rfl rfl ?_
            refine wn_ld (pc' := 74) (q := 4) (kin := 0) (v := .int (nI ((nxS w y9 (whW w y9) i).2))) rfl (fun _ _ _ => rfl) rfl rfl ?_
            refine wn_icmpN (t := 84) (f := 77) rfl rfl rfl (by omega) (by omega) (fun c12 => ?_) (fun c12 => ?_)
            · have c12 : ((nxS w y9 (whW w y9) i).2) ≤ (mxP (cpN w y9 (whW w y9) i) 5) := c12
              refine wn_incN (n := 1) (pc' := 87) (lv' := [(0, .ref (0)), (1, .int (nI (y9))), (2, .int (whW w y9)), (3, .int ((nxS w y9 (whW w y9) i).1)), (4, .int (nI ((nxS w y9 (whW w y9) i).2))), (5, .int (nI (i + 1))), (6, .int (nI (mxP (cpN w y9 (whW w y9) i) 5)))]) rfl rfl rfl (Nat.le_of_ble_eq_true rfl) rfl (by decide) ?_
              refine wn_jp (pc' := 28) rfl rfl ?_
              refine wn_weak (lv' := [(0, .ref (0)), (1, .int (nI (y9))), (2, .int (whW w y9)), (3, .int ((nxS w y9 (whW w y9) i).1)), (4, .int (nI ((nxS w y9 (whW w y9) i).2))), (5, .int (nI (i + 1)))]) (by simp) ?_
              have z9 := ih_lp7 h10 (i + 1) (by omega) RX_h10 Rb_h10 (by omega)
              rw [show ((nxS w y9 (whW w y9) (i + 1)).1) = ((nxS w y9 (whW w y9) i).1) from (by exact (congrArg Prod.fst (nxS_f (w := w) (y := y9) (s := whW w y9) (k := i) (fun q => by have := q.2; omega))).trans rfl)] at z9
              rw [show (nI ((nxS w y9 (whW w y9) (i + 1)).2)) = (nI ((nxS w y9 (whW w y9) i).2)) from (by exact (congrArg (fun q => nI q.2) (nxS_f (w := w) (y := y9) (s := whW w y9) (k := i) (fun q => by have := q.2; omega))).trans rfl)] at z9
              exact z9
            · have c12 : (mxP (cpN w y9 (whW w y9) i) 5) < ((nxS w y9 (whW w y9) i).2) := c12
              refine wn_ld (pc' := 79) (q := 6) (kin := 0) (v := .int (nI (mxP (cpN w y9 (whW w y9) i) 5))) rfl (fun _ _ _ => rfl) rfl rfl ?_
              refine wn_st (pc' := 81) (q := 4) (kin := 0) (lv' := [(0, .ref (0)), (1, .int (nI (y9))), (2, .int (whW w y9)), (3, .int ((nxS w y9 (whW w y9) i).1)), (4, .int (nI (mxP (cpN w y9 (whW w y9) i) 5))), (5, .int (nI (i))), (6, .int (nI (mxP (cpN w y9 (whW w y9) i) 5)))]) rfl (fun _ _ _ => rfl) rfl (Nat.le_of_ble_eq_true rfl) rfl ?_
              refine wn_ld (pc' := 83) (q := 5) (kin := 0) (v := .int (nI (i))) rfl (fun _ _ _ => rfl) rfl rfl ?_
              refine wn_st (pc' := 84) (q := 3) (kin := 0) (lv' := [(0, .ref (0)), (1, .int (nI (y9))), (2, .int (whW w y9)), (3, .int (nI (i))), (4, .int (nI (mxP (cpN w y9 (whW w y9) i) 5))), (5, .int (nI (i))), (6, .int (nI (mxP (cpN w y9 (whW w y9) i) 5)))]) rfl (fun _ _ _ => rfl) rfl (Nat.le_of_ble_eq_true rfl) rfl ?_
              refine wn_incN (n := 1) (pc' := 87) (lv' := [(0, .ref (0)), (1, .int (nI (y9))), (2, .int (whW w y9)), (3, .int (nI (i))), (4, .int (nI (mxP (cpN w y9 (whW w y9) i) 5))), (5, .int (nI (i + 1))), (6, .int (nI (mxP (cpN w y9 (whW w y9) i) 5)))]) rfl rfl rfl (Nat.le_of_ble_eq_true rfl) rfl (by decide) ?_
              refine wn_jp (pc' := 28) rfl rfl ?_
              refine wn_weak (lv' := [(0, .ref (0)), (1, .int (nI (y9))), (2, .int (whW w y9)), (3, .int (nI (i))), (4, .int (nI (mxP (cpN w y9 (whW w y9) i) 5))), (5, .int (nI (i + 1)))]) (by simp) ?_
              have z9 := ih_lp7 h10 (i + 1) (by omega) RX_h10 Rb_h10 (by omega)
              rw [show ((nxS w y9 (whW w y9) (i + 1)).1) = (nI (i)) from (by exact (congrArg Prod.fst (nxS_t (w := w) (y := y9) (s := whW w y9) (k := i) ⟨c9, by omega⟩)).trans rfl)] at z9
              rw [show (nI ((nxS w y9 (whW w y9) (i + 1)).2)) = (nI (mxP (cpN w y9 (whW w y9) i) 5)) from (by exact (congrArg (fun q => nI q.2) (nxS_t (w := w) (y := y9) (s := whW w y9) (k := i) ⟨c9, by omega⟩)).trans rfl)] at z9
              exact z9
    refine wn_weak (lv' := [(0, .ref (0)), (1, .int (nI (y9))), (2, .int (whW w y9)), (3, .int (-1)), (4, .int (nI (cntP (fun k => bt (whW w y9) k = true) 24))), (5, .int (nI (0)))]) (by simp) ?_
    have z9 := lp7 ((ntW w) + 1) h4 0 (by omega) RX_h4 Rb_h4 (by omega)
    rw [show ((nxS w y9 (whW w y9) 0).1) = (-1) from (by rfl)] at z9
    rw [show (nI ((nxS w y9 (whW w y9) 0).2)) = (nI (cntP (fun k => bt (whW w y9) k = true) 24)) from (by rfl)] at z9
    exact z9
  · have c3 : ¬ (iin y 61) := c3
    refine wn_bp (pc' := 10) (w := -2) rfl rfl (by decide) ?_
    try simp only [Int32.lt_iff_toInt_lt, Int32.le_iff_toInt_le, i2l_int, Int32.toInt_zero, iin] at c3
    refine wn_iret rfl rfl rfl ⟨congrArg (fun z => some (Value.int z)) ?_, (RY.rx RY_h1 R0.2.2.2)⟩
    unfold nextA
    rw [qI_f (by simp only [iin]; omega)]

theorem case_24 (y : Int32) : CaseI Rp 103 215 [.int y] := case_q (fun h ls w hWf V R => ⟨_, x_next 693 h ls w hWf V R y, fun h1 HQ => m_next 688 h1 w hWf HQ y⟩)
theorem x_two (d : Nat) (h : aH) (ls : Nat) (w : Nat → Int32) (hWf : WfW w) (V : XV h ls w) (R0 : RX h h ls w) (y : Int32) : Sp (Rn (d + 7)) 106 [.ref (0), .int (y)] h (fun r9 h9 => r9 = some (.int (twoA w y)) ∧ RX h h9 ls w) := by
  obtain ⟨⟨e1, e2⟩, ⟨e3, e4⟩, ⟨e5, e6⟩⟩ := Wf_n hWf
  obtain ⟨⟨e7, e8⟩, ⟨e9, e10⟩⟩ := Wf_m hWf
  obtain ⟨v0, ⟨x9, v1⟩, ⟨v2, ⟨sz, rf, rt, rv, ag, vr, sd, tl, l0, l1, l2, l3, l4, l5, l6, l7, l8, g1, g2, g3, g4, g5⟩, ⟨sec, it, fi, se, sg, lst, rs, rp, pj, pk, pv, k0, k1, k2, k3, k4, k5, k6, k7, k8, k9, k10, k11, k12, k13⟩, ⟨hv, hc, y0, y1, y2, y3, y4⟩, ⟨an, wk, n0, n1, n2, n3, n4⟩⟩, v3⟩ := id V
  rw [e1, e3, e5] at l0
  rw [e7, e9] at k1
  refine Sp_of (by decide) (Nat.le_of_ble_eq_true rfl) ?_
  show Wn _ _ 0 [(0, .ref (0)), (1, .int (y))] [] _ _
  refine wn_ld (pc' := 1) (q := 0) (kin := 2) (v := .ref (0)) rfl (fun _ _ _ => rfl) rfl rfl ?_
  refine wn_ld (pc' := 2) (q := 1) (kin := 0) (v := .int (y)) rfl (fun _ _ _ => rfl) rfl rfl ?_
  refine wn_virS (pc' := 5) rfl rfl (by decide) rfl rfl v1 (Nat.le_of_ble_eq_true rfl) (x_reachesYear _ _ ls w hWf V R0.2.2.1 y) (fun r9 h1 e2 => ?_)
  obtain ⟨rfl, R_h1, Ra_h1⟩ := e2
  have RY_h1 := RY.tr (RY.rfl' R0.2.2.1) R_h1
  have V_h1 := RY_h1.xv V
  obtain ⟨v0_h1, ⟨x9_h1, v1_h1⟩, ⟨v2_h1, ⟨sz_h1, rf_h1, rt_h1, rv_h1, ag_h1, vr_h1, sd_h1, tl_h1, l0_h1, l1_h1, l2_h1, l3_h1, l4_h1, l5_h1, l6_h1, l7_h1, l8_h1, g1_h1, g2_h1, g3_h1, g4_h1, g5_h1⟩, ⟨sec_h1, it_h1, fi_h1, se_h1, sg_h1, lst_h1, rs_h1, rp_h1, pj_h1, pk_h1, pv_h1, k0_h1, k1_h1, k2_h1, k3_h1, k4_h1, k5_h1, k6_h1, k7_h1, k8_h1, k9_h1, k10_h1, k11_h1, k12_h1, k13_h1⟩, ⟨hv_h1, hc_h1, y0_h1, y1_h1, y2_h1, y3_h1, y4_h1⟩, ⟨an_h1, wk_h1, n0_h1, n1_h1, n2_h1, n3_h1, n4_h1⟩⟩, v3_h1⟩ := id V_h1
  rw [e1, e3, e5] at l0_h1
  rw [e7, e9] at k1_h1
  show Wn _ _ 5 _ [.int (bI (iin y 61))] h1 _
  refine wn_ifneB (t := 11) (f := 8) rfl rfl rfl (fun c3 => ?_) (fun c3 => ?_)
  · have c3 : (iin y 61) := c3
    obtain ⟨y9, hy9, rfl⟩ := iin_of c3
    have ti_y := nI_toInt (n := y9) (show y9 < 2 ^ 31 by omega)
    have cl_y := nI_clamp (n := y9) (show y9 < 2 ^ 31 by omega)
    have Rd_h1 : ∀ i, i < ntW w → Rch h1 w i y9 := by have q := Ra_h1 c3; rw [cl_y] at q; exact q
    refine wn_ld (pc' := 12) (q := 0) (kin := 2) (v := .ref (0)) rfl (fun _ _ _ => rfl) rfl rfl ?_
    refine wn_ld (pc' := 13) (q := 1) (kin := 0) (v := .int (nI (y9))) rfl (fun _ _ _ => rfl) rfl rfl ?_
    refine wn_virS (pc' := 16) rfl rfl (by decide) rfl rfl v1_h1 (Nat.le_of_ble_eq_true rfl) (x_fillFitting _ _ ls w hWf V_h1 _ (ScrX.i60 (RY.rx RY_h1 R0.2.2.2).2.2.2).choose_spec y9 (by omega) Rd_h1) (fun r9 h4 e5 => ?_)
    obtain ⟨rfl, f_h4, b_h4, i_h4, fv_h4⟩ := e5
    have RX_h4 := RX.s60 (RY.rx RY_h1 R0.2.2.2) f_h4 i_h4
    have V_h4 := RX_h4.xv V
    obtain ⟨v0_h4, ⟨x9_h4, v1_h4⟩, ⟨v2_h4, ⟨sz_h4, rf_h4, rt_h4, rv_h4, ag_h4, vr_h4, sd_h4, tl_h4, l0_h4, l1_h4, l2_h4, l3_h4, l4_h4, l5_h4, l6_h4, l7_h4, l8_h4, g1_h4, g2_h4, g3_h4, g4_h4, g5_h4⟩, ⟨sec_h4, it_h4, fi_h4, se_h4, sg_h4, lst_h4, rs_h4, rp_h4, pj_h4, pk_h4, pv_h4, k0_h4, k1_h4, k2_h4, k3_h4, k4_h4, k5_h4, k6_h4, k7_h4, k8_h4, k9_h4, k10_h4, k11_h4, k12_h4, k13_h4⟩, ⟨hv_h4, hc_h4, y0_h4, y1_h4, y2_h4, y3_h4, y4_h4⟩, ⟨an_h4, wk_h4, n0_h4, n1_h4, n2_h4, n3_h4, n4_h4⟩⟩, v3_h4⟩ := id V_h4
    rw [e1, e3, e5] at l0_h4
    rw [e7, e9] at k1_h4
    have Rb_h4 : ∀ i, i < ntW w → Rch h4 w i y9 := fun i q => Rch.fr (Rd_h1 i q) f_h4 (by decide)
    show Wn _ _ 16 _ [] h4 _
    refine wn_ic (pc' := 17) (w := -1) rfl rfl (by decide) ?_
    refine wn_st (pc' := 18) (q := 2) (kin := 0) (lv' := [(0, .ref (0)), (1, .int (nI (y9))), (2, .int (-1))]) rfl (fun _ _ _ => rfl) rfl (Nat.le_of_ble_eq_true rfl) rfl ?_
    refine wn_ic (pc' := 19) (w := -1) rfl rfl (by decide) ?_
    refine wn_st (pc' := 20) (q := 3) (kin := 0) (lv' := [(0, .ref (0)), (1, .int (nI (y9))), (2, .int (-1)), (3, .int (-1))]) rfl (fun _ _ _ => rfl) rfl (Nat.le_of_ble_eq_true rfl) rfl ?_
    refine wn_ic (pc' := 21) (w := nI 0) rfl rfl (by decide) ?_
    refine wn_st (pc' := 23) (q := 4) (kin := 0) (lv' := [(0, .ref (0)), (1, .int (nI (y9))), (2, .int (-1)), (3, .int (-1)), (4, .int (nI (0)))]) rfl (fun _ _ _ => rfl) rfl (Nat.le_of_ble_eq_true rfl) rfl ?_
    have lp6 : ∀ (n_lp6 : Nat) (v : Nat), (nvW w) + 1 ≤ v + n_lp6 → v ≤ nvW w → Wn (Rn (d + 6)) 106 23 [(0, .ref (0)), (1, .int (nI (y9))), (2, .int ((twO (twG w y9) (nvW w) v).1)), (3, .int (mI (twO (twG w y9) (nvW w) v).2)), (4, .int (nI (v)))] [] (h4) (fun r9 h9 => r9 = some (.int (twoA w (nI y9))) ∧ RX h h9 ls w) := by
      intro n_lp6
      induction n_lp6 with
      | zero => intro v hm_lp6 hv_; exfalso; omega
      | succ n_lp6 ih_lp6 =>
        intro v hm_lp6 hv_
        refine wn_ld (pc' := 25) (q := 4) (kin := 0) (v := .int (nI (v))) rfl (fun _ _ _ => rfl) rfl rfl ?_
        refine wn_ld (pc' := 26) (q := 0) (kin := 2) (v := .ref (0)) rfl (fun _ _ _ => rfl) rfl rfl ?_
        refine wn_get (pc' := 29) (v := .ref (23)) rfl rfl v1_h4 rfl ?_
        refine wn_get (pc' := 32) (v := .ref (ls)) rfl rfl v2_h4 rfl ?_
        refine wn_get (pc' := 35) (v := .int (nI (nvW w))) rfl rfl l0_h4 rfl ?_
        refine wn_icmpN (t := 109) (f := 38) rfl rfl rfl (by omega) (by omega) (fun c7 => ?_) (fun c7 => ?_)
        · have c7 : (nvW w) ≤ v := c7
          obtain rfl : v = nvW w := by omega
          refine wn_ld (pc' := 110) (q := 2) (kin := 0) (v := .int ((twO (twG w y9) (nvW w) (nvW w)).1)) rfl (fun _ _ _ => rfl) rfl rfl ?_
          try simp only [Int32.lt_iff_toInt_lt, Int32.le_iff_toInt_le, i2l_int, Int32.toInt_zero, iin] at c3
          refine wn_iret rfl rfl rfl ⟨congrArg (fun z => some (Value.int z)) ?_, RX_h4⟩
          unfold twoA
          rw [qI_t (by simp only [iin]; omega)]
          first | rfl | (simp only [cl_y]; done) | (simp only [cl_y]; rfl)
        · have c7 : v < (nvW w) := c7
          refine wn_ld (pc' := 40) (q := 4) (kin := 0) (v := .int (nI (v))) rfl (fun _ _ _ => rfl) rfl rfl ?_
          refine wn_ic (pc' := 41) (w := nI 1) rfl rfl (by decide) ?_
          refine wn_addN (pc' := 42) rfl rfl ?_
          refine wn_st (pc' := 44) (q := 5) (kin := 0) (lv' := [(0, .ref (0)), (1, .int (nI (y9))), (2, .int ((twO (twG w y9) (nvW w) v).1)), (3, .int (mI (twO (twG w y9) (nvW w) v).2)), (4, .int (nI (v))), (5, .int (nI (v + 1)))]) rfl (fun _ _ _ => rfl) rfl (Nat.le_of_ble_eq_true rfl) rfl ?_
          have lp8 : ∀ (n_lp8 : Nat) (k : Nat), (nvW w) + 1 ≤ (v + 1 + k) + n_lp8 → v + 1 + k ≤ nvW w → Wn (Rn (d + 6)) 106 44 [(0, .ref (0)), (1, .int (nI (y9))), (2, .int ((twI (twG w y9) v (twO (twG w y9) (nvW w) v) k).1)), (3, .int (mI (twI (twG w y9) v (twO (twG w y9) (nvW w) v) k).2)), (4, .int (nI (v))), (5, .int (nI (v + 1 + k)))] [] (h4) (fun r9 h9 => r9 = some (.int (twoA w (nI y9))) ∧ RX h h9 ls w) := by
            intro n_lp8
            induction n_lp8 with
            | zero => intro k hm_lp8 hk_; exfalso; omega
            | succ n_lp8 ih_lp8 =>
              intro k hm_lp8 hk_
              have := twI_le (g := twG w y9) (b := 10) (v := v) (s := twO (twG w y9) (nvW w) v) (fun v u => twG_le hWf y9 v u) (twO_le (fun v u => twG_le hWf y9 v u) v) k
              refine wn_ld (pc' := 46) (q := 5) (kin := 0) (v := .int (nI (v + 1 + k))) rfl (fun _ _ _ => rfl) rfl rfl ?_
              refine wn_ld (pc' := 47) (q := 0) (kin := 2) (v := .ref (0)) rfl (fun _ _ _ => rfl) rfl rfl ?_
              refine wn_get (pc' := 50) (v := .ref (23)) rfl rfl v1_h4 rfl ?_
              refine wn_get (pc' := 53) (v := .ref (ls)) rfl rfl v2_h4 rfl ?_
              refine wn_get (pc' := 56) (v := .int (nI (nvW w))) rfl rfl l0_h4 rfl ?_
              refine wn_icmpN (t := 103) (f := 59) rfl rfl rfl (by omega) (by omega) (fun c9 => ?_) (fun c9 => ?_)
              · have c9 : (nvW w) ≤ (v + 1 + k) := c9
                refine wn_incN (n := 1) (pc' := 106) (lv' := [(0, .ref (0)), (1, .int (nI (y9))), (2, .int ((twI (twG w y9) v (twO (twG w y9) (nvW w) v) k).1)), (3, .int (mI (twI (twG w y9) v (twO (twG w y9) (nvW w) v) k).2)), (4, .int (nI (v + 1))), (5, .int (nI (v + 1 + k)))]) rfl rfl rfl (Nat.le_of_ble_eq_true rfl) rfl (by decide) ?_
                refine wn_jp (pc' := 23) rfl rfl ?_
                refine wn_weak (lv' := [(0, .ref (0)), (1, .int (nI (y9))), (2, .int ((twI (twG w y9) v (twO (twG w y9) (nvW w) v) k).1)), (3, .int (mI (twI (twG w y9) v (twO (twG w y9) (nvW w) v) k).2)), (4, .int (nI (v + 1)))]) (by simp) ?_
                have z9 := ih_lp6 (v + 1) (by omega) (by omega)
                rw [show ((twO (twG w y9) (nvW w) (v + 1)).1) = ((twI (twG w y9) v (twO (twG w y9) (nvW w) v) k).1) from (by rw [show k = nvW w - (v + 1) by omega]; rfl)] at z9
                rw [show (mI (twO (twG w y9) (nvW w) (v + 1)).2) = (mI (twI (twG w y9) v (twO (twG w y9) (nvW w) v) k).2) from (by rw [show k = nvW w - (v + 1) by omega]; rfl)] at z9
                exact z9
              · have c9 : (v + 1 + k) < (nvW w) := c9
                refine wn_ld (pc' := 60) (q := 0) (kin := 2) (v := .ref (0)) rfl (fun _ _ _ => rfl) rfl rfl ?_
                refine wn_get (pc' := 63) (v := .ref (60)) rfl rfl v1_h4 rfl ?_
                refine wn_ld (pc' := 65) (q := 4) (kin := 0) (v := .int (nI (v))) rfl (fun _ _ _ => rfl) rfl rfl ?_
                refine wn_ialdv (pc' := 66) (j := v) (v := (fiW w y9 v)) rfl rfl i_h4 rfl (by omega) (by decide) (fv_h4 v (by omega)) ?_
                refine wn_ld (pc' := 67) (q := 0) (kin := 2) (v := .ref (0)) rfl (fun _ _ _ => rfl) rfl rfl ?_
                refine wn_get (pc' := 70) (v := .ref (60)) rfl rfl v1_h4 rfl ?_
                refine wn_ld (pc' := 72) (q := 5) (kin := 0) (v := .int (nI (v + 1 + k))) rfl (fun _ _ _ => rfl) rfl rfl ?_
                refine wn_ialdv (pc' := 73) (j := v + 1 + k) (v := (fiW w y9 (v + 1 + k))) rfl rfl i_h4 rfl (by omega) (by decide) (fv_h4 (v + 1 + k) (by omega)) ?_
                refine wn_pu (pc' := 74) (st' := [.int ((fiW w y9 v) ||| (fiW w y9 (v + 1 + k)))]) rfl (fun _ _ _ => rfl) rfl rfl ?_
                refine wn_staI (pc' := 77) rfl rfl (by decide) rfl rfl (Nat.le_of_ble_eq_true rfl) (x_bitCount _ _ _) ?_
                rw [fi_or hWf]
                have := twG_le hWf y9 v (v + 1 + k)
                refine wn_st (pc' := 79) (q := 6) (kin := 0) (lv' := [(0, .ref (0)), (1, .int (nI (y9))), (2, .int ((twI (twG w y9) v (twO (twG w y9) (nvW w) v) k).1)), (3, .int (mI (twI (twG w y9) v (twO (twG w y9) (nvW w) v) k).2)), (4, .int (nI (v))), (5, .int (nI (v + 1 + k))), (6, .int (nI (twG w y9 v (v + 1 + k))))]) rfl (fun _ _ _ => rfl) rfl (Nat.le_of_ble_eq_true rfl) rfl ?_
                refine wn_ld (pc' := 81) (q := 6) (kin := 0) (v := .int (nI (twG w y9 v (v + 1 + k)))) rfl (fun _ _ _ => rfl) rfl rfl ?_
                refine wn_ld (pc' := 82) (q := 3) (kin := 0) (v := .int (mI (twI (twG w y9) v (twO (twG w y9) (nvW w) v) k).2)) rfl (fun _ _ _ => rfl) rfl rfl ?_
                refine wn_icmp (t := 97) (f := 85) rfl rfl rfl (fun c10 => ?_) (fun c10 => ?_)
                · have c10 : ((nI (twG w y9 v (v + 1 + k)))) ≤ ((mI (twI (twG w y9) v (twO (twG w y9) (nvW w) v) k).2)) := c10
                  refine wn_incN (n := 1) (pc' := 100) (lv' := [(0, .ref (0)), (1, .int (nI (y9))), (2, .int ((twI (twG w y9) v (twO (twG w y9) (nvW w) v) k).1)), (3, .int (mI (twI (twG w y9) v (twO (twG w y9) (nvW w) v) k).2)), (4, .int (nI (v))), (5, .int (nI (v + 1 + k + 1))), (6, .int (nI (twG w y9 v (v + 1 + k))))]) rfl rfl rfl (Nat.le_of_ble_eq_true rfl) rfl (by decide) ?_
                  refine wn_jp (pc' := 44) rfl rfl ?_
                  refine wn_weak (lv' := [(0, .ref (0)), (1, .int (nI (y9))), (2, .int ((twI (twG w y9) v (twO (twG w y9) (nvW w) v) k).1)), (3, .int (mI (twI (twG w y9) v (twO (twG w y9) (nvW w) v) k).2)), (4, .int (nI (v))), (5, .int (nI (v + 1 + k + 1)))]) (by simp) ?_
                  have z9 := ih_lp8 (k + 1) (by omega) (by omega)
                  rw [show ((twI (twG w y9) v (twO (twG w y9) (nvW w) v) (k + 1)).1) = ((twI (twG w y9) v (twO (twG w y9) (nvW w) v) k).1) from (by exact (congrArg Prod.fst (twI_f ((mI_cmp (by omega) (by omega)).2.mp c10))).trans rfl)] at z9
                  rw [show (mI (twI (twG w y9) v (twO (twG w y9) (nvW w) v) (k + 1)).2) = (mI (twI (twG w y9) v (twO (twG w y9) (nvW w) v) k).2) from (by exact (congrArg (fun q => mI q.2) (twI_f ((mI_cmp (by omega) (by omega)).2.mp c10))).trans rfl)] at z9
                  rw [show (nI (v + 1 + (k + 1))) = (nI (v + 1 + k + 1)) from (by rfl)] at z9
                  exact z9
                · have c10 : ((mI (twI (twG w y9) v (twO (twG w y9) (nvW w) v) k).2)) < ((nI (twG w y9 v (v + 1 + k)))) := c10
                  refine wn_ld (pc' := 87) (q := 6) (kin := 0) (v := .int (nI (twG w y9 v (v + 1 + k)))) rfl (fun _ _ _ => rfl) rfl rfl ?_
                  refine wn_st (pc' := 88) (q := 3) (kin := 0) (lv' := [(0, .ref (0)), (1, .int (nI (y9))), (2, .int ((twI (twG w y9) v (twO (twG w y9) (nvW w) v) k).1)), (3, .int (nI (twG w y9 v (v + 1 + k)))), (4, .int (nI (v))), (5, .int (nI (v + 1 + k))), (6, .int (nI (twG w y9 v (v + 1 + k))))]) rfl (fun _ _ _ => rfl) rfl (Nat.le_of_ble_eq_true rfl) rfl ?_
                  refine wn_bp (pc' := 90) (w := nI 100) rfl rfl (by decide) ?_
                  refine wn_ld (pc' := 92) (q := 4) (kin := 0) (v := .int (nI (v))) rfl (fun _ _ _ => rfl) rfl rfl ?_
                  refine wn_mulN (pc' := 93) rfl rfl ?_
                  refine wn_ld (pc' := 95) (q := 5) (kin := 0) (v := .int (nI (v + 1 + k))) rfl (fun _ _ _ => rfl) rfl rfl ?_
                  refine wn_addN (pc' := 96) rfl rfl ?_
                  refine wn_st (pc' := 97) (q := 2) (kin := 0) (lv' := [(0, .ref (0)), (1, .int (nI (y9))), (2, .int (nI ((100 * v) + (v + 1 + k)))), (3, .int (nI (twG w y9 v (v + 1 + k)))), (4, .int (nI (v))), (5, .int (nI (v + 1 + k))), (6, .int (nI (twG w y9 v (v + 1 + k))))]) rfl (fun _ _ _ => rfl) rfl (Nat.le_of_ble_eq_true rfl) rfl ?_
                  refine wn_incN (n := 1) (pc' := 100) (lv' := [(0, .ref (0)), (1, .int (nI (y9))), (2, .int (nI ((100 * v) + (v + 1 + k)))), (3, .int (nI (twG w y9 v (v + 1 + k)))), (4, .int (nI (v))), (5, .int (nI (v + 1 + k + 1))), (6, .int (nI (twG w y9 v (v + 1 + k))))]) rfl rfl rfl (Nat.le_of_ble_eq_true rfl) rfl (by decide) ?_
                  refine wn_jp (pc' := 44) rfl rfl ?_
                  refine wn_weak (lv' := [(0, .ref (0)), (1, .int (nI (y9))), (2, .int (nI ((100 * v) + (v + 1 + k)))), (3, .int (nI (twG w y9 v (v + 1 + k)))), (4, .int (nI (v))), (5, .int (nI (v + 1 + k + 1)))]) (by simp) ?_
                  have z9 := ih_lp8 (k + 1) (by omega) (by omega)
                  rw [show ((twI (twG w y9) v (twO (twG w y9) (nvW w) v) (k + 1)).1) = (nI ((100 * v) + (v + 1 + k))) from (by exact (congrArg Prod.fst (twI_t (Nat.not_lt.mpr ((mI_cmp (by omega) (by omega)).1.mp c10)))).trans rfl)] at z9
                  rw [show (mI (twI (twG w y9) v (twO (twG w y9) (nvW w) v) (k + 1)).2) = (nI (twG w y9 v (v + 1 + k))) from (by rw [twI_t (Nat.not_lt.mpr ((mI_cmp (by omega) (by omega)).1.mp c10))]; exact mI_s _)] at z9
                  rw [show (nI (v + 1 + (k + 1))) = (nI (v + 1 + k + 1)) from (by rfl)] at z9
                  exact z9
          refine wn_weak (lv' := [(0, .ref (0)), (1, .int (nI (y9))), (2, .int ((twO (twG w y9) (nvW w) v).1)), (3, .int (mI (twO (twG w y9) (nvW w) v).2)), (4, .int (nI (v))), (5, .int (nI (v + 1)))]) (by simp) ?_
          have z9 := lp8 ((nvW w) + 1) 0 (by omega) (by omega)
          rw [show ((twI (twG w y9) v (twO (twG w y9) (nvW w) v) 0).1) = ((twO (twG w y9) (nvW w) v).1) from (by rfl)] at z9
          rw [show (mI (twI (twG w y9) v (twO (twG w y9) (nvW w) v) 0).2) = (mI (twO (twG w y9) (nvW w) v).2) from (by rfl)] at z9
          rw [show (nI (v + 1 + 0)) = (nI (v + 1)) from (by rfl)] at z9
          exact z9
    refine wn_weak (lv' := [(0, .ref (0)), (1, .int (nI (y9))), (2, .int (-1)), (3, .int (-1)), (4, .int (nI (0)))]) (by simp) ?_
    have z9 := lp6 ((nvW w) + 1) 0 (by omega) (by omega)
    rw [show ((twO (twG w y9) (nvW w) 0).1) = (-1) from (by rfl)] at z9
    rw [show (mI (twO (twG w y9) (nvW w) 0).2) = (-1) from (by exact mI_0)] at z9
    exact z9
  · have c3 : ¬ (iin y 61) := c3
    refine wn_bp (pc' := 10) (w := -2) rfl rfl (by decide) ?_
    try simp only [Int32.lt_iff_toInt_lt, Int32.le_iff_toInt_le, i2l_int, Int32.toInt_zero, iin] at c3
    refine wn_iret rfl rfl rfl ⟨congrArg (fun z => some (Value.int z)) ?_, (RY.rx RY_h1 R0.2.2.2)⟩
    unfold twoA
    rw [qI_f (by simp only [iin]; omega)]

theorem case_25 (y : Int32) : CaseI Rp 106 216 [.int y] := case_q (fun h ls w hWf V R => ⟨_, x_two 693 h ls w hWf V R y, fun h1 HQ => m_two 690 h1 w hWf HQ y⟩)
theorem x_anyFits (d : Nat) (h : aH) (ls : Nat) (w : Nat → Int32) (hWf : WfW w) (V : XV h ls w) (y : Nat) (ft : Nat → Int32) (b0 : isI h 60 24 ft) (fv : ∀ v, v < nvW w → ft v = fiW w y v) (p0 : Int32) : Rn (d + 1) 108 [.ref (0), .int (p0)] h (some (.int (bI (∃ v, v < nvW w ∧ fiW w y v &&& p0 = p0)))) h 0 0 := by
  obtain ⟨⟨e1, e2⟩, ⟨e3, e4⟩, ⟨e5, e6⟩⟩ := Wf_n hWf
  obtain ⟨⟨e7, e8⟩, ⟨e9, e10⟩⟩ := Wf_m hWf
  obtain ⟨v0, ⟨x9, v1⟩, ⟨v2, ⟨sz, rf, rt, rv, ag, vr, sd, tl, l0, l1, l2, l3, l4, l5, l6, l7, l8, g1, g2, g3, g4, g5⟩, ⟨sec, it, fi, se, sg, lst, rs, rp, pj, pk, pv, k0, k1, k2, k3, k4, k5, k6, k7, k8, k9, k10, k11, k12, k13⟩, ⟨hv, hc, y0, y1, y2, y3, y4⟩, ⟨an, wk, n0, n1, n2, n3, n4⟩⟩, v3⟩ := id V
  rw [e1, e3, e5] at l0
  rw [e7, e9] at k1
  refine Rn_of (by decide) (Nat.le_of_ble_eq_true rfl) ?_
  show Wn _ _ 0 [(0, .ref (0)), (1, .int (p0))] [] _ _
  refine wn_ic (pc' := 1) (w := nI 0) rfl rfl (by decide) ?_
  refine wn_st (pc' := 2) (q := 2) (kin := 0) (lv' := [(0, .ref (0)), (1, .int (p0)), (2, .int (nI (0)))]) rfl (fun _ _ _ => rfl) rfl (Nat.le_of_ble_eq_true rfl) rfl ?_
  have lp1 : ∀ (n_lp1 : Nat) (v : Nat), (nvW w) + 1 ≤ v + n_lp1 → v ≤ nvW w → (∀ v9, v9 < v → ¬ fiW w y v9 &&& p0 = p0) → Wn (Rn (d + 0)) 108 2 [(0, .ref (0)), (1, .int (p0)), (2, .int (nI (v)))] [] (h) (fun r9 h9 => r9 = (some (.int (bI (∃ v, v < nvW w ∧ fiW w y v &&& p0 = p0)))) ∧ h9 = h) := by
    intro n_lp1
    induction n_lp1 with
    | zero => intro v hm_lp1 hv_ hn; exfalso; omega
    | succ n_lp1 ih_lp1 =>
      intro v hm_lp1 hv_ hn
      refine wn_ld (pc' := 3) (q := 2) (kin := 0) (v := .int (nI (v))) rfl (fun _ _ _ => rfl) rfl rfl ?_
      refine wn_ld (pc' := 4) (q := 0) (kin := 2) (v := .ref (0)) rfl (fun _ _ _ => rfl) rfl rfl ?_
      refine wn_get (pc' := 7) (v := .ref (23)) rfl rfl v1 rfl ?_
      refine wn_get (pc' := 10) (v := .ref (ls)) rfl rfl v2 rfl ?_
      refine wn_get (pc' := 13) (v := .int (nI (nvW w))) rfl rfl l0 rfl ?_
      refine wn_icmpN (t := 36) (f := 16) rfl rfl rfl (by omega) (by omega) (fun c2 => ?_) (fun c2 => ?_)
      · have c2 : (nvW w) ≤ v := c2
        refine wn_ic (pc' := 37) (w := nI 0) rfl rfl (by decide) ?_
        exact wn_iret rfl rfl (by decide) ⟨congrArg (fun z => some (Value.int z)) (bI_f0 (fun ⟨v9, q1, q2⟩ => hn v9 (by omega) q2)), rfl⟩
      · have c2 : v < (nvW w) := c2
        refine wn_ld (pc' := 17) (q := 0) (kin := 2) (v := .ref (0)) rfl (fun _ _ _ => rfl) rfl rfl ?_
        refine wn_get (pc' := 20) (v := .ref (60)) rfl rfl v1 rfl ?_
        refine wn_ld (pc' := 21) (q := 2) (kin := 0) (v := .int (nI (v))) rfl (fun _ _ _ => rfl) rfl rfl ?_
        refine wn_ialdv (pc' := 22) (j := v) (v := (fiW w y v)) rfl rfl b0 rfl (by omega) (by decide) (fv v (by omega)) ?_
        refine wn_ld (pc' := 23) (q := 1) (kin := 0) (v := .int (p0)) rfl (fun _ _ _ => rfl) rfl rfl ?_
        refine wn_pu (pc' := 24) (st' := [.int ((fiW w y v) &&& (p0))]) rfl (fun _ _ _ => rfl) rfl rfl ?_
        refine wn_ld (pc' := 25) (q := 1) (kin := 0) (v := .int (p0)) rfl (fun _ _ _ => rfl) rfl rfl ?_
        refine wn_icmp (t := 30) (f := 28) rfl rfl rfl (fun c3 => ?_) (fun c3 => ?_)
        · have c3 : ¬ (((fiW w y v) &&& (p0))) = ((p0)) := c3
          refine wn_incN (n := 1) (pc' := 33) (lv' := [(0, .ref (0)), (1, .int (p0)), (2, .int (nI (v + 1)))]) rfl rfl rfl (Nat.le_of_ble_eq_true rfl) rfl (by decide) ?_
          refine wn_jp (pc' := 2) rfl rfl ?_
          refine wn_weak (lv' := [(0, .ref (0)), (1, .int (p0)), (2, .int (nI (v + 1)))]) (by simp) ?_
          have z9 := ih_lp1 (v + 1) (by omega) (by omega) (fun v9 q => by by_cases e : v9 = v; (subst e; exact c3); exact hn v9 (by omega))
          exact z9
        · have c3 : (((fiW w y v) &&& (p0))) = ((p0)) := c3
          refine wn_ic (pc' := 29) (w := nI 1) rfl rfl (by decide) ?_
          exact wn_iret rfl rfl (by decide) ⟨congrArg (fun z => some (Value.int z)) (bI_t1 ⟨v, by omega, c3⟩), rfl⟩
  refine wn_weak (lv' := [(0, .ref (0)), (1, .int (p0)), (2, .int (nI (0)))]) (by simp) ?_
  have z9 := lp1 ((nvW w) + 1) 0 (by omega) (by omega) (fun _ q => absurd q (by omega))
  exact z9

theorem nw_iff {w : Nat → Int32} (hWf : WfW w) {y i j : Nat} (hi : i < ntW w) (hj : j < ntW w) : (hrW w &&& (nI 1 <<< (nI i &&& 31) ||| nI 1 <<< (nI j &&& 31)) = (nI 1 <<< (nI i &&& 31) ||| nI 1 <<< (nI j &&& 31)) ∧ ¬ ∃ v, v < nvW w ∧ fiW w y v &&& (nI 1 <<< (nI i &&& 31) ||| nI 1 <<< (nI j &&& 31)) = (nI 1 <<< (nI i &&& 31) ||| nI 1 <<< (nI j &&& 31))) ↔ ¬ snW w y i j (nvW w) := by
  have := hWf.1.2.2.2.1.2
  have e : ∀ x : Int32, x &&& (nI 1 <<< (nI i &&& 31) ||| nI 1 <<< (nI j &&& 31)) = (nI 1 <<< (nI i &&& 31) ||| nI 1 <<< (nI j &&& 31)) ↔ (bt x i = true ∧ bt x j = true) := fun x => pair_in (by omega) (by omega)
  rw [e]
  have h1 : bt (hrW w) i = true ↔ ¬ w (178 + 4 * i) = -1 := (bitP_bt (by omega) (by omega)).trans ⟨fun q => q.2, fun q => ⟨hi, q⟩⟩
  have h2 : bt (hrW w) j = true ↔ ¬ w (178 + 4 * j) = -1 := (bitP_bt (by omega) (by omega)).trans ⟨fun q => q.2, fun q => ⟨hj, q⟩⟩
  have f1 : ∀ v, bt (fiW w y v) i = true ↔ ((¬ w (178 + 4 * i) = -1) ∧ fitW w y v i) := fun v => (bitP_bt (by omega) (by omega)).trans ⟨fun q => q.2, fun q => ⟨hi, q⟩⟩
  have f2 : ∀ v, bt (fiW w y v) j = true ↔ ((¬ w (178 + 4 * j) = -1) ∧ fitW w y v j) := fun v => (bitP_bt (by omega) (by omega)).trans ⟨fun q => q.2, fun q => ⟨hj, q⟩⟩
  rw [h1, h2]
  constructor
  · rintro ⟨⟨a, b⟩, c⟩ (q | ⟨v, q1, q2, q3⟩)
    · exact q.elim a b
    · exact c ⟨v, q1, (e _).mpr ⟨(f1 v).mpr ⟨a, q2⟩, (f2 v).mpr ⟨b, q3⟩⟩⟩
  · intro q
    refine ⟨⟨fun a => q (Or.inl (Or.inl a)), fun a => q (Or.inl (Or.inr a))⟩, ?_⟩
    rintro ⟨v, q1, q2⟩
    obtain ⟨q3, q4⟩ := (e _).mp q2
    exact q (Or.inr ⟨v, q1, ((f1 v).mp q3).2, ((f2 v).mp q4).2⟩)
theorem x_nowhere (d : Nat) (h : aH) (ls : Nat) (w : Nat → Int32) (hWf : WfW w) (V : XV h ls w) (R0 : RX h h ls w) (y t : Int32) : Sp (Rn (d + 7)) 107 [.ref (0), .int (y), .int (t)] h (fun r9 h9 => r9 = some (.int (nowhereA w y t)) ∧ RX h h9 ls w) := by
  obtain ⟨⟨e1, e2⟩, ⟨e3, e4⟩, ⟨e5, e6⟩⟩ := Wf_n hWf
  obtain ⟨⟨e7, e8⟩, ⟨e9, e10⟩⟩ := Wf_m hWf
  obtain ⟨v0, ⟨x9, v1⟩, ⟨v2, ⟨sz, rf, rt, rv, ag, vr, sd, tl, l0, l1, l2, l3, l4, l5, l6, l7, l8, g1, g2, g3, g4, g5⟩, ⟨sec, it, fi, se, sg, lst, rs, rp, pj, pk, pv, k0, k1, k2, k3, k4, k5, k6, k7, k8, k9, k10, k11, k12, k13⟩, ⟨hv, hc, y0, y1, y2, y3, y4⟩, ⟨an, wk, n0, n1, n2, n3, n4⟩⟩, v3⟩ := id V
  rw [e1, e3, e5] at l0
  rw [e7, e9] at k1
  refine Sp_of (by decide) (Nat.le_of_ble_eq_true rfl) ?_
  show Wn _ _ 0 [(0, .ref (0)), (1, .int (y)), (2, .int (t))] [] _ _
  refine wn_ld (pc' := 1) (q := 2) (kin := 0) (v := .int (t)) rfl (fun _ _ _ => rfl) rfl rfl ?_
  refine wn_ifc (t := 17) (f := 4) rfl rfl rfl (fun c1 => ?_) (fun c1 => ?_)
  · have c1 : ((t)) < 0 := c1
    refine wn_bp (pc' := 19) (w := -2) rfl rfl (by decide) ?_
    try simp only [Int32.lt_iff_toInt_lt, Int32.le_iff_toInt_le, i2l_int, Int32.toInt_zero, iin] at c1
    refine wn_iret rfl rfl rfl ⟨congrArg (fun z => some (Value.int z)) ?_, (RY.rx (RY.rfl' R0.2.2.1) R0.2.2.2)⟩
    unfold nowhereA
    rw [qI_f (by simp only [iin]; omega)]
  · have c1 : 0 ≤ ((t)) := c1
    refine wn_ld (pc' := 5) (q := 2) (kin := 0) (v := .int (t)) rfl (fun _ _ _ => rfl) rfl rfl ?_
    refine wn_ic (pc' := 6) (w := nI 1) rfl rfl (by decide) ?_
    refine wn_icmp (t := 17) (f := 9) rfl rfl rfl (fun c2 => ?_) (fun c2 => ?_)
    · have c2 : ((nI (1))) < ((t)) := c2
      refine wn_bp (pc' := 19) (w := -2) rfl rfl (by decide) ?_
      have en1 : (nI 1).toInt = 1 := by decide
      try simp only [Int32.lt_iff_toInt_lt, Int32.le_iff_toInt_le, i2l_int, Int32.toInt_zero, iin] at c1
      try simp only [Int32.lt_iff_toInt_lt, Int32.le_iff_toInt_le, i2l_int, Int32.toInt_zero, iin] at c2
      refine wn_iret rfl rfl rfl ⟨congrArg (fun z => some (Value.int z)) ?_, (RY.rx (RY.rfl' R0.2.2.1) R0.2.2.2)⟩
      unfold nowhereA
      rw [qI_f (by simp only [iin]; omega)]
    · have c2 : ((t)) ≤ ((nI (1))) := c2
      refine wn_ld (pc' := 10) (q := 0) (kin := 2) (v := .ref (0)) rfl (fun _ _ _ => rfl) rfl rfl ?_
      refine wn_ld (pc' := 11) (q := 1) (kin := 0) (v := .int (y)) rfl (fun _ _ _ => rfl) rfl rfl ?_
      refine wn_virS (pc' := 14) rfl rfl (by decide) rfl rfl v1 (Nat.le_of_ble_eq_true rfl) (x_reachesYear _ _ ls w hWf V R0.2.2.1 y) (fun r9 h3 e4 => ?_)
      obtain ⟨rfl, R_h3, Ra_h3⟩ := e4
      have RY_h3 := RY.tr (RY.rfl' R0.2.2.1) R_h3
      have V_h3 := RY_h3.xv V
      obtain ⟨v0_h3, ⟨x9_h3, v1_h3⟩, ⟨v2_h3, ⟨sz_h3, rf_h3, rt_h3, rv_h3, ag_h3, vr_h3, sd_h3, tl_h3, l0_h3, l1_h3, l2_h3, l3_h3, l4_h3, l5_h3, l6_h3, l7_h3, l8_h3, g1_h3, g2_h3, g3_h3, g4_h3, g5_h3⟩, ⟨sec_h3, it_h3, fi_h3, se_h3, sg_h3, lst_h3, rs_h3, rp_h3, pj_h3, pk_h3, pv_h3, k0_h3, k1_h3, k2_h3, k3_h3, k4_h3, k5_h3, k6_h3, k7_h3, k8_h3, k9_h3, k10_h3, k11_h3, k12_h3, k13_h3⟩, ⟨hv_h3, hc_h3, y0_h3, y1_h3, y2_h3, y3_h3, y4_h3⟩, ⟨an_h3, wk_h3, n0_h3, n1_h3, n2_h3, n3_h3, n4_h3⟩⟩, v3_h3⟩ := id V_h3
      rw [e1, e3, e5] at l0_h3
      rw [e7, e9] at k1_h3
      show Wn _ _ 14 _ [.int (bI (iin y 61))] h3 _
      refine wn_ifneB (t := 20) (f := 17) rfl rfl rfl (fun c5 => ?_) (fun c5 => ?_)
      · have c5 : (iin y 61) := c5
        obtain ⟨y9, hy9, rfl⟩ := iin_of c5
        have ti_y := nI_toInt (n := y9) (show y9 < 2 ^ 31 by omega)
        have cl_y := nI_clamp (n := y9) (show y9 < 2 ^ 31 by omega)
        have Rd_h3 : ∀ i, i < ntW w → Rch h3 w i y9 := by have q := Ra_h3 c5; rw [cl_y] at q; exact q
        refine wn_ld (pc' := 21) (q := 0) (kin := 2) (v := .ref (0)) rfl (fun _ _ _ => rfl) rfl rfl ?_
        refine wn_ld (pc' := 22) (q := 1) (kin := 0) (v := .int (nI (y9))) rfl (fun _ _ _ => rfl) rfl rfl ?_
        refine wn_virS (pc' := 25) rfl rfl (by decide) rfl rfl v1_h3 (Nat.le_of_ble_eq_true rfl) (x_fillFitting _ _ ls w hWf V_h3 _ (ScrX.i60 (RY.rx RY_h3 R0.2.2.2).2.2.2).choose_spec y9 (by omega) Rd_h3) (fun r9 h6 e7 => ?_)
        obtain ⟨rfl, f_h6, b_h6, i_h6, fv_h6⟩ := e7
        have RX_h6 := RX.s60 (RY.rx RY_h3 R0.2.2.2) f_h6 i_h6
        have V_h6 := RX_h6.xv V
        obtain ⟨v0_h6, ⟨x9_h6, v1_h6⟩, ⟨v2_h6, ⟨sz_h6, rf_h6, rt_h6, rv_h6, ag_h6, vr_h6, sd_h6, tl_h6, l0_h6, l1_h6, l2_h6, l3_h6, l4_h6, l5_h6, l6_h6, l7_h6, l8_h6, g1_h6, g2_h6, g3_h6, g4_h6, g5_h6⟩, ⟨sec_h6, it_h6, fi_h6, se_h6, sg_h6, lst_h6, rs_h6, rp_h6, pj_h6, pk_h6, pv_h6, k0_h6, k1_h6, k2_h6, k3_h6, k4_h6, k5_h6, k6_h6, k7_h6, k8_h6, k9_h6, k10_h6, k11_h6, k12_h6, k13_h6⟩, ⟨hv_h6, hc_h6, y0_h6, y1_h6, y2_h6, y3_h6, y4_h6⟩, ⟨an_h6, wk_h6, n0_h6, n1_h6, n2_h6, n3_h6, n4_h6⟩⟩, v3_h6⟩ := id V_h6
        rw [e1, e3, e5] at l0_h6
        rw [e7, e9] at k1_h6
        have Rb_h6 : ∀ i, i < ntW w → Rch h6 w i y9 := fun i q => Rch.fr (Rd_h3 i q) f_h6 (by decide)
        show Wn _ _ 25 _ [] h6 _
        refine wn_ld (pc' := 26) (q := 0) (kin := 2) (v := .ref (0)) rfl (fun _ _ _ => rfl) rfl rfl ?_
        refine wn_get (pc' := 29) (v := .ref (23)) rfl rfl v1_h6 rfl ?_
        refine wn_get (pc' := 32) (v := .ref (44)) rfl rfl v2_h6 rfl ?_
        refine wn_virI (pc' := 35) rfl rfl (by decide) rfl rfl y0_h6 (Nat.le_of_ble_eq_true rfl) (x_asBits _ _ ls w hWf V_h6) ?_
        refine wn_st (pc' := 36) (q := 3) (kin := 0) (lv' := [(0, .ref (0)), (1, .int (nI (y9))), (2, .int (t)), (3, .int (hrW w))]) rfl (fun _ _ _ => rfl) rfl (Nat.le_of_ble_eq_true rfl) rfl ?_
        refine wn_ic (pc' := 37) (w := nI 0) rfl rfl (by decide) ?_
        refine wn_st (pc' := 39) (q := 4) (kin := 0) (lv' := [(0, .ref (0)), (1, .int (nI (y9))), (2, .int (t)), (3, .int (hrW w)), (4, .int (nI (0)))]) rfl (fun _ _ _ => rfl) rfl (Nat.le_of_ble_eq_true rfl) rfl ?_
        refine wn_ic (pc' := 40) (w := -1) rfl rfl (by decide) ?_
        refine wn_st (pc' := 42) (q := 5) (kin := 0) (lv' := [(0, .ref (0)), (1, .int (nI (y9))), (2, .int (t)), (3, .int (hrW w)), (4, .int (nI (0))), (5, .int (-1))]) rfl (fun _ _ _ => rfl) rfl (Nat.le_of_ble_eq_true rfl) rfl ?_
        refine wn_ic (pc' := 43) (w := nI 0) rfl rfl (by decide) ?_
        refine wn_st (pc' := 45) (q := 6) (kin := 0) (lv' := [(0, .ref (0)), (1, .int (nI (y9))), (2, .int (t)), (3, .int (hrW w)), (4, .int (nI (0))), (5, .int (-1)), (6, .int (nI (0)))]) rfl (fun _ _ _ => rfl) rfl (Nat.le_of_ble_eq_true rfl) rfl ?_
        have lp8 : ∀ (n_lp8 : Nat) (i : Nat), (ntW w) + 1 ≤ i + n_lp8 → i ≤ ntW w → Wn (Rn (d + 6)) 107 45 [(0, .ref (0)), (1, .int (nI (y9))), (2, .int (t)), (3, .int (hrW w)), (4, .int (nI ((nwO (fun x7 x8 => snW w y9 x7 x8 (nvW w)) (ntW w) i).1))), (5, .int ((nwO (fun x7 x8 => snW w y9 x7 x8 (nvW w)) (ntW w) i).2)), (6, .int (nI (i)))] [] (h6) (fun r9 h9 => r9 = some (.int (nowhereA w (nI y9) t)) ∧ RX h h9 ls w) := by
          intro n_lp8
          induction n_lp8 with
          | zero => intro i hm_lp8 hi_; exfalso; omega
          | succ n_lp8 ih_lp8 =>
            intro i hm_lp8 hi_
            have nw1 := nwO_le (p := (fun x7 x8 => snW w y9 x7 x8 (nvW w))) (n := ntW w) i
            have nw2 : ntW w * i ≤ 10 * 10 := Nat.mul_le_mul (by omega) (by omega)
            refine wn_ld (pc' := 47) (q := 6) (kin := 0) (v := .int (nI (i))) rfl (fun _ _ _ => rfl) rfl rfl ?_
            refine wn_ld (pc' := 48) (q := 0) (kin := 2) (v := .ref (0)) rfl (fun _ _ _ => rfl) rfl rfl ?_
            refine wn_get (pc' := 51) (v := .ref (23)) rfl rfl v1_h6 rfl ?_
            refine wn_get (pc' := 54) (v := .ref (ls)) rfl rfl v2_h6 rfl ?_
            refine wn_get (pc' := 57) (v := .int (nI (ntW w))) rfl rfl l0_h6 rfl ?_
            refine wn_icmpN (t := 141) (f := 60) rfl rfl rfl (by omega) (by omega) (fun c9 => ?_) (fun c9 => ?_)
            · have c9 : (ntW w) ≤ i := c9
              obtain rfl : i = ntW w := by omega
              refine wn_ld (pc' := 142) (q := 2) (kin := 0) (v := .int (t)) rfl (fun _ _ _ => rfl) rfl rfl ?_
              refine wn_ifc (t := 150) (f := 145) rfl rfl rfl (fun c10 => ?_) (fun c10 => ?_)
              · have c10 : ¬ ((t)) = 0 := c10
                refine wn_ld (pc' := 152) (q := 5) (kin := 0) (v := .int ((nwO (fun x7 x8 => snW w y9 x7 x8 (nvW w)) (ntW w) (ntW w)).2)) rfl (fun _ _ _ => rfl) rfl rfl ?_
                have en1 : (nI 1).toInt = 1 := by decide
                try simp only [Int32.lt_iff_toInt_lt, Int32.le_iff_toInt_le, i2l_int, Int32.toInt_zero, iin] at c1
                try simp only [Int32.lt_iff_toInt_lt, Int32.le_iff_toInt_le, i2l_int, Int32.toInt_zero, iin] at c2
                try simp only [Int32.lt_iff_toInt_lt, Int32.le_iff_toInt_le, i2l_int, Int32.toInt_zero, iin] at c5
                try have c10i : ¬ _ := fun q => c10 (Int32.toInt_inj.mp q)
                refine wn_iret rfl rfl rfl ⟨congrArg (fun z => some (Value.int z)) ?_, RX_h6⟩
                unfold nowhereA
                rw [qI_t (by simp only [iin]; omega)]
                simp only [cl_y]
                exact (if_neg c10).symm
              · have c10 : ((t)) = 0 := c10
                refine wn_ld (pc' := 147) (q := 4) (kin := 0) (v := .int (nI ((nwO (fun x7 x8 => snW w y9 x7 x8 (nvW w)) (ntW w) (ntW w)).1))) rfl (fun _ _ _ => rfl) rfl rfl ?_
                refine wn_jp (pc' := 152) rfl rfl ?_
                have en1 : (nI 1).toInt = 1 := by decide
                try simp only [Int32.lt_iff_toInt_lt, Int32.le_iff_toInt_le, i2l_int, Int32.toInt_zero, iin] at c1
                try simp only [Int32.lt_iff_toInt_lt, Int32.le_iff_toInt_le, i2l_int, Int32.toInt_zero, iin] at c2
                try simp only [Int32.lt_iff_toInt_lt, Int32.le_iff_toInt_le, i2l_int, Int32.toInt_zero, iin] at c5
                try have c10i := congrArg Int32.toInt c10
                refine wn_iret rfl rfl rfl ⟨congrArg (fun z => some (Value.int z)) ?_, RX_h6⟩
                unfold nowhereA
                rw [qI_t (by simp only [iin]; omega)]
                simp only [cl_y]
                exact (if_pos c10).symm
            · have c9 : i < (ntW w) := c9
              refine wn_ld (pc' := 62) (q := 6) (kin := 0) (v := .int (nI (i))) rfl (fun _ _ _ => rfl) rfl rfl ?_
              refine wn_ic (pc' := 63) (w := nI 1) rfl rfl (by decide) ?_
              refine wn_addN (pc' := 64) rfl rfl ?_
              refine wn_st (pc' := 66) (q := 7) (kin := 0) (lv' := [(0, .ref (0)), (1, .int (nI (y9))), (2, .int (t)), (3, .int (hrW w)), (4, .int (nI ((nwO (fun x7 x8 => snW w y9 x7 x8 (nvW w)) (ntW w) i).1))), (5, .int ((nwO (fun x7 x8 => snW w y9 x7 x8 (nvW w)) (ntW w) i).2)), (6, .int (nI (i))), (7, .int (nI (i + 1)))]) rfl (fun _ _ _ => rfl) rfl (Nat.le_of_ble_eq_true rfl) rfl ?_
              have lp11 : ∀ (n_lp11 : Nat) (k : Nat), (ntW w) + 1 ≤ (i + 1 + k) + n_lp11 → i + 1 + k ≤ ntW w → Wn (Rn (d + 6)) 107 66 [(0, .ref (0)), (1, .int (nI (y9))), (2, .int (t)), (3, .int (hrW w)), (4, .int (nI ((nwI (fun x7 x8 => snW w y9 x7 x8 (nvW w)) i (nwO (fun x7 x8 => snW w y9 x7 x8 (nvW w)) (ntW w) i) k).1))), (5, .int ((nwI (fun x7 x8 => snW w y9 x7 x8 (nvW w)) i (nwO (fun x7 x8 => snW w y9 x7 x8 (nvW w)) (ntW w) i) k).2)), (6, .int (nI (i))), (7, .int (nI (i + 1 + k)))] [] (h6) (fun r9 h9 => r9 = some (.int (nowhereA w (nI y9) t)) ∧ RX h h9 ls w) := by
                intro n_lp11
                induction n_lp11 with
                | zero => intro k hm_lp11 hk_; exfalso; omega
                | succ n_lp11 ih_lp11 =>
                  intro k hm_lp11 hk_
                  have nw3 := nwI_le (p := (fun x7 x8 => snW w y9 x7 x8 (nvW w))) (i := i) (s := nwO (fun x7 x8 => snW w y9 x7 x8 (nvW w)) (ntW w) i) k
                  refine wn_ld (pc' := 68) (q := 7) (kin := 0) (v := .int (nI (i + 1 + k))) rfl (fun _ _ _ => rfl) rfl rfl ?_
                  refine wn_ld (pc' := 69) (q := 0) (kin := 2) (v := .ref (0)) rfl (fun _ _ _ => rfl) rfl rfl ?_
                  refine wn_get (pc' := 72) (v := .ref (23)) rfl rfl v1_h6 rfl ?_
                  refine wn_get (pc' := 75) (v := .ref (ls)) rfl rfl v2_h6 rfl ?_
                  refine wn_get (pc' := 78) (v := .int (nI (ntW w))) rfl rfl l0_h6 rfl ?_
                  refine wn_icmpN (t := 135) (f := 81) rfl rfl rfl (by omega) (by omega) (fun c12 => ?_) (fun c12 => ?_)
                  · have c12 : (ntW w) ≤ (i + 1 + k) := c12
                    refine wn_incN (n := 1) (pc' := 138) (lv' := [(0, .ref (0)), (1, .int (nI (y9))), (2, .int (t)), (3, .int (hrW w)), (4, .int (nI ((nwI (fun x7 x8 => snW w y9 x7 x8 (nvW w)) i (nwO (fun x7 x8 => snW w y9 x7 x8 (nvW w)) (ntW w) i) k).1))), (5, .int ((nwI (fun x7 x8 => snW w y9 x7 x8 (nvW w)) i (nwO (fun x7 x8 => snW w y9 x7 x8 (nvW w)) (ntW w) i) k).2)), (6, .int (nI (i + 1))), (7, .int (nI (i + 1 + k)))]) rfl rfl rfl (Nat.le_of_ble_eq_true rfl) rfl (by decide) ?_
                    refine wn_jp (pc' := 45) rfl rfl ?_
                    refine wn_weak (lv' := [(0, .ref (0)), (1, .int (nI (y9))), (2, .int (t)), (3, .int (hrW w)), (4, .int (nI ((nwI (fun x7 x8 => snW w y9 x7 x8 (nvW w)) i (nwO (fun x7 x8 => snW w y9 x7 x8 (nvW w)) (ntW w) i) k).1))), (5, .int ((nwI (fun x7 x8 => snW w y9 x7 x8 (nvW w)) i (nwO (fun x7 x8 => snW w y9 x7 x8 (nvW w)) (ntW w) i) k).2)), (6, .int (nI (i + 1)))]) (by simp) ?_
                    have z9 := ih_lp8 (i + 1) (by omega) (by omega)
                    rw [show (nI ((nwO (fun x7 x8 => snW w y9 x7 x8 (nvW w)) (ntW w) (i + 1)).1)) = (nI ((nwI (fun x7 x8 => snW w y9 x7 x8 (nvW w)) i (nwO (fun x7 x8 => snW w y9 x7 x8 (nvW w)) (ntW w) i) k).1)) from (by rw [show k = ntW w - (i + 1) by omega]; rfl)] at z9
                    rw [show ((nwO (fun x7 x8 => snW w y9 x7 x8 (nvW w)) (ntW w) (i + 1)).2) = ((nwI (fun x7 x8 => snW w y9 x7 x8 (nvW w)) i (nwO (fun x7 x8 => snW w y9 x7 x8 (nvW w)) (ntW w) i) k).2) from (by rw [show k = ntW w - (i + 1) by omega]; rfl)] at z9
                    exact z9
                  · have c12 : (i + 1 + k) < (ntW w) := c12
                    refine wn_ic (pc' := 82) (w := nI 1) rfl rfl (by decide) ?_
                    refine wn_ld (pc' := 84) (q := 6) (kin := 0) (v := .int (nI (i))) rfl (fun _ _ _ => rfl) rfl rfl ?_
                    refine wn_pu (pc' := 85) (st' := [.int ((nI (1)) <<< ((nI (i)) &&& 31))]) rfl (fun _ _ _ => rfl) rfl rfl ?_
                    refine wn_ic (pc' := 86) (w := nI 1) rfl rfl (by decide) ?_
                    refine wn_ld (pc' := 88) (q := 7) (kin := 0) (v := .int (nI (i + 1 + k))) rfl (fun _ _ _ => rfl) rfl rfl ?_
                    refine wn_pu (pc' := 89) (st' := [.int ((nI (1)) <<< ((nI (i + 1 + k)) &&& 31)), .int ((nI (1)) <<< ((nI (i)) &&& 31))]) rfl (fun _ _ _ => rfl) rfl rfl ?_
                    refine wn_pu (pc' := 90) (st' := [.int (((nI (1)) <<< ((nI (i)) &&& 31)) ||| ((nI (1)) <<< ((nI (i + 1 + k)) &&& 31)))]) rfl (fun _ _ _ => rfl) rfl rfl ?_
                    refine wn_st (pc' := 92) (q := 8) (kin := 0) (lv' := [(0, .ref (0)), (1, .int (nI (y9))), (2, .int (t)), (3, .int (hrW w)), (4, .int (nI ((nwI (fun x7 x8 => snW w y9 x7 x8 (nvW w)) i (nwO (fun x7 x8 => snW w y9 x7 x8 (nvW w)) (ntW w) i) k).1))), (5, .int ((nwI (fun x7 x8 => snW w y9 x7 x8 (nvW w)) i (nwO (fun x7 x8 => snW w y9 x7 x8 (nvW w)) (ntW w) i) k).2)), (6, .int (nI (i))), (7, .int (nI (i + 1 + k))), (8, .int (((nI (1)) <<< ((nI (i)) &&& 31)) ||| ((nI (1)) <<< ((nI (i + 1 + k)) &&& 31))))]) rfl (fun _ _ _ => rfl) rfl (Nat.le_of_ble_eq_true rfl) rfl ?_
                    refine wn_ld (pc' := 93) (q := 3) (kin := 0) (v := .int (hrW w)) rfl (fun _ _ _ => rfl) rfl rfl ?_
                    refine wn_ld (pc' := 95) (q := 8) (kin := 0) (v := .int (((nI (1)) <<< ((nI (i)) &&& 31)) ||| ((nI (1)) <<< ((nI (i + 1 + k)) &&& 31)))) rfl (fun _ _ _ => rfl) rfl rfl ?_
                    refine wn_pu (pc' := 96) (st' := [.int ((hrW w) &&& (((nI (1)) <<< ((nI (i)) &&& 31)) ||| ((nI (1)) <<< ((nI (i + 1 + k)) &&& 31))))]) rfl (fun _ _ _ => rfl) rfl rfl ?_
                    refine wn_ld (pc' := 98) (q := 8) (kin := 0) (v := .int (((nI (1)) <<< ((nI (i)) &&& 31)) ||| ((nI (1)) <<< ((nI (i + 1 + k)) &&& 31)))) rfl (fun _ _ _ => rfl) rfl rfl ?_
                    refine wn_icmp (t := 129) (f := 101) rfl rfl rfl (fun c13 => ?_) (fun c13 => ?_)
                    · have c13 : ¬ (((hrW w) &&& (((nI (1)) <<< ((nI (i)) &&& 31)) ||| ((nI (1)) <<< ((nI (i + 1 + k)) &&& 31))))) = ((((nI (1)) <<< ((nI (i)) &&& 31)) ||| ((nI (1)) <<< ((nI (i + 1 + k)) &&& 31)))) := c13
                      refine wn_incN (n := 1) (pc' := 132) (lv' := [(0, .ref (0)), (1, .int (nI (y9))), (2, .int (t)), (3, .int (hrW w)), (4, .int (nI ((nwI (fun x7 x8 => snW w y9 x7 x8 (nvW w)) i (nwO (fun x7 x8 => snW w y9 x7 x8 (nvW w)) (ntW w) i) k).1))), (5, .int ((nwI (fun x7 x8 => snW w y9 x7 x8 (nvW w)) i (nwO (fun x7 x8 => snW w y9 x7 x8 (nvW w)) (ntW w) i) k).2)), (6, .int (nI (i))), (7, .int (nI (i + 1 + k + 1))), (8, .int (((nI (1)) <<< ((nI (i)) &&& 31)) ||| ((nI (1)) <<< ((nI (i + 1 + k)) &&& 31))))]) rfl rfl rfl (Nat.le_of_ble_eq_true rfl) rfl (by decide) ?_
                      refine wn_jp (pc' := 66) rfl rfl ?_
                      refine wn_weak (lv' := [(0, .ref (0)), (1, .int (nI (y9))), (2, .int (t)), (3, .int (hrW w)), (4, .int (nI ((nwI (fun x7 x8 => snW w y9 x7 x8 (nvW w)) i (nwO (fun x7 x8 => snW w y9 x7 x8 (nvW w)) (ntW w) i) k).1))), (5, .int ((nwI (fun x7 x8 => snW w y9 x7 x8 (nvW w)) i (nwO (fun x7 x8 => snW w y9 x7 x8 (nvW w)) (ntW w) i) k).2)), (6, .int (nI (i))), (7, .int (nI (i + 1 + k + 1)))]) (by simp) ?_
                      have z9 := ih_lp11 (k + 1) (by omega) (by omega)
                      rw [show (nI ((nwI (fun x7 x8 => snW w y9 x7 x8 (nvW w)) i (nwO (fun x7 x8 => snW w y9 x7 x8 (nvW w)) (ntW w) i) (k + 1)).1)) = (nI ((nwI (fun x7 x8 => snW w y9 x7 x8 (nvW w)) i (nwO (fun x7 x8 => snW w y9 x7 x8 (nvW w)) (ntW w) i) k).1)) from (by exact (congrArg (fun q => nI q.1) (nwI_f (p := (fun x7 x8 => snW w y9 x7 x8 (nvW w))) (Classical.not_not.mp (fun q => c13 ((nw_iff hWf (y := y9) (show i < ntW w by omega) (show i + 1 + k < ntW w by omega)).mpr q).1)))).trans rfl)] at z9
                      rw [show ((nwI (fun x7 x8 => snW w y9 x7 x8 (nvW w)) i (nwO (fun x7 x8 => snW w y9 x7 x8 (nvW w)) (ntW w) i) (k + 1)).2) = ((nwI (fun x7 x8 => snW w y9 x7 x8 (nvW w)) i (nwO (fun x7 x8 => snW w y9 x7 x8 (nvW w)) (ntW w) i) k).2) from (by exact (congrArg Prod.snd (nwI_f (p := (fun x7 x8 => snW w y9 x7 x8 (nvW w))) (Classical.not_not.mp (fun q => c13 ((nw_iff hWf (y := y9) (show i < ntW w by omega) (show i + 1 + k < ntW w by omega)).mpr q).1)))).trans rfl)] at z9
                      rw [show (nI (i + 1 + (k + 1))) = (nI (i + 1 + k + 1)) from (by rfl)] at z9
                      exact z9
                    · have c13 : (((hrW w) &&& (((nI (1)) <<< ((nI (i)) &&& 31)) ||| ((nI (1)) <<< ((nI (i + 1 + k)) &&& 31))))) = ((((nI (1)) <<< ((nI (i)) &&& 31)) ||| ((nI (1)) <<< ((nI (i + 1 + k)) &&& 31)))) := c13
                      refine wn_ld (pc' := 102) (q := 0) (kin := 2) (v := .ref (0)) rfl (fun _ _ _ => rfl) rfl rfl ?_
                      refine wn_ld (pc' := 104) (q := 8) (kin := 0) (v := .int (((nI (1)) <<< ((nI (i)) &&& 31)) ||| ((nI (1)) <<< ((nI (i + 1 + k)) &&& 31)))) rfl (fun _ _ _ => rfl) rfl rfl ?_
                      refine wn_virI (pc' := 107) rfl rfl (by decide) rfl rfl v1_h6 (Nat.le_of_ble_eq_true rfl) (x_anyFits _ _ ls w hWf V_h6 y9 _ i_h6 (fun v9 q9 => fv_h6 v9 q9) (((nI (1)) <<< ((nI (i)) &&& 31)) ||| ((nI (1)) <<< ((nI (i + 1 + k)) &&& 31)))) ?_
                      refine wn_ifneB (t := 129) (f := 110) rfl rfl rfl (fun c14 => ?_) (fun c14 => ?_)
                      · have c14 : (∃ v, v < nvW w ∧ fiW w y9 v &&& (((nI (1)) <<< ((nI (i)) &&& 31)) ||| ((nI (1)) <<< ((nI (i + 1 + k)) &&& 31))) = (((nI (1)) <<< ((nI (i)) &&& 31)) ||| ((nI (1)) <<< ((nI (i + 1 + k)) &&& 31)))) := c14
                        refine wn_incN (n := 1) (pc' := 132) (lv' := [(0, .ref (0)), (1, .int (nI (y9))), (2, .int (t)), (3, .int (hrW w)), (4, .int (nI ((nwI (fun x7 x8 => snW w y9 x7 x8 (nvW w)) i (nwO (fun x7 x8 => snW w y9 x7 x8 (nvW w)) (ntW w) i) k).1))), (5, .int ((nwI (fun x7 x8 => snW w y9 x7 x8 (nvW w)) i (nwO (fun x7 x8 => snW w y9 x7 x8 (nvW w)) (ntW w) i) k).2)), (6, .int (nI (i))), (7, .int (nI (i + 1 + k + 1))), (8, .int (((nI (1)) <<< ((nI (i)) &&& 31)) ||| ((nI (1)) <<< ((nI (i + 1 + k)) &&& 31))))]) rfl rfl rfl (Nat.le_of_ble_eq_true rfl) rfl (by decide) ?_
                        refine wn_jp (pc' := 66) rfl rfl ?_
                        refine wn_weak (lv' := [(0, .ref (0)), (1, .int (nI (y9))), (2, .int (t)), (3, .int (hrW w)), (4, .int (nI ((nwI (fun x7 x8 => snW w y9 x7 x8 (nvW w)) i (nwO (fun x7 x8 => snW w y9 x7 x8 (nvW w)) (ntW w) i) k).1))), (5, .int ((nwI (fun x7 x8 => snW w y9 x7 x8 (nvW w)) i (nwO (fun x7 x8 => snW w y9 x7 x8 (nvW w)) (ntW w) i) k).2)), (6, .int (nI (i))), (7, .int (nI (i + 1 + k + 1)))]) (by simp) ?_
                        have z9 := ih_lp11 (k + 1) (by omega) (by omega)
                        rw [show (nI ((nwI (fun x7 x8 => snW w y9 x7 x8 (nvW w)) i (nwO (fun x7 x8 => snW w y9 x7 x8 (nvW w)) (ntW w) i) (k + 1)).1)) = (nI ((nwI (fun x7 x8 => snW w y9 x7 x8 (nvW w)) i (nwO (fun x7 x8 => snW w y9 x7 x8 (nvW w)) (ntW w) i) k).1)) from (by exact (congrArg (fun q => nI q.1) (nwI_f (p := (fun x7 x8 => snW w y9 x7 x8 (nvW w))) (Classical.not_not.mp (fun q => ((nw_iff hWf (y := y9) (show i < ntW w by omega) (show i + 1 + k < ntW w by omega)).mpr q).2 c14)))).trans rfl)] at z9
                        rw [show ((nwI (fun x7 x8 => snW w y9 x7 x8 (nvW w)) i (nwO (fun x7 x8 => snW w y9 x7 x8 (nvW w)) (ntW w) i) (k + 1)).2) = ((nwI (fun x7 x8 => snW w y9 x7 x8 (nvW w)) i (nwO (fun x7 x8 => snW w y9 x7 x8 (nvW w)) (ntW w) i) k).2) from (by exact (congrArg Prod.snd (nwI_f (p := (fun x7 x8 => snW w y9 x7 x8 (nvW w))) (Classical.not_not.mp (fun q => ((nw_iff hWf (y := y9) (show i < ntW w by omega) (show i + 1 + k < ntW w by omega)).mpr q).2 c14)))).trans rfl)] at z9
                        rw [show (nI (i + 1 + (k + 1))) = (nI (i + 1 + k + 1)) from (by rfl)] at z9
                        exact z9
                      · have c14 : ¬ (∃ v, v < nvW w ∧ fiW w y9 v &&& (((nI (1)) <<< ((nI (i)) &&& 31)) ||| ((nI (1)) <<< ((nI (i + 1 + k)) &&& 31))) = (((nI (1)) <<< ((nI (i)) &&& 31)) ||| ((nI (1)) <<< ((nI (i + 1 + k)) &&& 31)))) := c14
                        refine wn_incN (n := 1) (pc' := 113) (lv' := [(0, .ref (0)), (1, .int (nI (y9))), (2, .int (t)), (3, .int (hrW w)), (4, .int (nI ((nwI (fun x7 x8 => snW w y9 x7 x8 (nvW w)) i (nwO (fun x7 x8 => snW w y9 x7 x8 (nvW w)) (ntW w) i) k).1 + 1))), (5, .int ((nwI (fun x7 x8 => snW w y9 x7 x8 (nvW w)) i (nwO (fun x7 x8 => snW w y9 x7 x8 (nvW w)) (ntW w) i) k).2)), (6, .int (nI (i))), (7, .int (nI (i + 1 + k))), (8, .int (((nI (1)) <<< ((nI (i)) &&& 31)) ||| ((nI (1)) <<< ((nI (i + 1 + k)) &&& 31))))]) rfl rfl rfl (Nat.le_of_ble_eq_true rfl) rfl (by decide) ?_
                        refine wn_ld (pc' := 115) (q := 5) (kin := 0) (v := .int ((nwI (fun x7 x8 => snW w y9 x7 x8 (nvW w)) i (nwO (fun x7 x8 => snW w y9 x7 x8 (nvW w)) (ntW w) i) k).2)) rfl (fun _ _ _ => rfl) rfl rfl ?_
                        refine wn_ic (pc' := 116) (w := -1) rfl rfl (by decide) ?_
                        refine wn_icmp (t := 129) (f := 119) rfl rfl rfl (fun c15 => ?_) (fun c15 => ?_)
                        · have c15 : ¬ (((nwI (fun x7 x8 => snW w y9 x7 x8 (nvW w)) i (nwO (fun x7 x8 => snW w y9 x7 x8 (nvW w)) (ntW w) i) k).2)) = ((-1)) := c15
                          refine wn_incN (n := 1) (pc' := 132) (lv' := [(0, .ref (0)), (1, .int (nI (y9))), (2, .int (t)), (3, .int (hrW w)), (4, .int (nI ((nwI (fun x7 x8 => snW w y9 x7 x8 (nvW w)) i (nwO (fun x7 x8 => snW w y9 x7 x8 (nvW w)) (ntW w) i) k).1 + 1))), (5, .int ((nwI (fun x7 x8 => snW w y9 x7 x8 (nvW w)) i (nwO (fun x7 x8 => snW w y9 x7 x8 (nvW w)) (ntW w) i) k).2)), (6, .int (nI (i))), (7, .int (nI (i + 1 + k + 1))), (8, .int (((nI (1)) <<< ((nI (i)) &&& 31)) ||| ((nI (1)) <<< ((nI (i + 1 + k)) &&& 31))))]) rfl rfl rfl (Nat.le_of_ble_eq_true rfl) rfl (by decide) ?_
                          refine wn_jp (pc' := 66) rfl rfl ?_
                          refine wn_weak (lv' := [(0, .ref (0)), (1, .int (nI (y9))), (2, .int (t)), (3, .int (hrW w)), (4, .int (nI ((nwI (fun x7 x8 => snW w y9 x7 x8 (nvW w)) i (nwO (fun x7 x8 => snW w y9 x7 x8 (nvW w)) (ntW w) i) k).1 + 1))), (5, .int ((nwI (fun x7 x8 => snW w y9 x7 x8 (nvW w)) i (nwO (fun x7 x8 => snW w y9 x7 x8 (nvW w)) (ntW w) i) k).2)), (6, .int (nI (i))), (7, .int (nI (i + 1 + k + 1)))]) (by simp) ?_
                          have z9 := ih_lp11 (k + 1) (by omega) (by omega)
                          rw [show (nI ((nwI (fun x7 x8 => snW w y9 x7 x8 (nvW w)) i (nwO (fun x7 x8 => snW w y9 x7 x8 (nvW w)) (ntW w) i) (k + 1)).1)) = (nI ((nwI (fun x7 x8 => snW w y9 x7 x8 (nvW w)) i (nwO (fun x7 x8 => snW w y9 x7 x8 (nvW w)) (ntW w) i) k).1 + 1)) from (by exact (congrArg (fun q => nI q.1) (nwI_b (p := (fun x7 x8 => snW w y9 x7 x8 (nvW w))) ((nw_iff hWf (y := y9) (show i < ntW w by omega) (show i + 1 + k < ntW w by omega)).mp ⟨c13, c14⟩) c15)).trans rfl)] at z9
                          rw [show ((nwI (fun x7 x8 => snW w y9 x7 x8 (nvW w)) i (nwO (fun x7 x8 => snW w y9 x7 x8 (nvW w)) (ntW w) i) (k + 1)).2) = ((nwI (fun x7 x8 => snW w y9 x7 x8 (nvW w)) i (nwO (fun x7 x8 => snW w y9 x7 x8 (nvW w)) (ntW w) i) k).2) from (by exact (congrArg Prod.snd (nwI_b (p := (fun x7 x8 => snW w y9 x7 x8 (nvW w))) ((nw_iff hWf (y := y9) (show i < ntW w by omega) (show i + 1 + k < ntW w by omega)).mp ⟨c13, c14⟩) c15)).trans rfl)] at z9
                          rw [show (nI (i + 1 + (k + 1))) = (nI (i + 1 + k + 1)) from (by rfl)] at z9
                          exact z9
                        · have c15 : (((nwI (fun x7 x8 => snW w y9 x7 x8 (nvW w)) i (nwO (fun x7 x8 => snW w y9 x7 x8 (nvW w)) (ntW w) i) k).2)) = ((-1)) := c15
                          refine wn_bp (pc' := 121) (w := nI 100) rfl rfl (by decide) ?_
                          refine wn_ld (pc' := 123) (q := 6) (kin := 0) (v := .int (nI (i))) rfl (fun _ _ _ => rfl) rfl rfl ?_
                          refine wn_mulN (pc' := 124) rfl rfl ?_
                          refine wn_ld (pc' := 126) (q := 7) (kin := 0) (v := .int (nI (i + 1 + k))) rfl (fun _ _ _ => rfl) rfl rfl ?_
                          refine wn_addN (pc' := 127) rfl rfl ?_
                          refine wn_st (pc' := 129) (q := 5) (kin := 0) (lv' := [(0, .ref (0)), (1, .int (nI (y9))), (2, .int (t)), (3, .int (hrW w)), (4, .int (nI ((nwI (fun x7 x8 => snW w y9 x7 x8 (nvW w)) i (nwO (fun x7 x8 => snW w y9 x7 x8 (nvW w)) (ntW w) i) k).1 + 1))), (5, .int (nI ((100 * i) + (i + 1 + k)))), (6, .int (nI (i))), (7, .int (nI (i + 1 + k))), (8, .int (((nI (1)) <<< ((nI (i)) &&& 31)) ||| ((nI (1)) <<< ((nI (i + 1 + k)) &&& 31))))]) rfl (fun _ _ _ => rfl) rfl (Nat.le_of_ble_eq_true rfl) rfl ?_
                          refine wn_incN (n := 1) (pc' := 132) (lv' := [(0, .ref (0)), (1, .int (nI (y9))), (2, .int (t)), (3, .int (hrW w)), (4, .int (nI ((nwI (fun x7 x8 => snW w y9 x7 x8 (nvW w)) i (nwO (fun x7 x8 => snW w y9 x7 x8 (nvW w)) (ntW w) i) k).1 + 1))), (5, .int (nI ((100 * i) + (i + 1 + k)))), (6, .int (nI (i))), (7, .int (nI (i + 1 + k + 1))), (8, .int (((nI (1)) <<< ((nI (i)) &&& 31)) ||| ((nI (1)) <<< ((nI (i + 1 + k)) &&& 31))))]) rfl rfl rfl (Nat.le_of_ble_eq_true rfl) rfl (by decide) ?_
                          refine wn_jp (pc' := 66) rfl rfl ?_
                          refine wn_weak (lv' := [(0, .ref (0)), (1, .int (nI (y9))), (2, .int (t)), (3, .int (hrW w)), (4, .int (nI ((nwI (fun x7 x8 => snW w y9 x7 x8 (nvW w)) i (nwO (fun x7 x8 => snW w y9 x7 x8 (nvW w)) (ntW w) i) k).1 + 1))), (5, .int (nI ((100 * i) + (i + 1 + k)))), (6, .int (nI (i))), (7, .int (nI (i + 1 + k + 1)))]) (by simp) ?_
                          have z9 := ih_lp11 (k + 1) (by omega) (by omega)
                          rw [show (nI ((nwI (fun x7 x8 => snW w y9 x7 x8 (nvW w)) i (nwO (fun x7 x8 => snW w y9 x7 x8 (nvW w)) (ntW w) i) (k + 1)).1)) = (nI ((nwI (fun x7 x8 => snW w y9 x7 x8 (nvW w)) i (nwO (fun x7 x8 => snW w y9 x7 x8 (nvW w)) (ntW w) i) k).1 + 1)) from (by exact (congrArg (fun q => nI q.1) (nwI_a (p := (fun x7 x8 => snW w y9 x7 x8 (nvW w))) ((nw_iff hWf (y := y9) (show i < ntW w by omega) (show i + 1 + k < ntW w by omega)).mp ⟨c13, c14⟩) c15)).trans rfl)] at z9
                          rw [show ((nwI (fun x7 x8 => snW w y9 x7 x8 (nvW w)) i (nwO (fun x7 x8 => snW w y9 x7 x8 (nvW w)) (ntW w) i) (k + 1)).2) = (nI ((100 * i) + (i + 1 + k))) from (by exact (congrArg Prod.snd (nwI_a (p := (fun x7 x8 => snW w y9 x7 x8 (nvW w))) ((nw_iff hWf (y := y9) (show i < ntW w by omega) (show i + 1 + k < ntW w by omega)).mp ⟨c13, c14⟩) c15)).trans rfl)] at z9
                          rw [show (nI (i + 1 + (k + 1))) = (nI (i + 1 + k + 1)) from (by rfl)] at z9
                          exact z9
              refine wn_weak (lv' := [(0, .ref (0)), (1, .int (nI (y9))), (2, .int (t)), (3, .int (hrW w)), (4, .int (nI ((nwO (fun x7 x8 => snW w y9 x7 x8 (nvW w)) (ntW w) i).1))), (5, .int ((nwO (fun x7 x8 => snW w y9 x7 x8 (nvW w)) (ntW w) i).2)), (6, .int (nI (i))), (7, .int (nI (i + 1)))]) (by simp) ?_
              have z9 := lp11 ((ntW w) + 1) 0 (by omega) (by omega)
              rw [show (nI ((nwI (fun x7 x8 => snW w y9 x7 x8 (nvW w)) i (nwO (fun x7 x8 => snW w y9 x7 x8 (nvW w)) (ntW w) i) 0).1)) = (nI ((nwO (fun x7 x8 => snW w y9 x7 x8 (nvW w)) (ntW w) i).1)) from (by rfl)] at z9
              rw [show ((nwI (fun x7 x8 => snW w y9 x7 x8 (nvW w)) i (nwO (fun x7 x8 => snW w y9 x7 x8 (nvW w)) (ntW w) i) 0).2) = ((nwO (fun x7 x8 => snW w y9 x7 x8 (nvW w)) (ntW w) i).2) from (by rfl)] at z9
              rw [show (nI (i + 1 + 0)) = (nI (i + 1)) from (by rfl)] at z9
              exact z9
        refine wn_weak (lv' := [(0, .ref (0)), (1, .int (nI (y9))), (2, .int (t)), (3, .int (hrW w)), (4, .int (nI (0))), (5, .int (-1)), (6, .int (nI (0)))]) (by simp) ?_
        have z9 := lp8 ((ntW w) + 1) 0 (by omega) (by omega)
        rw [show (nI ((nwO (fun x7 x8 => snW w y9 x7 x8 (nvW w)) (ntW w) 0).1)) = (nI (0)) from (by rfl)] at z9
        rw [show ((nwO (fun x7 x8 => snW w y9 x7 x8 (nvW w)) (ntW w) 0).2) = (-1) from (by rfl)] at z9
        exact z9
      · have c5 : ¬ (iin y 61) := c5
        refine wn_bp (pc' := 19) (w := -2) rfl rfl (by decide) ?_
        have en1 : (nI 1).toInt = 1 := by decide
        try simp only [Int32.lt_iff_toInt_lt, Int32.le_iff_toInt_le, i2l_int, Int32.toInt_zero, iin] at c1
        try simp only [Int32.lt_iff_toInt_lt, Int32.le_iff_toInt_le, i2l_int, Int32.toInt_zero, iin] at c2
        try simp only [Int32.lt_iff_toInt_lt, Int32.le_iff_toInt_le, i2l_int, Int32.toInt_zero, iin] at c5
        refine wn_iret rfl rfl rfl ⟨congrArg (fun z => some (Value.int z)) ?_, (RY.rx RY_h3 R0.2.2.2)⟩
        unfold nowhereA
        rw [qI_f (by simp only [iin]; omega)]

theorem case_26 (y : Int32) (t : Int32) : CaseI Rp 107 217 [.int y, .int t] := case_q (fun h ls w hWf V R => ⟨_, x_nowhere 693 h ls w hWf V R y t, fun h1 HQ => m_nowhere 690 h1 w hWf HQ y t⟩)
