/-! the reference: what is heard and noted -/
theorem m_isHeard (d : Nat) (h : aH) (w : Nat → Int32) (H : MH h w) (i : Nat) (hi : i < 10) : Rn (d + 2) 203 [.ref (71), .int (nI (i))] h (some (.int (bI (¬ w (178 + 4 * i) = -1)))) h 0 0 := by
  have HM := H
  obtain ⟨th, tp, sz, at9, fr, tk, vl, fk, fp, il, up, lo, hM, hW⟩ := H
  refine Rn_of (by decide) (Nat.le_of_ble_eq_true rfl) ?_
  show Wn _ _ 0 [(0, .ref (71)), (1, .int (nI (i)))] [] _ _
  refine wn_ld (pc' := 1) (q := 0) (kin := 2) (v := .ref (71)) rfl (fun _ _ _ => rfl) rfl rfl ?_
  refine wn_ld (pc' := 2) (q := 1) (kin := 0) (v := .int (nI (i))) rfl (fun _ _ _ => rfl) rfl rfl ?_
  refine wn_ic (pc' := 3) (w := nI 2) rfl rfl (by decide) ?_
  refine wn_virI (pc' := 6) rfl rfl (by decide) rfl rfl hM (Nat.le_of_ble_eq_true rfl) (m_ofItem _ _ w HM i 2 (by omega)) ?_
  rw [show 176 + 4 * i + 2 = 178 + 4 * i by omega]
  refine wn_ic (pc' := 7) (w := -1) rfl rfl (by decide) ?_
  refine wn_icmp (t := 14) (f := 10) rfl rfl rfl (fun c1 => ?_) (fun c1 => ?_)
  · have c1 : ((w (178 + 4 * i))) = ((-1)) := c1
    refine wn_ic (pc' := 15) (w := nI 0) rfl rfl (by decide) ?_
    refine wn_iret rfl rfl (by decide) ⟨?_, rfl⟩
    exact congrArg (fun z => some (Value.int z)) (bI_f0 (fun q => q c1))
  · have c1 : ¬ ((w (178 + 4 * i))) = ((-1)) := c1
    refine wn_ic (pc' := 11) (w := nI 1) rfl rfl (by decide) ?_
    refine wn_jp (pc' := 15) rfl rfl ?_
    refine wn_iret rfl rfl (by decide) ⟨?_, rfl⟩
    exact congrArg (fun z => some (Value.int z)) (bI_t1 c1)
theorem m_heardMany (d : Nat) (h : aH) (w : Nat → Int32) (H : MH h w) (hn : w 3 = nI (ntW w)) (h10 : ntW w ≤ 10) : Rn (d + 3) 204 [.ref (71)] h (some (.int (nI (hdN w (ntW w))))) h 0 0 := by
  have HM := H
  obtain ⟨th, tp, sz, at9, fr, tk, vl, fk, fp, il, up, lo, hM, hW⟩ := H
  refine Rn_of (by decide) (Nat.le_of_ble_eq_true rfl) ?_
  show Wn _ _ 0 [(0, .ref (71))] [] _ _
  refine wn_ic (pc' := 1) (w := nI 0) rfl rfl (by decide) ?_
  refine wn_st (pc' := 2) (q := 1) (kin := 0) (lv' := [(0, .ref (71)), (1, .int (nI (0)))]) rfl (fun _ _ _ => rfl) rfl (Nat.le_of_ble_eq_true rfl) rfl ?_
  refine wn_ic (pc' := 3) (w := nI 0) rfl rfl (by decide) ?_
  refine wn_st (pc' := 4) (q := 2) (kin := 0) (lv' := [(0, .ref (71)), (1, .int (nI (0))), (2, .int (nI (0)))]) rfl (fun _ _ _ => rfl) rfl (Nat.le_of_ble_eq_true rfl) rfl ?_
  suffices lp1 : ∀ (n : Nat) (k : Nat), (ntW w) + 1 ≤ k + n → k ≤ ntW w → Wn (Rn (d + 2)) 204 4 [(0, .ref (71)), (1, .int (nI (hdN w k))), (2, .int (nI (k)))] [] (h) (fun r h9 => r = some (.int (nI (hdN w (ntW w)))) ∧ h9 = h) by
    refine wn_weak (lv' := [(0, .ref (71)), (1, .int (nI (0))), (2, .int (nI (0)))]) (by simp) ?_
    exact lp1 ((ntW w) + 1) 0 (by omega) (Nat.zero_le _)
  intro n
  induction n with
  | zero => intro k hm hk; exfalso; omega
  | succ n ih =>
    intro k hm hk
    refine wn_ld (pc' := 5) (q := 2) (kin := 0) (v := .int (nI (k))) rfl (fun _ _ _ => rfl) rfl rfl ?_
    refine wn_ld (pc' := 6) (q := 0) (kin := 2) (v := .ref (71)) rfl (fun _ _ _ => rfl) rfl rfl ?_
    refine wn_get (pc' := 9) (v := .ref (72)) rfl rfl hM rfl ?_
    refine wn_ic (pc' := 10) (w := nI 3) rfl rfl (by decide) ?_
    refine wn_iald (pc' := 11) (j := 3) rfl rfl hW rfl (by omega) (by decide) ?_
    rw [hn]
    refine wn_icmpN (t := 36) (f := 14) rfl rfl rfl (by omega) (by omega) (fun c2 => ?_) (fun c2 => ?_)
    · have c2 : (ntW w) ≤ k := c2
      refine wn_ld (pc' := 37) (q := 1) (kin := 0) (v := .int (nI (hdN w k))) rfl (fun _ _ _ => rfl) rfl rfl ?_
      have e9 : k = ntW w := by omega
      subst e9
      exact wn_iret rfl rfl rfl ⟨rfl, rfl⟩
    · have c2 : k < (ntW w) := c2
      refine wn_ld (pc' := 15) (q := 1) (kin := 0) (v := .int (nI (hdN w k))) rfl (fun _ _ _ => rfl) rfl rfl ?_
      refine wn_ld (pc' := 16) (q := 0) (kin := 2) (v := .ref (71)) rfl (fun _ _ _ => rfl) rfl rfl ?_
      refine wn_ld (pc' := 17) (q := 2) (kin := 0) (v := .int (nI (k))) rfl (fun _ _ _ => rfl) rfl rfl ?_
      refine wn_virI (pc' := 20) rfl rfl (by decide) rfl rfl hM (Nat.le_of_ble_eq_true rfl) (m_isHeard _ _ w HM k (by omega)) ?_
      refine wn_ifeqB (t := 27) (f := 23) rfl rfl rfl (fun c3 => ?_) (fun c3 => ?_)
      · have c3 : ¬ (¬ w (178 + 4 * k) = -1) := c3
        refine wn_ic (pc' := 28) (w := nI 0) rfl rfl (by decide) ?_
        refine wn_addN (pc' := 29) rfl rfl ?_
        refine wn_st (pc' := 30) (q := 1) (kin := 0) (lv' := [(0, .ref (71)), (1, .int (nI ((hdN w k) + 0))), (2, .int (nI (k)))]) rfl (fun _ _ _ => rfl) rfl (Nat.le_of_ble_eq_true rfl) rfl ?_
        refine wn_incN (n := 1) (pc' := 33) (lv' := [(0, .ref (71)), (1, .int (nI ((hdN w k) + 0))), (2, .int (nI (k + 1)))]) rfl rfl rfl (Nat.le_of_ble_eq_true rfl) rfl (by decide) ?_
        refine wn_jp (pc' := 4) rfl rfl ?_
        have e9 : hdN w (k + 1) = (hdN w k) + 0 := by
          show hdN w k + _ = _
          rw [if_pos (Classical.not_not.mp c3)]
        refine wn_weak (lv' := [(0, .ref (71)), (1, .int (nI ((hdN w k) + 0))), (2, .int (nI (k + 1)))]) (by simp) ?_
        have z9 := ih (k + 1) (by omega) (by omega)
        rw [e9] at z9
        exact z9
      · have c3 : (¬ w (178 + 4 * k) = -1) := c3
        refine wn_ic (pc' := 24) (w := nI 1) rfl rfl (by decide) ?_
        refine wn_jp (pc' := 28) rfl rfl ?_
        refine wn_addN (pc' := 29) rfl rfl ?_
        refine wn_st (pc' := 30) (q := 1) (kin := 0) (lv' := [(0, .ref (71)), (1, .int (nI ((hdN w k) + 1))), (2, .int (nI (k)))]) rfl (fun _ _ _ => rfl) rfl (Nat.le_of_ble_eq_true rfl) rfl ?_
        refine wn_incN (n := 1) (pc' := 33) (lv' := [(0, .ref (71)), (1, .int (nI ((hdN w k) + 1))), (2, .int (nI (k + 1)))]) rfl rfl rfl (Nat.le_of_ble_eq_true rfl) rfl (by decide) ?_
        refine wn_jp (pc' := 4) rfl rfl ?_
        have e9 : hdN w (k + 1) = (hdN w k) + 1 := by
          show hdN w k + _ = _
          rw [if_neg c3]
        refine wn_weak (lv' := [(0, .ref (71)), (1, .int (nI ((hdN w k) + 1))), (2, .int (nI (k + 1)))]) (by simp) ?_
        have z9 := ih (k + 1) (by omega) (by omega)
        rw [e9] at z9
        exact z9
