/-! THE REFERENCE'S questions, second part: ways, the fewest items, what fits -/
theorem m_ones (d : Nat) (h : aH) (b : Int32) : Rn (d + 1) 142 [.int (b)] h (some (.int (nI (cntP (fun k => bt b k = true) 24)))) h 0 0 := by
  refine Rn_of (by decide) (Nat.le_of_ble_eq_true rfl) ?_
  show Wn _ _ 0 [(0, .int (b))] [] _ _
  refine wn_ic (pc' := 1) (w := nI 0) rfl rfl (by decide) ?_
  refine wn_st (pc' := 2) (q := 1) (kin := 0) (lv' := [(0, .int (b)), (1, .int (nI (0)))]) rfl (fun _ _ _ => rfl) rfl (Nat.le_of_ble_eq_true rfl) rfl ?_
  refine wn_ic (pc' := 3) (w := nI 0) rfl rfl (by decide) ?_
  refine wn_st (pc' := 4) (q := 2) (kin := 0) (lv' := [(0, .int (b)), (1, .int (nI (0))), (2, .int (nI (0)))]) rfl (fun _ _ _ => rfl) rfl (Nat.le_of_ble_eq_true rfl) rfl ?_
  have lp1 : ∀ (n_lp1 : Nat) (k : Nat), 24 + 1 ≤ k + n_lp1 → k ≤ 24 → Wn (Rn (d + 0)) 142 4 [(0, .int (b)), (1, .int (nI (cntP (fun x7 => bt b x7 = true) k))), (2, .int (nI (k)))] [] (h) (fun r9 h9 => r9 = (some (.int (nI (cntP (fun k => bt b k = true) 24)))) ∧ h9 = h) := by
    intro n_lp1
    induction n_lp1 with
    | zero => intro k hm_lp1 hk; exfalso; omega
    | succ n_lp1 ih_lp1 =>
      intro k hm_lp1 hk
      refine wn_ld (pc' := 5) (q := 2) (kin := 0) (v := .int (nI (k))) rfl (fun _ _ _ => rfl) rfl rfl ?_
      refine wn_bp (pc' := 7) (w := nI 24) rfl rfl (by decide) ?_
      refine wn_icmpN (t := 24) (f := 10) rfl rfl rfl (by omega) (by omega) (fun c2 => ?_) (fun c2 => ?_)
      · have c2 : 24 ≤ k := c2
        obtain rfl : k = 24 := by omega
        refine wn_ld (pc' := 25) (q := 1) (kin := 0) (v := .int (nI (cntP (fun x7 => bt b x7 = true) 24))) rfl (fun _ _ _ => rfl) rfl rfl ?_
        refine wn_iret rfl rfl rfl ⟨?_, rfl⟩
        exact congrArg (fun z => some (Value.int z)) (rfl)
      · have c2 : k < 24 := c2
        refine wn_ld (pc' := 11) (q := 1) (kin := 0) (v := .int (nI (cntP (fun x7 => bt b x7 = true) k))) rfl (fun _ _ _ => rfl) rfl rfl ?_
        refine wn_ld (pc' := 12) (q := 0) (kin := 0) (v := .int (b)) rfl (fun _ _ _ => rfl) rfl rfl ?_
        refine wn_ld (pc' := 13) (q := 2) (kin := 0) (v := .int (nI (k))) rfl (fun _ _ _ => rfl) rfl rfl ?_
        refine wn_pu (pc' := 14) (st' := [.int ((b) >>> ((nI (k)) &&& 31)), .int (nI (cntP (fun x7 => bt b x7 = true) k))]) rfl (fun _ _ _ => rfl) rfl rfl ?_
        refine wn_ic (pc' := 15) (w := nI 1) rfl rfl (by decide) ?_
        refine wn_pu (pc' := 16) (st' := [.int (((b) >>> ((nI (k)) &&& 31)) &&& (nI (1))), .int (nI (cntP (fun x7 => bt b x7 = true) k))]) rfl (fun _ _ _ => rfl) rfl rfl ?_
        rw [tst_b (show k < 31 by omega)]
        refine wn_pu (pc' := 17) (st' := [.int ((nI (cntP (fun x7 => bt b x7 = true) k)) + (bI (bt b k = true)))]) rfl (fun _ _ _ => rfl) rfl rfl ?_
        refine wn_st (pc' := 18) (q := 1) (kin := 0) (lv' := [(0, .int (b)), (1, .int ((nI (cntP (fun x7 => bt b x7 = true) k)) + (bI (bt b k = true)))), (2, .int (nI (k)))]) rfl (fun _ _ _ => rfl) rfl (Nat.le_of_ble_eq_true rfl) rfl ?_
        refine wn_incN (n := 1) (pc' := 21) (lv' := [(0, .int (b)), (1, .int ((nI (cntP (fun x7 => bt b x7 = true) k)) + (bI (bt b k = true)))), (2, .int (nI (k + 1)))]) rfl rfl rfl (Nat.le_of_ble_eq_true rfl) rfl (by decide) ?_
        refine wn_jp (pc' := 4) rfl rfl ?_
        refine wn_weak (lv' := [(0, .int (b)), (1, .int ((nI (cntP (fun x7 => bt b x7 = true) k)) + (bI (bt b k = true)))), (2, .int (nI (k + 1)))]) (by simp) ?_
        have z9 := ih_lp1 (k + 1) (by omega) (by omega)
        rw [show (nI (cntP (fun x7 => bt b x7 = true) (k + 1))) = ((nI (cntP (fun x7 => bt b x7 = true) k)) + (bI (bt b k = true))) from (by exact cnt_add (fun x7 => bt b x7 = true) k)] at z9
        exact z9
  refine wn_weak (lv' := [(0, .int (b)), (1, .int (nI (0))), (2, .int (nI (0)))]) (by simp) ?_
  have z9 := lp1 (24 + 1) 0 (by omega) (by omega)
  rw [show (nI (cntP (fun x7 => bt b x7 = true) 0)) = (nI (0)) from (by rfl)] at z9
  exact z9

theorem m_ways (d : Nat) (h : aH) (n k : Nat) (hn : n ≤ 40) (hk : k ≤ 100) : Rn (d + 1) 196 [.int (nI (n)), .int (nI (k))] h (some (.long (lN (chs n k)))) h 0 0 := by
  refine Rn_of (by decide) (Nat.le_of_ble_eq_true rfl) ?_
  show Wn _ _ 0 [(0, .int (nI (n))), (1, .int (nI (k)))] [] _ _
  refine wn_ld (pc' := 1) (q := 1) (kin := 0) (v := .int (nI (k))) rfl (fun _ _ _ => rfl) rfl rfl ?_
  refine wn_ifN (t := 9) (f := 4) rfl rfl rfl (by omega) (fun c1 => ?_) (fun c1 => ?_)
  · have c1 : k < 0 := c1
    refine wn_pu (pc' := 10) (st' := .long (lN 0) :: []) rfl (fun _ _ _ => rfl) rfl rfl ?_
    refine wn_lret rfl rfl ⟨congrArg (fun z => some (Value.long z)) ?_, rfl⟩
    rw [chs_gt n k (by omega)]
  · have c1 : 0 ≤ k := c1
    refine wn_ld (pc' := 5) (q := 1) (kin := 0) (v := .int (nI (k))) rfl (fun _ _ _ => rfl) rfl rfl ?_
    refine wn_ld (pc' := 6) (q := 0) (kin := 0) (v := .int (nI (n))) rfl (fun _ _ _ => rfl) rfl rfl ?_
    refine wn_icmpN (t := 11) (f := 9) rfl rfl rfl (by omega) (by omega) (fun c2 => ?_) (fun c2 => ?_)
    · have c2 : k ≤ n := c2
      refine wn_pu (pc' := 12) (st' := .long (lN 1) :: []) rfl (fun _ _ _ => rfl) rfl rfl ?_
      refine wn_st (pc' := 13) (q := 2) (kin := 1) (lv' := [(0, .int (nI (n))), (1, .int (nI (k))), (2, .long (lN 1))]) rfl (fun _ _ _ => rfl) rfl (Nat.le_of_ble_eq_true rfl) rfl ?_
      refine wn_ic (pc' := 14) (w := nI 1) rfl rfl (by decide) ?_
      refine wn_st (pc' := 16) (q := 4) (kin := 0) (lv' := [(0, .int (nI (n))), (1, .int (nI (k))), (2, .long (lN 1)), (4, .int (nI (1)))]) rfl (fun _ _ _ => rfl) rfl (Nat.le_of_ble_eq_true rfl) rfl ?_
      have lp3 : ∀ (n_lp3 : Nat) (i : Nat), k + 1 ≤ i + n_lp3 → i ≤ k → Wn (Rn (d + 0)) 196 16 [(0, .int (nI (n))), (1, .int (nI (k))), (2, .long (lN (chs (n - k + i) i))), (4, .int (nI (i + 1)))] [] (h) (fun r9 h9 => r9 = (some (.long (lN (chs n k)))) ∧ h9 = h) := by
        intro n_lp3
        induction n_lp3 with
        | zero => intro i hm_lp3 hi; exfalso; omega
        | succ n_lp3 ih_lp3 =>
          intro i hm_lp3 hi
          refine wn_ld (pc' := 18) (q := 4) (kin := 0) (v := .int (nI (i + 1))) rfl (fun _ _ _ => rfl) rfl rfl ?_
          refine wn_ld (pc' := 19) (q := 1) (kin := 0) (v := .int (nI (k))) rfl (fun _ _ _ => rfl) rfl rfl ?_
          refine wn_icmpN (t := 42) (f := 22) rfl rfl rfl (by omega) (by omega) (fun c4 => ?_) (fun c4 => ?_)
          · have c4 : k < (i + 1) := c4
            refine wn_ld (pc' := 43) (q := 2) (kin := 1) (v := .long (lN (chs (n - k + i) i))) rfl (fun _ _ _ => rfl) rfl rfl ?_
            refine wn_lret rfl rfl ⟨congrArg (fun z => some (Value.long z)) ?_, rfl⟩
            obtain rfl : i = k := by omega
            rw [show n - i + i = n by omega]
          · have c4 : (i + 1) ≤ k := c4
            refine wn_ld (pc' := 23) (q := 2) (kin := 1) (v := .long (lN (chs (n - k + i) i))) rfl (fun _ _ _ => rfl) rfl rfl ?_
            refine wn_ld (pc' := 24) (q := 0) (kin := 0) (v := .int (nI (n))) rfl (fun _ _ _ => rfl) rfl rfl ?_
            refine wn_ld (pc' := 25) (q := 1) (kin := 0) (v := .int (nI (k))) rfl (fun _ _ _ => rfl) rfl rfl ?_
            refine wn_subN (pc' := 26) rfl rfl (by omega) ?_
            refine wn_ld (pc' := 28) (q := 4) (kin := 0) (v := .int (nI (i + 1))) rfl (fun _ _ _ => rfl) rfl rfl ?_
            refine wn_addN (pc' := 29) rfl rfl ?_
            refine wn_i2lN (pc' := 30) rfl rfl (by omega) ?_
            refine wn_lmulN (pc' := 31) rfl rfl ?_
            refine wn_ld (pc' := 33) (q := 4) (kin := 0) (v := .int (nI (i + 1))) rfl (fun _ _ _ => rfl) rfl rfl ?_
            refine wn_i2lN (pc' := 34) rfl rfl (by omega) ?_
            refine wn_ldivN (pc' := 35) rfl rfl (Nat.lt_of_le_of_lt (chs_mb i (by omega) (by omega)) (by decide)) (by omega) (by omega) ?_
            refine wn_st (pc' := 36) (q := 2) (kin := 1) (lv' := [(0, .int (nI (n))), (1, .int (nI (k))), (2, .long (lN (((((chs (n - k + i) i)) * (((n - k) + (i + 1))))) / ((i + 1))))), (4, .int (nI (i + 1)))]) rfl (fun _ _ _ => rfl) rfl (Nat.le_of_ble_eq_true rfl) rfl ?_
            refine wn_incN (n := 1) (pc' := 39) (lv' := [(0, .int (nI (n))), (1, .int (nI (k))), (2, .long (lN (((((chs (n - k + i) i)) * (((n - k) + (i + 1))))) / ((i + 1))))), (4, .int (nI (i + 1 + 1)))]) rfl rfl rfl (Nat.le_of_ble_eq_true rfl) rfl (by decide) ?_
            refine wn_jp (pc' := 16) rfl rfl ?_
            refine wn_weak (lv' := [(0, .int (nI (n))), (1, .int (nI (k))), (2, .long (lN (((((chs (n - k + i) i)) * (((n - k) + (i + 1))))) / ((i + 1))))), (4, .int (nI (i + 1 + 1)))]) (by simp) ?_
            have z9 := ih_lp3 (i + 1) (by omega) (by omega)
            rw [show (lN (chs (n - k + (i + 1)) (i + 1))) = (lN (((((chs (n - k + i) i)) * (((n - k) + (i + 1))))) / ((i + 1)))) from (by rw [show n - k + (i + 1) = (n - k + i) + 1 by omega, chs_q2 (show i ≤ n - k + i by omega)])] at z9
            rw [show (nI ((i + 1) + 1)) = (nI (i + 1 + 1)) from (by rfl)] at z9
            exact z9
      refine wn_weak (lv' := [(0, .int (nI (n))), (1, .int (nI (k))), (2, .long (lN 1)), (4, .int (nI (1)))]) (by simp) ?_
      have z9 := lp3 (k + 1) 0 (by omega) (by omega)
      rw [show (lN (chs (n - k + 0) 0)) = (lN 1) from (by rw [chs_0])] at z9
      rw [show (nI (0 + 1)) = (nI (1)) from (by rfl)] at z9
      exact z9
    · have c2 : n < k := c2
      refine wn_pu (pc' := 10) (st' := .long (lN 0) :: []) rfl (fun _ _ _ => rfl) rfl rfl ?_
      refine wn_lret rfl rfl ⟨congrArg (fun z => some (Value.long z)) ?_, rfl⟩
      rw [chs_gt n k (by omega)]

noncomputable def rvW (w : Nat → Int32) : Nat := cntP (fun k => w (58 + 3 * k) = 1) (nrW w)
noncomputable def lnN (w : Nat → Int32) (i y : Nat) : Nat := cntP (fun k => lnW w k i y) (nrW w)
noncomputable def boN (w : Nat → Int32) (i y : Nat) : Nat := cntP (fun k => (lnW w k i y) ∧ (w (58 + 3 * k) = 1)) (nrW w)
noncomputable def riverA (w : Nat → Int32) (i y t : Int32) : Int64 := qL (iin i (ntW w) ∧ iin y 61 ∧ iin t 3) (if t = 0 then lN (boN w i.toNatClampNeg y.toNatClampNeg) else if t = nI 2 then lN (chs (nrW w) (lnN w i.toNatClampNeg y.toNatClampNeg)) else lN (rvS (rvW w) (nrW w) (lnN w i.toNatClampNeg y.toNatClampNeg) (boN w i.toNatClampNeg y.toNatClampNeg) (lnN w i.toNatClampNeg y.toNatClampNeg + 1 - boN w i.toNatClampNeg y.toNatClampNeg))) (-2)
theorem cntP_im {p q : Nat → Prop} (n : Nat) (h : ∀ k, k < n → p k → q k) : cntP p n ≤ cntP q n := by
  induction n with
  | zero => exact Nat.le_refl _
  | succ n ih =>
    have ih := ih (fun k hk => h k (by omega))
    by_cases g : p n
    · rw [cntP_t g, cntP_t (h n (by omega) g)]; omega
    · rw [cntP_f g]
      by_cases g2 : q n
      · rw [cntP_t g2]; omega
      · rw [cntP_f g2]; exact ih
theorem cnt_b01 {p : Nat → Prop} {k : Nat} {x : Int32} (hx : x = bI (p k)) : nI (cntP p (k + 1)) = nI (cntP p k) + x := by rw [hx]; exact cnt_add p k
theorem cnt_and {p q : Nat → Prop} {k : Nat} {x : Int32} (hp : p k) (hx : x = bI (q k)) : nI (cntP (fun k => (p k) ∧ (q k)) (k + 1)) = nI (cntP (fun k => (p k) ∧ (q k)) k) + x := by
  rw [hx, show bI (q k) = bI ((fun k => (p k) ∧ (q k)) k) from bI_c ⟨fun g => ⟨hp, g⟩, fun g => g.2⟩]
  exact cnt_add _ k
theorem m_river (d : Nat) (h : aH) (w : Nat → Int32) (hWf : WfW w) (HQ : MQs h w) (i y t : Int32) : Sp (Rn (d + 10)) 197 [.ref (71), .int (i), .int (y), .int (t)] h (fun r9 h9 => r9 = some (.long (riverA w i y t)) ∧ RQ h h9 w) := by
  obtain ⟨⟨e1, e2⟩, ⟨e3, e4⟩, ⟨e5, e6⟩⟩ := Wf_n hWf
  obtain ⟨⟨e7, e8⟩, ⟨e9, e10⟩⟩ := Wf_m hWf
  have p2b := stN_le hWf
  obtain ⟨th, tp, sz, at9, fr, tk, vl, fk, fp, il, up, lo, sa9, tn, q0, q1, q2, q3, q4⟩ := id HQ
  refine Sp_of (by decide) (Nat.le_of_ble_eq_true rfl) ?_
  show Wn _ _ 0 [(0, .ref (71)), (1, .int (i)), (2, .int (y)), (3, .int (t))] [] _ _
  refine wn_ld (pc' := 1) (q := 0) (kin := 2) (v := .ref (71)) rfl (fun _ _ _ => rfl) rfl rfl ?_
  refine wn_ld (pc' := 2) (q := 1) (kin := 0) (v := .int (i)) rfl (fun _ _ _ => rfl) rfl rfl ?_
  refine wn_virI (pc' := 5) rfl rfl (by decide) rfl rfl q0 (Nat.le_of_ble_eq_true rfl) (m_isItem _ _ w HQ.mh _ e5 (by omega) _) ?_
  refine wn_ifeqB (t := 27) (f := 8) rfl rfl rfl (fun c1 => ?_) (fun c1 => ?_)
  · have c1 : ¬ (iin i (ntW w)) := c1
    refine wn_go (pc' := 30) (lv' := [(0, .ref (71)), (1, .int (i)), (2, .int (y)), (3, .int (t))]) (st' := [.long ((-2 : Int64))]) rfl (fun _ _ _ k9 => k9) ?_
    try simp only [Int32.lt_iff_toInt_lt, Int32.le_iff_toInt_le, i2l_int, Int32.toInt_zero, iin] at c1
    refine wn_lret rfl rfl ⟨congrArg (fun z => some (Value.long z)) ?_, (RQ.rfl' HQ)⟩
    unfold riverA
    rw [qL_f (by simp only [iin]; omega)]
  · have c1 : (iin i (ntW w)) := c1
    obtain ⟨i9, hi9, rfl⟩ := iin_of c1
    have ti_i := nI_toInt (n := i9) (show i9 < 2 ^ 31 by omega)
    have cl_i := nI_clamp (n := i9) (show i9 < 2 ^ 31 by omega)
    refine wn_ld (pc' := 9) (q := 2) (kin := 0) (v := .int (y)) rfl (fun _ _ _ => rfl) rfl rfl ?_
    refine wn_staI (pc' := 12) rfl rfl (by decide) rfl rfl (Nat.le_of_ble_eq_true rfl) (m_isYear _ _ _) ?_
    refine wn_ifeqB (t := 27) (f := 15) rfl rfl rfl (fun c2 => ?_) (fun c2 => ?_)
    · have c2 : ¬ (iin y 61) := c2
      refine wn_go (pc' := 30) (lv' := [(0, .ref (71)), (1, .int (nI (i9))), (2, .int (y)), (3, .int (t))]) (st' := [.long ((-2 : Int64))]) rfl (fun _ _ _ k9 => k9) ?_
      try simp only [Int32.lt_iff_toInt_lt, Int32.le_iff_toInt_le, i2l_int, Int32.toInt_zero, iin] at c1
      try simp only [Int32.lt_iff_toInt_lt, Int32.le_iff_toInt_le, i2l_int, Int32.toInt_zero, iin] at c2
      refine wn_lret rfl rfl ⟨congrArg (fun z => some (Value.long z)) ?_, (RQ.rfl' HQ)⟩
      unfold riverA
      rw [qL_f (by simp only [iin]; omega)]
    · have c2 : (iin y 61) := c2
      obtain ⟨y9, hy9, rfl⟩ := iin_of c2
      have ti_y := nI_toInt (n := y9) (show y9 < 2 ^ 31 by omega)
      have cl_y := nI_clamp (n := y9) (show y9 < 2 ^ 31 by omega)
      refine wn_ld (pc' := 16) (q := 3) (kin := 0) (v := .int (t)) rfl (fun _ _ _ => rfl) rfl rfl ?_
      refine wn_pu (pc' := 17) (st' := [.long (Int32.toInt64 (t))]) rfl (fun _ _ _ => rfl) rfl rfl ?_
      refine wn_pu (pc' := 18) (st' := .long (lN 0) :: [.long (Int32.toInt64 (t))]) rfl (fun _ _ _ => rfl) rfl rfl ?_
      refine wn_go (pc' := 21) (lv' := [(0, .ref (71)), (1, .int (nI (i9))), (2, .int (nI (y9))), (3, .int (t))]) (st' := [.long ((2 : Int64)), .long (lN 0), .long (Int32.toInt64 (t))]) rfl (fun _ _ _ k9 => k9) ?_
      refine wn_staI (pc' := 24) rfl rfl (by decide) rfl rfl (Nat.le_of_ble_eq_true rfl) (m_inK _ _ t 2 ((2 : Int64)) (by decide)) ?_
      refine wn_ifneB (t := 31) (f := 27) rfl rfl rfl (fun c3 => ?_) (fun c3 => ?_)
      · have c3 : (iin t 3) := c3
        obtain ⟨t9, ht9, rfl⟩ := iin_of c3
        have ti_t := nI_toInt (n := t9) (show t9 < 2 ^ 31 by omega)
        have cl_t := nI_clamp (n := t9) (show t9 < 2 ^ 31 by omega)
        refine wn_ld (pc' := 32) (q := 0) (kin := 2) (v := .ref (71)) rfl (fun _ _ _ => rfl) rfl rfl ?_
        refine wn_get (pc' := 35) (v := .ref (72)) rfl rfl q0 rfl ?_
        refine wn_ic (pc' := 36) (w := nI 2) rfl rfl (by decide) ?_
        refine wn_ialdv (pc' := 37) (j := 2) (v := (nI (nrW w))) rfl rfl q1 rfl (by omega) (by decide) (e3) ?_
        refine wn_st (pc' := 39) (q := 4) (kin := 0) (lv' := [(0, .ref (71)), (1, .int (nI (i9))), (2, .int (nI (y9))), (3, .int (nI (t9))), (4, .int (nI (nrW w)))]) rfl (fun _ _ _ => rfl) rfl (Nat.le_of_ble_eq_true rfl) rfl ?_
        refine wn_ic (pc' := 40) (w := nI 0) rfl rfl (by decide) ?_
        refine wn_st (pc' := 42) (q := 5) (kin := 0) (lv' := [(0, .ref (71)), (1, .int (nI (i9))), (2, .int (nI (y9))), (3, .int (nI (t9))), (4, .int (nI (nrW w))), (5, .int (nI (0)))]) rfl (fun _ _ _ => rfl) rfl (Nat.le_of_ble_eq_true rfl) rfl ?_
        refine wn_ic (pc' := 43) (w := nI 0) rfl rfl (by decide) ?_
        refine wn_st (pc' := 45) (q := 6) (kin := 0) (lv' := [(0, .ref (71)), (1, .int (nI (i9))), (2, .int (nI (y9))), (3, .int (nI (t9))), (4, .int (nI (nrW w))), (5, .int (nI (0))), (6, .int (nI (0)))]) rfl (fun _ _ _ => rfl) rfl (Nat.le_of_ble_eq_true rfl) rfl ?_
        refine wn_ic (pc' := 46) (w := nI 0) rfl rfl (by decide) ?_
        refine wn_st (pc' := 48) (q := 7) (kin := 0) (lv' := [(0, .ref (71)), (1, .int (nI (i9))), (2, .int (nI (y9))), (3, .int (nI (t9))), (4, .int (nI (nrW w))), (5, .int (nI (0))), (6, .int (nI (0))), (7, .int (nI (0)))]) rfl (fun _ _ _ => rfl) rfl (Nat.le_of_ble_eq_true rfl) rfl ?_
        refine wn_ic (pc' := 49) (w := nI 0) rfl rfl (by decide) ?_
        refine wn_st (pc' := 51) (q := 8) (kin := 0) (lv' := [(0, .ref (71)), (1, .int (nI (i9))), (2, .int (nI (y9))), (3, .int (nI (t9))), (4, .int (nI (nrW w))), (5, .int (nI (0))), (6, .int (nI (0))), (7, .int (nI (0))), (8, .int (nI (0)))]) rfl (fun _ _ _ => rfl) rfl (Nat.le_of_ble_eq_true rfl) rfl ?_
        have lp5 : ∀ (n_lp5 : Nat) (g4 : aH) (k : Nat), (nrW w) + 1 ≤ k + n_lp5 → RQ h g4 w → k ≤ nrW w → Wn (Rn (d + 9)) 197 51 [(0, .ref (71)), (1, .int (nI (i9))), (2, .int (nI (y9))), (3, .int (nI (t9))), (4, .int (nI (nrW w))), (5, .int (nI (cntP (fun x7 => w (58 + 3 * x7) = 1) k))), (6, .int (nI (cntP (fun x7 => lnW w x7 i9 y9) k))), (7, .int (nI (cntP (fun x7 => (lnW w x7 i9 y9) ∧ (w (58 + 3 * x7) = 1)) k))), (8, .int (nI (k)))] [] (g4) (fun r9 h9 => r9 = some (.long (riverA w (nI i9) (nI y9) (nI t9))) ∧ RQ h h9 w) := by
          intro n_lp5
          induction n_lp5 with
          | zero => intro g4 k hm_lp5 RT_g4 hk; exfalso; omega
          | succ n_lp5 ih_lp5 =>
            intro g4 k hm_lp5 RT_g4 hk
            obtain ⟨th_g4, tp_g4, sz_g4, at9_g4, fr_g4, tk_g4, vl_g4, fk_g4, fp_g4, il_g4, up_g4, lo_g4, hM_g4, hW_g4⟩ := RT_g4.mh
            refine wn_ld (pc' := 53) (q := 8) (kin := 0) (v := .int (nI (k))) rfl (fun _ _ _ => rfl) rfl rfl ?_
            refine wn_ld (pc' := 55) (q := 4) (kin := 0) (v := .int (nI (nrW w))) rfl (fun _ _ _ => rfl) rfl rfl ?_
            refine wn_icmpN (t := 105) (f := 58) rfl rfl rfl (by omega) (by omega) (fun c6 => ?_) (fun c6 => ?_)
            · have c6 : (nrW w) ≤ k := c6
              obtain rfl : k = nrW w := by omega
              have b1 : rvW w ≤ nrW w := cntP_le _ _
              have b2 : lnN w i9 y9 ≤ nrW w := cntP_le _ _
              have b3 : boN w i9 y9 ≤ lnN w i9 y9 := cntP_im _ (fun k _ q => q.1)
              show Wn _ _ 105 [(0, .ref (71)), (1, .int (nI (i9))), (2, .int (nI (y9))), (3, .int (nI (t9))), (4, .int (nI (nrW w))), (5, .int (nI (rvW w))), (6, .int (nI (lnN w i9 y9))), (7, .int (nI (boN w i9 y9))), (8, .int (nI ((nrW w))))] _ _ _
              refine wn_ld (pc' := 106) (q := 3) (kin := 0) (v := .int (nI (t9))) rfl (fun _ _ _ => rfl) rfl rfl ?_
              refine wn_ifN (t := 113) (f := 109) rfl rfl rfl (by omega) (fun c7 => ?_) (fun c7 => ?_)
              · have c7 : ¬ t9 = 0 := c7
                refine wn_ld (pc' := 114) (q := 3) (kin := 0) (v := .int (nI (t9))) rfl (fun _ _ _ => rfl) rfl rfl ?_
                refine wn_ic (pc' := 115) (w := nI 2) rfl rfl (by decide) ?_
                refine wn_icmpN (t := 126) (f := 118) rfl rfl rfl (by omega) (by omega) (fun c8 => ?_) (fun c8 => ?_)
                · have c8 : ¬ t9 = 2 := c8
                  refine wn_pu (pc' := 127) (st' := .long (lN 0) :: []) rfl (fun _ _ _ => rfl) rfl rfl ?_
                  refine wn_st (pc' := 129) (q := 8) (kin := 1) (lv' := [(0, .ref (71)), (1, .int (nI (i9))), (2, .int (nI (y9))), (3, .int (nI (t9))), (4, .int (nI (nrW w))), (5, .int (nI (rvW w))), (6, .int (nI (lnN w i9 y9))), (7, .int (nI (boN w i9 y9))), (8, .long (lN 0))]) rfl (fun _ _ _ => rfl) rfl (Nat.le_of_ble_eq_true rfl) rfl ?_
                  refine wn_ld (pc' := 131) (q := 7) (kin := 0) (v := .int (nI (boN w i9 y9))) rfl (fun _ _ _ => rfl) rfl rfl ?_
                  refine wn_st (pc' := 133) (q := 10) (kin := 0) (lv' := [(0, .ref (71)), (1, .int (nI (i9))), (2, .int (nI (y9))), (3, .int (nI (t9))), (4, .int (nI (nrW w))), (5, .int (nI (rvW w))), (6, .int (nI (lnN w i9 y9))), (7, .int (nI (boN w i9 y9))), (8, .long (lN 0)), (10, .int (nI (boN w i9 y9)))]) rfl (fun _ _ _ => rfl) rfl (Nat.le_of_ble_eq_true rfl) rfl ?_
                  have lp10 : ∀ (n_lp10 : Nat) (g9 : aH) (k : Nat), (lnN w i9 y9 + 1) + 1 ≤ (boN w i9 y9 + k) + n_lp10 → RQ h g9 w → boN w i9 y9 + k ≤ lnN w i9 y9 + 1 → Wn (Rn (d + 9)) 197 133 [(0, .ref (71)), (1, .int (nI (i9))), (2, .int (nI (y9))), (3, .int (nI (t9))), (4, .int (nI (nrW w))), (5, .int (nI (rvW w))), (6, .int (nI (lnN w i9 y9))), (7, .int (nI (boN w i9 y9))), (8, .long (lN (rvS (rvW w) (nrW w) (lnN w i9 y9) (boN w i9 y9) k))), (10, .int (nI (boN w i9 y9 + k)))] [] (g9) (fun r9 h9 => r9 = some (.long (riverA w (nI i9) (nI y9) (nI t9))) ∧ RQ h h9 w) := by
                    intro n_lp10
                    induction n_lp10 with
                    | zero => intro g9 k hm_lp10 RT_g9 hk; exfalso; omega
                    | succ n_lp10 ih_lp10 =>
                      intro g9 k hm_lp10 RT_g9 hk
                      obtain ⟨th_g9, tp_g9, sz_g9, at9_g9, fr_g9, tk_g9, vl_g9, fk_g9, fp_g9, il_g9, up_g9, lo_g9, hM_g9, hW_g9⟩ := RT_g9.mh
                      refine wn_ld (pc' := 135) (q := 10) (kin := 0) (v := .int (nI (boN w i9 y9 + k))) rfl (fun _ _ _ => rfl) rfl rfl ?_
                      refine wn_ld (pc' := 137) (q := 6) (kin := 0) (v := .int (nI (lnN w i9 y9))) rfl (fun _ _ _ => rfl) rfl rfl ?_
                      refine wn_icmpN (t := 172) (f := 140) rfl rfl rfl (by omega) (by omega) (fun c11 => ?_) (fun c11 => ?_)
                      · have c11 : (lnN w i9 y9) < (boN w i9 y9 + k) := c11
                        refine wn_ld (pc' := 174) (q := 8) (kin := 1) (v := .long (lN (rvS (rvW w) (nrW w) (lnN w i9 y9) (boN w i9 y9) k))) rfl (fun _ _ _ => rfl) rfl rfl ?_
                        refine wn_lret rfl rfl ⟨congrArg (fun z => some (Value.long z)) ?_, RT_g9⟩
                        unfold riverA
                        rw [qL_t (by simp only [iin]; omega)]
                        simp only [cl_i, cl_y, cl_t]
                        rw [if_neg (fun q => c7 ((nI_eq (show t9 < 2 ^ 31 by omega) (show 0 < 2 ^ 31 by decide)).mp (by rw [nI_0]; exact q))), if_neg (fun q => c8 ((nI_eq (show t9 < 2 ^ 31 by omega) (show 2 < 2 ^ 31 by decide)).mp q))]
                        rw [show k = lnN w i9 y9 + 1 - boN w i9 y9 by omega]
                      · have c11 : (boN w i9 y9 + k) ≤ (lnN w i9 y9) := c11
                        refine wn_ld (pc' := 142) (q := 8) (kin := 1) (v := .long (lN (rvS (rvW w) (nrW w) (lnN w i9 y9) (boN w i9 y9) k))) rfl (fun _ _ _ => rfl) rfl rfl ?_
                        refine wn_ld (pc' := 144) (q := 5) (kin := 0) (v := .int (nI (rvW w))) rfl (fun _ _ _ => rfl) rfl rfl ?_
                        refine wn_ld (pc' := 146) (q := 10) (kin := 0) (v := .int (nI (boN w i9 y9 + k))) rfl (fun _ _ _ => rfl) rfl rfl ?_
                        refine wn_staL (pc' := 149) rfl rfl (by decide) rfl rfl (Nat.le_of_ble_eq_true rfl) (m_ways _ _ (rvW w) (boN w i9 y9 + k) (by omega) (by omega)) ?_
                        refine wn_ld (pc' := 151) (q := 4) (kin := 0) (v := .int (nI (nrW w))) rfl (fun _ _ _ => rfl) rfl rfl ?_
                        refine wn_ld (pc' := 153) (q := 5) (kin := 0) (v := .int (nI (rvW w))) rfl (fun _ _ _ => rfl) rfl rfl ?_
                        refine wn_subN (pc' := 154) rfl rfl (by omega) ?_
                        refine wn_ld (pc' := 156) (q := 6) (kin := 0) (v := .int (nI (lnN w i9 y9))) rfl (fun _ _ _ => rfl) rfl rfl ?_
                        refine wn_ld (pc' := 158) (q := 10) (kin := 0) (v := .int (nI (boN w i9 y9 + k))) rfl (fun _ _ _ => rfl) rfl rfl ?_
                        refine wn_subN (pc' := 159) rfl rfl (by omega) ?_
                        refine wn_staL (pc' := 162) rfl rfl (by decide) rfl rfl (Nat.le_of_ble_eq_true rfl) (m_ways _ _ ((nrW w) - (rvW w)) ((lnN w i9 y9) - (boN w i9 y9 + k)) (by omega) (by omega)) ?_
                        refine wn_lmulN (pc' := 163) rfl rfl ?_
                        refine wn_laddN (pc' := 164) rfl rfl ?_
                        refine wn_st (pc' := 166) (q := 8) (kin := 1) (lv' := [(0, .ref (71)), (1, .int (nI (i9))), (2, .int (nI (y9))), (3, .int (nI (t9))), (4, .int (nI (nrW w))), (5, .int (nI (rvW w))), (6, .int (nI (lnN w i9 y9))), (7, .int (nI (boN w i9 y9))), (8, .long (lN (((rvS (rvW w) (nrW w) (lnN w i9 y9) (boN w i9 y9) k)) + ((((chs (rvW w) (boN w i9 y9 + k))) * ((chs ((nrW w) - (rvW w)) ((lnN w i9 y9) - (boN w i9 y9 + k))))))))), (10, .int (nI (boN w i9 y9 + k)))]) rfl (fun _ _ _ => rfl) rfl (Nat.le_of_ble_eq_true rfl) rfl ?_
                        refine wn_incN (n := 1) (pc' := 169) (lv' := [(0, .ref (71)), (1, .int (nI (i9))), (2, .int (nI (y9))), (3, .int (nI (t9))), (4, .int (nI (nrW w))), (5, .int (nI (rvW w))), (6, .int (nI (lnN w i9 y9))), (7, .int (nI (boN w i9 y9))), (8, .long (lN (((rvS (rvW w) (nrW w) (lnN w i9 y9) (boN w i9 y9) k)) + ((((chs (rvW w) (boN w i9 y9 + k))) * ((chs ((nrW w) - (rvW w)) ((lnN w i9 y9) - (boN w i9 y9 + k))))))))), (10, .int (nI (boN w i9 y9 + k + 1)))]) rfl rfl rfl (Nat.le_of_ble_eq_true rfl) rfl (by decide) ?_
                        refine wn_jp (pc' := 133) rfl rfl ?_
                        refine wn_weak (lv' := [(0, .ref (71)), (1, .int (nI (i9))), (2, .int (nI (y9))), (3, .int (nI (t9))), (4, .int (nI (nrW w))), (5, .int (nI (rvW w))), (6, .int (nI (lnN w i9 y9))), (7, .int (nI (boN w i9 y9))), (8, .long (lN (((rvS (rvW w) (nrW w) (lnN w i9 y9) (boN w i9 y9) k)) + ((((chs (rvW w) (boN w i9 y9 + k))) * ((chs ((nrW w) - (rvW w)) ((lnN w i9 y9) - (boN w i9 y9 + k))))))))), (10, .int (nI (boN w i9 y9 + k + 1)))]) (by simp) ?_
                        have z9 := ih_lp10 g9 (k + 1) (by omega) RT_g9 (by omega)
                        rw [show (lN (rvS (rvW w) (nrW w) (lnN w i9 y9) (boN w i9 y9) (k + 1))) = (lN (((rvS (rvW w) (nrW w) (lnN w i9 y9) (boN w i9 y9) k)) + ((((chs (rvW w) (boN w i9 y9 + k))) * ((chs ((nrW w) - (rvW w)) ((lnN w i9 y9) - (boN w i9 y9 + k)))))))) from (by rfl)] at z9
                        rw [show (nI (boN w i9 y9 + (k + 1))) = (nI (boN w i9 y9 + k + 1)) from (by rfl)] at z9
                        exact z9
                  refine wn_weak (lv' := [(0, .ref (71)), (1, .int (nI (i9))), (2, .int (nI (y9))), (3, .int (nI (t9))), (4, .int (nI (nrW w))), (5, .int (nI (rvW w))), (6, .int (nI (lnN w i9 y9))), (7, .int (nI (boN w i9 y9))), (8, .long (lN 0)), (10, .int (nI (boN w i9 y9)))]) (by simp) ?_
                  have z9 := lp10 ((lnN w i9 y9 + 1) + 1) g4 0 (by omega) RT_g4 (by omega)
                  rw [show (lN (rvS (rvW w) (nrW w) (lnN w i9 y9) (boN w i9 y9) 0)) = (lN 0) from (by rfl)] at z9
                  rw [show (nI (boN w i9 y9 + 0)) = (nI (boN w i9 y9)) from (by rfl)] at z9
                  exact z9
                · have c8 : t9 = 2 := c8
                  refine wn_ld (pc' := 120) (q := 4) (kin := 0) (v := .int (nI (nrW w))) rfl (fun _ _ _ => rfl) rfl rfl ?_
                  refine wn_ld (pc' := 122) (q := 6) (kin := 0) (v := .int (nI (lnN w i9 y9))) rfl (fun _ _ _ => rfl) rfl rfl ?_
                  refine wn_staL (pc' := 125) rfl rfl (by decide) rfl rfl (Nat.le_of_ble_eq_true rfl) (m_ways _ _ (nrW w) (lnN w i9 y9) (by omega) (by omega)) ?_
                  refine wn_lret rfl rfl ⟨congrArg (fun z => some (Value.long z)) ?_, RT_g4⟩
                  unfold riverA
                  rw [qL_t (by simp only [iin]; omega)]
                  simp only [cl_i, cl_y, cl_t]
                  rw [if_neg (fun q => c7 ((nI_eq (show t9 < 2 ^ 31 by omega) (show 0 < 2 ^ 31 by decide)).mp (by rw [nI_0]; exact q))), if_pos (by rw [c8])]
              · have c7 : t9 = 0 := c7
                refine wn_ld (pc' := 111) (q := 7) (kin := 0) (v := .int (nI (boN w i9 y9))) rfl (fun _ _ _ => rfl) rfl rfl ?_
                refine wn_i2lN (pc' := 112) rfl rfl (by omega) ?_
                refine wn_lret rfl rfl ⟨congrArg (fun z => some (Value.long z)) ?_, RT_g4⟩
                unfold riverA
                rw [qL_t (by simp only [iin]; omega)]
                simp only [cl_i, cl_y, cl_t]
                subst c7
                exact (if_pos (by decide)).symm
            · have c6 : k < (nrW w) := c6
              refine wn_ld (pc' := 60) (q := 5) (kin := 0) (v := .int (nI (cntP (fun x7 => w (58 + 3 * x7) = 1) k))) rfl (fun _ _ _ => rfl) rfl rfl ?_
              refine wn_ld (pc' := 61) (q := 0) (kin := 2) (v := .ref (71)) rfl (fun _ _ _ => rfl) rfl rfl ?_
              refine wn_ld (pc' := 63) (q := 8) (kin := 0) (v := .int (nI (k))) rfl (fun _ _ _ => rfl) rfl rfl ?_
              refine wn_ic (pc' := 64) (w := nI 2) rfl rfl (by decide) ?_
              refine wn_virI (pc' := 67) rfl rfl (by decide) rfl rfl hM_g4 (Nat.le_of_ble_eq_true rfl) (m_ofRoad _ _ w RT_g4.mh k 2 (by omega)) ?_
              rw [show 56 + 3 * k + 2 = 58 + 3 * k by omega]
              refine wn_pu (pc' := 68) (st' := [.int ((nI (cntP (fun x7 => w (58 + 3 * x7) = 1) k)) + (w (58 + 3 * k)))]) rfl (fun _ _ _ => rfl) rfl rfl ?_
              refine wn_st (pc' := 70) (q := 5) (kin := 0) (lv' := [(0, .ref (71)), (1, .int (nI (i9))), (2, .int (nI (y9))), (3, .int (nI (t9))), (4, .int (nI (nrW w))), (5, .int ((nI (cntP (fun x7 => w (58 + 3 * x7) = 1) k)) + (w (58 + 3 * k)))), (6, .int (nI (cntP (fun x7 => lnW w x7 i9 y9) k))), (7, .int (nI (cntP (fun x7 => (lnW w x7 i9 y9) ∧ (w (58 + 3 * x7) = 1)) k))), (8, .int (nI (k)))]) rfl (fun _ _ _ => rfl) rfl (Nat.le_of_ble_eq_true rfl) rfl ?_
              refine wn_ld (pc' := 71) (q := 0) (kin := 2) (v := .ref (71)) rfl (fun _ _ _ => rfl) rfl rfl ?_
              refine wn_ld (pc' := 73) (q := 8) (kin := 0) (v := .int (nI (k))) rfl (fun _ _ _ => rfl) rfl rfl ?_
              refine wn_ld (pc' := 74) (q := 1) (kin := 0) (v := .int (nI (i9))) rfl (fun _ _ _ => rfl) rfl rfl ?_
              refine wn_ld (pc' := 75) (q := 2) (kin := 0) (v := .int (nI (y9))) rfl (fun _ _ _ => rfl) rfl rfl ?_
              refine wn_virS (pc' := 78) rfl rfl (by decide) rfl rfl hM_g4 (Nat.le_of_ble_eq_true rfl) (m_isLine _ _ w hWf RT_g4.2.2.2 k i9 y9 (by omega) (by omega) (by omega)) (fun r9 h12 e13 => ?_)
              obtain ⟨rfl, RQ_h12⟩ := e13
              have RT_h12 := RQ.tr RT_g4 RQ_h12
              obtain ⟨th_h12, tp_h12, sz_h12, at9_h12, fr_h12, tk_h12, vl_h12, fk_h12, fp_h12, il_h12, up_h12, lo_h12, hM_h12, hW_h12⟩ := RQ_h12.mh
              show Wn _ _ 78 _ [.int (bI (lnW w k i9 y9))] h12 _
              refine wn_ifneB (t := 84) (f := 81) rfl rfl rfl (fun c14 => ?_) (fun c14 => ?_)
              · have c14 : (lnW w k i9 y9) := c14
                refine wn_incN (n := 1) (pc' := 87) (lv' := [(0, .ref (71)), (1, .int (nI (i9))), (2, .int (nI (y9))), (3, .int (nI (t9))), (4, .int (nI (nrW w))), (5, .int ((nI (cntP (fun x7 => w (58 + 3 * x7) = 1) k)) + (w (58 + 3 * k)))), (6, .int (nI (cntP (fun x7 => lnW w x7 i9 y9) k + 1))), (7, .int (nI (cntP (fun x7 => (lnW w x7 i9 y9) ∧ (w (58 + 3 * x7) = 1)) k))), (8, .int (nI (k)))]) rfl rfl rfl (Nat.le_of_ble_eq_true rfl) rfl (by decide) ?_
                refine wn_ld (pc' := 89) (q := 7) (kin := 0) (v := .int (nI (cntP (fun x7 => (lnW w x7 i9 y9) ∧ (w (58 + 3 * x7) = 1)) k))) rfl (fun _ _ _ => rfl) rfl rfl ?_
                refine wn_ld (pc' := 90) (q := 0) (kin := 2) (v := .ref (71)) rfl (fun _ _ _ => rfl) rfl rfl ?_
                refine wn_ld (pc' := 92) (q := 8) (kin := 0) (v := .int (nI (k))) rfl (fun _ _ _ => rfl) rfl rfl ?_
                refine wn_ic (pc' := 93) (w := nI 2) rfl rfl (by decide) ?_
                refine wn_virI (pc' := 96) rfl rfl (by decide) rfl rfl hM_h12 (Nat.le_of_ble_eq_true rfl) (m_ofRoad _ _ w RQ_h12.mh k 2 (by omega)) ?_
                rw [show 56 + 3 * k + 2 = 58 + 3 * k by omega]
                refine wn_pu (pc' := 97) (st' := [.int ((nI (cntP (fun x7 => (lnW w x7 i9 y9) ∧ (w (58 + 3 * x7) = 1)) k)) + (w (58 + 3 * k)))]) rfl (fun _ _ _ => rfl) rfl rfl ?_
                refine wn_st (pc' := 99) (q := 7) (kin := 0) (lv' := [(0, .ref (71)), (1, .int (nI (i9))), (2, .int (nI (y9))), (3, .int (nI (t9))), (4, .int (nI (nrW w))), (5, .int ((nI (cntP (fun x7 => w (58 + 3 * x7) = 1) k)) + (w (58 + 3 * k)))), (6, .int (nI (cntP (fun x7 => lnW w x7 i9 y9) k + 1))), (7, .int ((nI (cntP (fun x7 => (lnW w x7 i9 y9) ∧ (w (58 + 3 * x7) = 1)) k)) + (w (58 + 3 * k)))), (8, .int (nI (k)))]) rfl (fun _ _ _ => rfl) rfl (Nat.le_of_ble_eq_true rfl) rfl ?_
                refine wn_incN (n := 1) (pc' := 102) (lv' := [(0, .ref (71)), (1, .int (nI (i9))), (2, .int (nI (y9))), (3, .int (nI (t9))), (4, .int (nI (nrW w))), (5, .int ((nI (cntP (fun x7 => w (58 + 3 * x7) = 1) k)) + (w (58 + 3 * k)))), (6, .int (nI (cntP (fun x7 => lnW w x7 i9 y9) k + 1))), (7, .int ((nI (cntP (fun x7 => (lnW w x7 i9 y9) ∧ (w (58 + 3 * x7) = 1)) k)) + (w (58 + 3 * k)))), (8, .int (nI (k + 1)))]) rfl rfl rfl (Nat.le_of_ble_eq_true rfl) rfl (by decide) ?_
                refine wn_jp (pc' := 51) rfl rfl ?_
                refine wn_weak (lv' := [(0, .ref (71)), (1, .int (nI (i9))), (2, .int (nI (y9))), (3, .int (nI (t9))), (4, .int (nI (nrW w))), (5, .int ((nI (cntP (fun x7 => w (58 + 3 * x7) = 1) k)) + (w (58 + 3 * k)))), (6, .int (nI (cntP (fun x7 => lnW w x7 i9 y9) k + 1))), (7, .int ((nI (cntP (fun x7 => (lnW w x7 i9 y9) ∧ (w (58 + 3 * x7) = 1)) k)) + (w (58 + 3 * k)))), (8, .int (nI (k + 1)))]) (by simp) ?_
                have z9 := ih_lp5 h12 (k + 1) (by omega) RT_h12 (by omega)
                rw [show (nI (cntP (fun x7 => w (58 + 3 * x7) = 1) (k + 1))) = ((nI (cntP (fun x7 => w (58 + 3 * x7) = 1) k)) + (w (58 + 3 * k))) from (by exact cnt_b01 (p := fun x7 => w (58 + 3 * x7) = 1) (wf_rv hWf (show k < nrW w by omega)))] at z9
                rw [show (nI (cntP (fun x7 => lnW w x7 i9 y9) (k + 1))) = (nI (cntP (fun x7 => lnW w x7 i9 y9) k + 1)) from (by exact congrArg nI (cntP_t (p := fun x7 => lnW w x7 i9 y9) c14))] at z9
                rw [show (nI (cntP (fun x7 => (lnW w x7 i9 y9) ∧ (w (58 + 3 * x7) = 1)) (k + 1))) = ((nI (cntP (fun x7 => (lnW w x7 i9 y9) ∧ (w (58 + 3 * x7) = 1)) k)) + (w (58 + 3 * k))) from (by exact cnt_and (p := fun x7 => lnW w x7 i9 y9) (q := fun x7 => w (58 + 3 * x7) = 1) c14 (wf_rv hWf (show k < nrW w by omega)))] at z9
                exact z9
              · have c14 : ¬ (lnW w k i9 y9) := c14
                refine wn_jp (pc' := 99) rfl rfl ?_
                refine wn_incN (n := 1) (pc' := 102) (lv' := [(0, .ref (71)), (1, .int (nI (i9))), (2, .int (nI (y9))), (3, .int (nI (t9))), (4, .int (nI (nrW w))), (5, .int ((nI (cntP (fun x7 => w (58 + 3 * x7) = 1) k)) + (w (58 + 3 * k)))), (6, .int (nI (cntP (fun x7 => lnW w x7 i9 y9) k))), (7, .int (nI (cntP (fun x7 => (lnW w x7 i9 y9) ∧ (w (58 + 3 * x7) = 1)) k))), (8, .int (nI (k + 1)))]) rfl rfl rfl (Nat.le_of_ble_eq_true rfl) rfl (by decide) ?_
                refine wn_jp (pc' := 51) rfl rfl ?_
                refine wn_weak (lv' := [(0, .ref (71)), (1, .int (nI (i9))), (2, .int (nI (y9))), (3, .int (nI (t9))), (4, .int (nI (nrW w))), (5, .int ((nI (cntP (fun x7 => w (58 + 3 * x7) = 1) k)) + (w (58 + 3 * k)))), (6, .int (nI (cntP (fun x7 => lnW w x7 i9 y9) k))), (7, .int (nI (cntP (fun x7 => (lnW w x7 i9 y9) ∧ (w (58 + 3 * x7) = 1)) k))), (8, .int (nI (k + 1)))]) (by simp) ?_
                have z9 := ih_lp5 h12 (k + 1) (by omega) RT_h12 (by omega)
                rw [show (nI (cntP (fun x7 => w (58 + 3 * x7) = 1) (k + 1))) = ((nI (cntP (fun x7 => w (58 + 3 * x7) = 1) k)) + (w (58 + 3 * k))) from (by exact cnt_b01 (p := fun x7 => w (58 + 3 * x7) = 1) (wf_rv hWf (show k < nrW w by omega)))] at z9
                rw [show (nI (cntP (fun x7 => lnW w x7 i9 y9) (k + 1))) = (nI (cntP (fun x7 => lnW w x7 i9 y9) k)) from (by exact congrArg nI (cntP_f (p := fun x7 => lnW w x7 i9 y9) c14))] at z9
                rw [show (nI (cntP (fun x7 => (lnW w x7 i9 y9) ∧ (w (58 + 3 * x7) = 1)) (k + 1))) = (nI (cntP (fun x7 => (lnW w x7 i9 y9) ∧ (w (58 + 3 * x7) = 1)) k)) from (by exact congrArg nI (cntP_f (p := fun x7 => (lnW w x7 i9 y9) ∧ (w (58 + 3 * x7) = 1)) (fun q8 => c14 q8.1)))] at z9
                exact z9
        refine wn_weak (lv' := [(0, .ref (71)), (1, .int (nI (i9))), (2, .int (nI (y9))), (3, .int (nI (t9))), (4, .int (nI (nrW w))), (5, .int (nI (0))), (6, .int (nI (0))), (7, .int (nI (0))), (8, .int (nI (0)))]) (by simp) ?_
        have z9 := lp5 ((nrW w) + 1) h 0 (by omega) (RQ.rfl' HQ) (by omega)
        rw [show (nI (cntP (fun x7 => w (58 + 3 * x7) = 1) 0)) = (nI (0)) from (by rfl)] at z9
        rw [show (nI (cntP (fun x7 => lnW w x7 i9 y9) 0)) = (nI (0)) from (by rfl)] at z9
        rw [show (nI (cntP (fun x7 => (lnW w x7 i9 y9) ∧ (w (58 + 3 * x7) = 1)) 0)) = (nI (0)) from (by rfl)] at z9
        exact z9
      · have c3 : ¬ (iin t 3) := c3
        refine wn_go (pc' := 30) (lv' := [(0, .ref (71)), (1, .int (nI (i9))), (2, .int (nI (y9))), (3, .int (t))]) (st' := [.long ((-2 : Int64))]) rfl (fun _ _ _ k9 => k9) ?_
        try simp only [Int32.lt_iff_toInt_lt, Int32.le_iff_toInt_le, i2l_int, Int32.toInt_zero, iin] at c1
        try simp only [Int32.lt_iff_toInt_lt, Int32.le_iff_toInt_le, i2l_int, Int32.toInt_zero, iin] at c2
        try simp only [Int32.lt_iff_toInt_lt, Int32.le_iff_toInt_le, i2l_int, Int32.toInt_zero, iin] at c3
        refine wn_lret rfl rfl ⟨congrArg (fun z => some (Value.long z)) ?_, (RQ.rfl' HQ)⟩
        unfold riverA
        rw [qL_f (by simp only [iin]; omega)]

theorem m_areTold (d : Nat) (h : aH) (w : Nat → Int32) (hWf : WfW w) (HQ : MQs h w) (v u : Nat) (s0 : Int32) (y : Nat) (hv : v < nvW w) (hu : u < nvW w) (hy : y ≤ 60) : Sp (Rn (d + 9)) 198 [.ref (71), .int (nI (v)), .int (nI (u)), .int (s0), .int (nI (y))] h (fun r9 h9 => r9 = some (.int (bI (tdW w y v u s0))) ∧ RQ h h9 w) := by
  obtain ⟨⟨e1, e2⟩, ⟨e3, e4⟩, ⟨e5, e6⟩⟩ := Wf_n hWf
  obtain ⟨⟨e7, e8⟩, ⟨e9, e10⟩⟩ := Wf_m hWf
  have p2b := stN_le hWf
  obtain ⟨th, tp, sz, at9, fr, tk, vl, fk, fp, il, up, lo, sa9, tn, q0, q1, q2, q3, q4⟩ := id HQ
  refine Sp_of (by decide) (Nat.le_of_ble_eq_true rfl) ?_
  show Wn _ _ 0 [(0, .ref (71)), (1, .int (nI (v))), (2, .int (nI (u))), (3, .int (s0)), (4, .int (nI (y)))] [] _ _
  refine wn_ic (pc' := 1) (w := nI 0) rfl rfl (by decide) ?_
  refine wn_st (pc' := 3) (q := 5) (kin := 0) (lv' := [(0, .ref (71)), (1, .int (nI (v))), (2, .int (nI (u))), (3, .int (s0)), (4, .int (nI (y))), (5, .int (nI (0)))]) rfl (fun _ _ _ => rfl) rfl (Nat.le_of_ble_eq_true rfl) rfl ?_
  have lp2 : ∀ (n_lp2 : Nat) (g1 : aH) (k : Nat), (ntW w) + 1 ≤ k + n_lp2 → RQ h g1 w → k ≤ ntW w → (∀ i9, i9 < k → ¬ (bt s0 i9 = true ∧ ¬ sdW w y v i9 = sdW w y u i9)) → Wn (Rn (d + 8)) 198 3 [(0, .ref (71)), (1, .int (nI (v))), (2, .int (nI (u))), (3, .int (s0)), (4, .int (nI (y))), (5, .int (nI (k)))] [] (g1) (fun r9 h9 => r9 = some (.int (bI (tdW w y v u s0))) ∧ RQ h h9 w) := by
    intro n_lp2
    induction n_lp2 with
    | zero => intro g1 k hm_lp2 RT_g1 hk hn; exfalso; omega
    | succ n_lp2 ih_lp2 =>
      intro g1 k hm_lp2 RT_g1 hk hn
      obtain ⟨th_g1, tp_g1, sz_g1, at9_g1, fr_g1, tk_g1, vl_g1, fk_g1, fp_g1, il_g1, up_g1, lo_g1, hM_g1, hW_g1⟩ := RT_g1.mh
      refine wn_ld (pc' := 5) (q := 5) (kin := 0) (v := .int (nI (k))) rfl (fun _ _ _ => rfl) rfl rfl ?_
      refine wn_ld (pc' := 6) (q := 0) (kin := 2) (v := .ref (71)) rfl (fun _ _ _ => rfl) rfl rfl ?_
      refine wn_get (pc' := 9) (v := .ref (72)) rfl rfl hM_g1 rfl ?_
      refine wn_ic (pc' := 10) (w := nI 3) rfl rfl (by decide) ?_
      refine wn_ialdv (pc' := 11) (j := 3) (v := (nI (ntW w))) rfl rfl hW_g1 rfl (by omega) (by decide) (e5) ?_
      refine wn_icmpN (t := 53) (f := 14) rfl rfl rfl (by omega) (by omega) (fun c3 => ?_) (fun c3 => ?_)
      · have c3 : (ntW w) ≤ k := c3
        refine wn_ic (pc' := 54) (w := nI 0) rfl rfl (by decide) ?_
        exact wn_iret rfl rfl (by decide) ⟨congrArg (fun z => some (Value.int z)) (bI_f0 (fun ⟨i9, q1, q2⟩ => hn i9 (by omega) q2)), RT_g1⟩
      · have c3 : k < (ntW w) := c3
        refine wn_ld (pc' := 15) (q := 3) (kin := 0) (v := .int (s0)) rfl (fun _ _ _ => rfl) rfl rfl ?_
        refine wn_ld (pc' := 17) (q := 5) (kin := 0) (v := .int (nI (k))) rfl (fun _ _ _ => rfl) rfl rfl ?_
        refine wn_pu (pc' := 18) (st' := [.int ((s0) >>> ((nI (k)) &&& 31))]) rfl (fun _ _ _ => rfl) rfl rfl ?_
        refine wn_ic (pc' := 19) (w := nI 1) rfl rfl (by decide) ?_
        refine wn_pu (pc' := 20) (st' := [.int (((s0) >>> ((nI (k)) &&& 31)) &&& (nI (1)))]) rfl (fun _ _ _ => rfl) rfl rfl ?_
        rw [tst_b (show k < 31 by omega)]
        refine wn_ic (pc' := 21) (w := nI 1) rfl rfl (by decide) ?_
        refine wn_icneB1 (t := 47) (f := 24) rfl rfl rfl (fun c4 => ?_) (fun c4 => ?_)
        · have c4 : ¬ (bt s0 k = true) := c4
          refine wn_incN (n := 1) (pc' := 50) (lv' := [(0, .ref (71)), (1, .int (nI (v))), (2, .int (nI (u))), (3, .int (s0)), (4, .int (nI (y))), (5, .int (nI (k + 1)))]) rfl rfl rfl (Nat.le_of_ble_eq_true rfl) rfl (by decide) ?_
          refine wn_jp (pc' := 3) rfl rfl ?_
          refine wn_weak (lv' := [(0, .ref (71)), (1, .int (nI (v))), (2, .int (nI (u))), (3, .int (s0)), (4, .int (nI (y))), (5, .int (nI (k + 1)))]) (by simp) ?_
          have z9 := ih_lp2 g1 (k + 1) (by omega) RT_g1 (by omega) (fun i9 h9 => by by_cases e : i9 = k; (subst e; exact (fun q8 => c4 q8.1)); exact hn i9 (by omega))
          exact z9
        · have c4 : (bt s0 k = true) := c4
          refine wn_ld (pc' := 25) (q := 0) (kin := 2) (v := .ref (71)) rfl (fun _ _ _ => rfl) rfl rfl ?_
          refine wn_ld (pc' := 26) (q := 1) (kin := 0) (v := .int (nI (v))) rfl (fun _ _ _ => rfl) rfl rfl ?_
          refine wn_ld (pc' := 28) (q := 5) (kin := 0) (v := .int (nI (k))) rfl (fun _ _ _ => rfl) rfl rfl ?_
          refine wn_ld (pc' := 30) (q := 4) (kin := 0) (v := .int (nI (y))) rfl (fun _ _ _ => rfl) rfl rfl ?_
          have := sdW_5 hWf (y := y) (show v < nvW w by omega) (show k < ntW w by omega)
          refine wn_virS (pc' := 33) rfl rfl (by decide) rfl rfl hM_g1 (Nat.le_of_ble_eq_true rfl) (m_saidIn _ _ w hWf RT_g1.2.2.2 v k y (by omega) (by omega) (by omega)) (fun r9 h5 e6 => ?_)
          obtain ⟨rfl, RQ_h5⟩ := e6
          have RT_h5 := RQ.tr RT_g1 RQ_h5
          obtain ⟨th_h5, tp_h5, sz_h5, at9_h5, fr_h5, tk_h5, vl_h5, fk_h5, fp_h5, il_h5, up_h5, lo_h5, hM_h5, hW_h5⟩ := RQ_h5.mh
          show Wn _ _ 33 _ [.int (nI (sdW w y v k))] h5 _
          refine wn_ld (pc' := 34) (q := 0) (kin := 2) (v := .ref (71)) rfl (fun _ _ _ => rfl) rfl rfl ?_
          refine wn_ld (pc' := 35) (q := 2) (kin := 0) (v := .int (nI (u))) rfl (fun _ _ _ => rfl) rfl rfl ?_
          refine wn_ld (pc' := 37) (q := 5) (kin := 0) (v := .int (nI (k))) rfl (fun _ _ _ => rfl) rfl rfl ?_
          refine wn_ld (pc' := 39) (q := 4) (kin := 0) (v := .int (nI (y))) rfl (fun _ _ _ => rfl) rfl rfl ?_
          have := sdW_5 hWf (y := y) (show u < nvW w by omega) (show k < ntW w by omega)
          refine wn_virS (pc' := 42) rfl rfl (by decide) rfl rfl hM_h5 (Nat.le_of_ble_eq_true rfl) (m_saidIn _ _ w hWf RQ_h5.2.2.2 u k y (by omega) (by omega) (by omega)) (fun r9 h7 e8 => ?_)
          obtain ⟨rfl, RQ_h7⟩ := e8
          have RT_h7 := RQ.tr RT_h5 RQ_h7
          obtain ⟨th_h7, tp_h7, sz_h7, at9_h7, fr_h7, tk_h7, vl_h7, fk_h7, fp_h7, il_h7, up_h7, lo_h7, hM_h7, hW_h7⟩ := RQ_h7.mh
          show Wn _ _ 42 _ [.int (nI (sdW w y u k)), .int (nI (sdW w y v k))] h7 _
          refine wn_icmpN (t := 47) (f := 45) rfl rfl rfl (by omega) (by omega) (fun c9 => ?_) (fun c9 => ?_)
          · have c9 : (sdW w y v k) = (sdW w y u k) := c9
            refine wn_incN (n := 1) (pc' := 50) (lv' := [(0, .ref (71)), (1, .int (nI (v))), (2, .int (nI (u))), (3, .int (s0)), (4, .int (nI (y))), (5, .int (nI (k + 1)))]) rfl rfl rfl (Nat.le_of_ble_eq_true rfl) rfl (by decide) ?_
            refine wn_jp (pc' := 3) rfl rfl ?_
            refine wn_weak (lv' := [(0, .ref (71)), (1, .int (nI (v))), (2, .int (nI (u))), (3, .int (s0)), (4, .int (nI (y))), (5, .int (nI (k + 1)))]) (by simp) ?_
            have z9 := ih_lp2 h7 (k + 1) (by omega) RT_h7 (by omega) (fun i9 h9 => by by_cases e : i9 = k; (subst e; exact (fun q8 => (fun q9 => q9 c9) q8.2)); exact hn i9 (by omega))
            exact z9
          · have c9 : ¬ (sdW w y v k) = (sdW w y u k) := c9
            refine wn_ic (pc' := 46) (w := nI 1) rfl rfl (by decide) ?_
            exact wn_iret rfl rfl (by decide) ⟨congrArg (fun z => some (Value.int z)) (bI_t1 (⟨k, by omega, c4, c9⟩)), RT_h7⟩
  refine wn_weak (lv' := [(0, .ref (71)), (1, .int (nI (v))), (2, .int (nI (u))), (3, .int (s0)), (4, .int (nI (y))), (5, .int (nI (0)))]) (by simp) ?_
  have z9 := lp2 ((ntW w) + 1) h 0 (by omega) (RQ.rfl' HQ) (by omega) (fun _ q => absurd q (by omega))
  exact z9

theorem m_tellsAll (d : Nat) (h : aH) (w : Nat → Int32) (hWf : WfW w) (HQ : MQs h w) (o s0 : Int32) (y : Nat) (hy : y ≤ 60) : Sp (Rn (d + 10)) 199 [.ref (71), .int (o), .int (s0), .int (nI (y))] h (fun r9 h9 => r9 = some (.int (bI (tlW w y o s0))) ∧ RQ h h9 w) := by
  obtain ⟨⟨e1, e2⟩, ⟨e3, e4⟩, ⟨e5, e6⟩⟩ := Wf_n hWf
  obtain ⟨⟨e7, e8⟩, ⟨e9, e10⟩⟩ := Wf_m hWf
  have p2b := stN_le hWf
  obtain ⟨th, tp, sz, at9, fr, tk, vl, fk, fp, il, up, lo, sa9, tn, q0, q1, q2, q3, q4⟩ := id HQ
  refine Sp_of (by decide) (Nat.le_of_ble_eq_true rfl) ?_
  show Wn _ _ 0 [(0, .ref (71)), (1, .int (o)), (2, .int (s0)), (3, .int (nI (y)))] [] _ _
  refine wn_ic (pc' := 1) (w := nI 0) rfl rfl (by decide) ?_
  refine wn_st (pc' := 3) (q := 4) (kin := 0) (lv' := [(0, .ref (71)), (1, .int (o)), (2, .int (s0)), (3, .int (nI (y))), (4, .int (nI (0)))]) rfl (fun _ _ _ => rfl) rfl (Nat.le_of_ble_eq_true rfl) rfl ?_
  have lp2 : ∀ (n_lp2 : Nat) (g1 : aH) (v : Nat), (nvW w) + 1 ≤ v + n_lp2 → RQ h g1 w → v ≤ nvW w → (∀ v9 u9, u9 < v9 → v9 < v → (o = -1 ∨ o = nI v9 ∨ o = nI u9) → tdW w y v9 u9 s0) → Wn (Rn (d + 9)) 199 3 [(0, .ref (71)), (1, .int (o)), (2, .int (s0)), (3, .int (nI (y))), (4, .int (nI (v)))] [] (g1) (fun r9 h9 => r9 = some (.int (bI (tlW w y o s0))) ∧ RQ h h9 w) := by
    intro n_lp2
    induction n_lp2 with
    | zero => intro g1 v hm_lp2 RT_g1 hv hn; exfalso; omega
    | succ n_lp2 ih_lp2 =>
      intro g1 v hm_lp2 RT_g1 hv hn
      obtain ⟨th_g1, tp_g1, sz_g1, at9_g1, fr_g1, tk_g1, vl_g1, fk_g1, fp_g1, il_g1, up_g1, lo_g1, hM_g1, hW_g1⟩ := RT_g1.mh
      refine wn_ld (pc' := 5) (q := 4) (kin := 0) (v := .int (nI (v))) rfl (fun _ _ _ => rfl) rfl rfl ?_
      refine wn_ld (pc' := 6) (q := 0) (kin := 2) (v := .ref (71)) rfl (fun _ _ _ => rfl) rfl rfl ?_
      refine wn_get (pc' := 9) (v := .ref (72)) rfl rfl hM_g1 rfl ?_
      refine wn_ic (pc' := 10) (w := nI 1) rfl rfl (by decide) ?_
      refine wn_ialdv (pc' := 11) (j := 1) (v := (nI (nvW w))) rfl rfl hW_g1 rfl (by omega) (by decide) (e1) ?_
      refine wn_icmpN (t := 68) (f := 14) rfl rfl rfl (by omega) (by omega) (fun c3 => ?_) (fun c3 => ?_)
      · have c3 : (nvW w) ≤ v := c3
        refine wn_ic (pc' := 69) (w := nI 1) rfl rfl (by decide) ?_
        exact wn_iret rfl rfl (by decide) ⟨congrArg (fun z => some (Value.int z)) (bI_t1 (fun v9 u9 q1 q2 => hn v9 u9 q1 (by omega))), RT_g1⟩
      · have c3 : v < (nvW w) := c3
        refine wn_ic (pc' := 15) (w := nI 0) rfl rfl (by decide) ?_
        refine wn_st (pc' := 17) (q := 5) (kin := 0) (lv' := [(0, .ref (71)), (1, .int (o)), (2, .int (s0)), (3, .int (nI (y))), (4, .int (nI (v))), (5, .int (nI (0)))]) rfl (fun _ _ _ => rfl) rfl (Nat.le_of_ble_eq_true rfl) rfl ?_
        have lp5 : ∀ (n_lp5 : Nat) (g4 : aH) (u : Nat), v + 1 ≤ u + n_lp5 → RQ h g4 w → u ≤ v → (∀ u9, u9 < u → (o = -1 ∨ o = nI v ∨ o = nI u9) → tdW w y v u9 s0) → Wn (Rn (d + 9)) 199 17 [(0, .ref (71)), (1, .int (o)), (2, .int (s0)), (3, .int (nI (y))), (4, .int (nI (v))), (5, .int (nI (u)))] [] (g4) (fun r9 h9 => r9 = some (.int (bI (tlW w y o s0))) ∧ RQ h h9 w) := by
          intro n_lp5
          induction n_lp5 with
          | zero => intro g4 u hm_lp5 RT_g4 hu hm; exfalso; omega
          | succ n_lp5 ih_lp5 =>
            intro g4 u hm_lp5 RT_g4 hu hm
            obtain ⟨th_g4, tp_g4, sz_g4, at9_g4, fr_g4, tk_g4, vl_g4, fk_g4, fp_g4, il_g4, up_g4, lo_g4, hM_g4, hW_g4⟩ := RT_g4.mh
            refine wn_ld (pc' := 19) (q := 5) (kin := 0) (v := .int (nI (u))) rfl (fun _ _ _ => rfl) rfl rfl ?_
            refine wn_ld (pc' := 21) (q := 4) (kin := 0) (v := .int (nI (v))) rfl (fun _ _ _ => rfl) rfl rfl ?_
            refine wn_icmpN (t := 62) (f := 24) rfl rfl rfl (by omega) (by omega) (fun c6 => ?_) (fun c6 => ?_)
            · have c6 : v ≤ u := c6
              refine wn_incN (n := 1) (pc' := 65) (lv' := [(0, .ref (71)), (1, .int (o)), (2, .int (s0)), (3, .int (nI (y))), (4, .int (nI (v + 1))), (5, .int (nI (u)))]) rfl rfl rfl (Nat.le_of_ble_eq_true rfl) rfl (by decide) ?_
              refine wn_jp (pc' := 3) rfl rfl ?_
              refine wn_weak (lv' := [(0, .ref (71)), (1, .int (o)), (2, .int (s0)), (3, .int (nI (y))), (4, .int (nI (v + 1)))]) (by simp) ?_
              have z9 := ih_lp2 g4 (v + 1) (by omega) RT_g4 (by omega) (fun v9 u9 q1 q2 => by by_cases e : v9 = v; (subst e; exact hm u9 (by omega)); exact hn v9 u9 q1 (by omega))
              exact z9
            · have c6 : u < v := c6
              refine wn_ld (pc' := 25) (q := 1) (kin := 0) (v := .int (o)) rfl (fun _ _ _ => rfl) rfl rfl ?_
              refine wn_ic (pc' := 26) (w := -1) rfl rfl (by decide) ?_
              refine wn_icmp (t := 41) (f := 29) rfl rfl rfl (fun c7 => ?_) (fun c7 => ?_)
              · have c7 : ((o)) = ((-1)) := c7
                refine wn_ld (pc' := 42) (q := 0) (kin := 2) (v := .ref (71)) rfl (fun _ _ _ => rfl) rfl rfl ?_
                refine wn_ld (pc' := 44) (q := 4) (kin := 0) (v := .int (nI (v))) rfl (fun _ _ _ => rfl) rfl rfl ?_
                refine wn_ld (pc' := 46) (q := 5) (kin := 0) (v := .int (nI (u))) rfl (fun _ _ _ => rfl) rfl rfl ?_
                refine wn_ld (pc' := 47) (q := 2) (kin := 0) (v := .int (s0)) rfl (fun _ _ _ => rfl) rfl rfl ?_
                refine wn_ld (pc' := 48) (q := 3) (kin := 0) (v := .int (nI (y))) rfl (fun _ _ _ => rfl) rfl rfl ?_
                refine wn_virS (pc' := 51) rfl rfl (by decide) rfl rfl hM_g4 (Nat.le_of_ble_eq_true rfl) (m_areTold _ _ w hWf RT_g4.2.2.2 v u s0 y (by omega) (by omega) (by omega)) (fun r9 h8 e9 => ?_)
                obtain ⟨rfl, RQ_h8⟩ := e9
                have RT_h8 := RQ.tr RT_g4 RQ_h8
                obtain ⟨th_h8, tp_h8, sz_h8, at9_h8, fr_h8, tk_h8, vl_h8, fk_h8, fp_h8, il_h8, up_h8, lo_h8, hM_h8, hW_h8⟩ := RQ_h8.mh
                show Wn _ _ 51 _ [.int (bI (tdW w y v u s0))] h8 _
                refine wn_ifneB (t := 56) (f := 54) rfl rfl rfl (fun c10 => ?_) (fun c10 => ?_)
                · have c10 : (tdW w y v u s0) := c10
                  refine wn_incN (n := 1) (pc' := 59) (lv' := [(0, .ref (71)), (1, .int (o)), (2, .int (s0)), (3, .int (nI (y))), (4, .int (nI (v))), (5, .int (nI (u + 1)))]) rfl rfl rfl (Nat.le_of_ble_eq_true rfl) rfl (by decide) ?_
                  refine wn_jp (pc' := 17) rfl rfl ?_
                  refine wn_weak (lv' := [(0, .ref (71)), (1, .int (o)), (2, .int (s0)), (3, .int (nI (y))), (4, .int (nI (v))), (5, .int (nI (u + 1)))]) (by simp) ?_
                  have z9 := ih_lp5 h8 (u + 1) (by omega) RT_h8 (by omega) (fun u9 q1 => by by_cases e : u9 = u; (subst e; exact (fun _ => c10)); exact hm u9 (by omega))
                  exact z9
                · have c10 : ¬ (tdW w y v u s0) := c10
                  refine wn_ic (pc' := 55) (w := nI 0) rfl rfl (by decide) ?_
                  exact wn_iret rfl rfl (by decide) ⟨congrArg (fun z => some (Value.int z)) (bI_f0 (fun q => c10 (q v u (by omega) (by omega) (Or.inl c7)))), RT_h8⟩
              · have c7 : ¬ ((o)) = ((-1)) := c7
                refine wn_ld (pc' := 30) (q := 1) (kin := 0) (v := .int (o)) rfl (fun _ _ _ => rfl) rfl rfl ?_
                refine wn_ld (pc' := 32) (q := 4) (kin := 0) (v := .int (nI (v))) rfl (fun _ _ _ => rfl) rfl rfl ?_
                refine wn_icmp (t := 41) (f := 35) rfl rfl rfl (fun c11 => ?_) (fun c11 => ?_)
                · have c11 : ((o)) = ((nI (v))) := c11
                  refine wn_ld (pc' := 42) (q := 0) (kin := 2) (v := .ref (71)) rfl (fun _ _ _ => rfl) rfl rfl ?_
                  refine wn_ld (pc' := 44) (q := 4) (kin := 0) (v := .int (nI (v))) rfl (fun _ _ _ => rfl) rfl rfl ?_
                  refine wn_ld (pc' := 46) (q := 5) (kin := 0) (v := .int (nI (u))) rfl (fun _ _ _ => rfl) rfl rfl ?_
                  refine wn_ld (pc' := 47) (q := 2) (kin := 0) (v := .int (s0)) rfl (fun _ _ _ => rfl) rfl rfl ?_
                  refine wn_ld (pc' := 48) (q := 3) (kin := 0) (v := .int (nI (y))) rfl (fun _ _ _ => rfl) rfl rfl ?_
                  refine wn_virS (pc' := 51) rfl rfl (by decide) rfl rfl hM_g4 (Nat.le_of_ble_eq_true rfl) (m_areTold _ _ w hWf RT_g4.2.2.2 v u s0 y (by omega) (by omega) (by omega)) (fun r9 h12 e13 => ?_)
                  obtain ⟨rfl, RQ_h12⟩ := e13
                  have RT_h12 := RQ.tr RT_g4 RQ_h12
                  obtain ⟨th_h12, tp_h12, sz_h12, at9_h12, fr_h12, tk_h12, vl_h12, fk_h12, fp_h12, il_h12, up_h12, lo_h12, hM_h12, hW_h12⟩ := RQ_h12.mh
                  show Wn _ _ 51 _ [.int (bI (tdW w y v u s0))] h12 _
                  refine wn_ifneB (t := 56) (f := 54) rfl rfl rfl (fun c14 => ?_) (fun c14 => ?_)
                  · have c14 : (tdW w y v u s0) := c14
                    refine wn_incN (n := 1) (pc' := 59) (lv' := [(0, .ref (71)), (1, .int (o)), (2, .int (s0)), (3, .int (nI (y))), (4, .int (nI (v))), (5, .int (nI (u + 1)))]) rfl rfl rfl (Nat.le_of_ble_eq_true rfl) rfl (by decide) ?_
                    refine wn_jp (pc' := 17) rfl rfl ?_
                    refine wn_weak (lv' := [(0, .ref (71)), (1, .int (o)), (2, .int (s0)), (3, .int (nI (y))), (4, .int (nI (v))), (5, .int (nI (u + 1)))]) (by simp) ?_
                    have z9 := ih_lp5 h12 (u + 1) (by omega) RT_h12 (by omega) (fun u9 q1 => by by_cases e : u9 = u; (subst e; exact (fun _ => c14)); exact hm u9 (by omega))
                    exact z9
                  · have c14 : ¬ (tdW w y v u s0) := c14
                    refine wn_ic (pc' := 55) (w := nI 0) rfl rfl (by decide) ?_
                    exact wn_iret rfl rfl (by decide) ⟨congrArg (fun z => some (Value.int z)) (bI_f0 (fun q => c14 (q v u (by omega) (by omega) (Or.inr (Or.inl c11))))), RT_h12⟩
                · have c11 : ¬ ((o)) = ((nI (v))) := c11
                  refine wn_ld (pc' := 36) (q := 1) (kin := 0) (v := .int (o)) rfl (fun _ _ _ => rfl) rfl rfl ?_
                  refine wn_ld (pc' := 38) (q := 5) (kin := 0) (v := .int (nI (u))) rfl (fun _ _ _ => rfl) rfl rfl ?_
                  refine wn_icmp (t := 56) (f := 41) rfl rfl rfl (fun c15 => ?_) (fun c15 => ?_)
                  · have c15 : ¬ ((o)) = ((nI (u))) := c15
                    refine wn_incN (n := 1) (pc' := 59) (lv' := [(0, .ref (71)), (1, .int (o)), (2, .int (s0)), (3, .int (nI (y))), (4, .int (nI (v))), (5, .int (nI (u + 1)))]) rfl rfl rfl (Nat.le_of_ble_eq_true rfl) rfl (by decide) ?_
                    refine wn_jp (pc' := 17) rfl rfl ?_
                    refine wn_weak (lv' := [(0, .ref (71)), (1, .int (o)), (2, .int (s0)), (3, .int (nI (y))), (4, .int (nI (v))), (5, .int (nI (u + 1)))]) (by simp) ?_
                    have z9 := ih_lp5 g4 (u + 1) (by omega) RT_g4 (by omega) (fun u9 q1 => by by_cases e : u9 = u; (subst e; exact (fun q => absurd q (fun q7 => q7.elim c7 (fun q7 => q7.elim c11 c15)))); exact hm u9 (by omega))
                    exact z9
                  · have c15 : ((o)) = ((nI (u))) := c15
                    refine wn_ld (pc' := 42) (q := 0) (kin := 2) (v := .ref (71)) rfl (fun _ _ _ => rfl) rfl rfl ?_
                    refine wn_ld (pc' := 44) (q := 4) (kin := 0) (v := .int (nI (v))) rfl (fun _ _ _ => rfl) rfl rfl ?_
                    refine wn_ld (pc' := 46) (q := 5) (kin := 0) (v := .int (nI (u))) rfl (fun _ _ _ => rfl) rfl rfl ?_
                    refine wn_ld (pc' := 47) (q := 2) (kin := 0) (v := .int (s0)) rfl (fun _ _ _ => rfl) rfl rfl ?_
                    refine wn_ld (pc' := 48) (q := 3) (kin := 0) (v := .int (nI (y))) rfl (fun _ _ _ => rfl) rfl rfl ?_
                    refine wn_virS (pc' := 51) rfl rfl (by decide) rfl rfl hM_g4 (Nat.le_of_ble_eq_true rfl) (m_areTold _ _ w hWf RT_g4.2.2.2 v u s0 y (by omega) (by omega) (by omega)) (fun r9 h16 e17 => ?_)
                    obtain ⟨rfl, RQ_h16⟩ := e17
                    have RT_h16 := RQ.tr RT_g4 RQ_h16
                    obtain ⟨th_h16, tp_h16, sz_h16, at9_h16, fr_h16, tk_h16, vl_h16, fk_h16, fp_h16, il_h16, up_h16, lo_h16, hM_h16, hW_h16⟩ := RQ_h16.mh
                    show Wn _ _ 51 _ [.int (bI (tdW w y v u s0))] h16 _
                    refine wn_ifneB (t := 56) (f := 54) rfl rfl rfl (fun c18 => ?_) (fun c18 => ?_)
                    · have c18 : (tdW w y v u s0) := c18
                      refine wn_incN (n := 1) (pc' := 59) (lv' := [(0, .ref (71)), (1, .int (o)), (2, .int (s0)), (3, .int (nI (y))), (4, .int (nI (v))), (5, .int (nI (u + 1)))]) rfl rfl rfl (Nat.le_of_ble_eq_true rfl) rfl (by decide) ?_
                      refine wn_jp (pc' := 17) rfl rfl ?_
                      refine wn_weak (lv' := [(0, .ref (71)), (1, .int (o)), (2, .int (s0)), (3, .int (nI (y))), (4, .int (nI (v))), (5, .int (nI (u + 1)))]) (by simp) ?_
                      have z9 := ih_lp5 h16 (u + 1) (by omega) RT_h16 (by omega) (fun u9 q1 => by by_cases e : u9 = u; (subst e; exact (fun _ => c18)); exact hm u9 (by omega))
                      exact z9
                    · have c18 : ¬ (tdW w y v u s0) := c18
                      refine wn_ic (pc' := 55) (w := nI 0) rfl rfl (by decide) ?_
                      exact wn_iret rfl rfl (by decide) ⟨congrArg (fun z => some (Value.int z)) (bI_f0 (fun q => c18 (q v u (by omega) (by omega) (Or.inr (Or.inr c15))))), RT_h16⟩
        refine wn_weak (lv' := [(0, .ref (71)), (1, .int (o)), (2, .int (s0)), (3, .int (nI (y))), (4, .int (nI (v))), (5, .int (nI (0)))]) (by simp) ?_
        have z9 := lp5 (v + 1) g1 0 (by omega) RT_g1 (by omega) (fun _ q => absurd q (by omega))
        exact z9
  refine wn_weak (lv' := [(0, .ref (71)), (1, .int (o)), (2, .int (s0)), (3, .int (nI (y))), (4, .int (nI (0)))]) (by simp) ?_
  have z9 := lp2 ((nvW w) + 1) h 0 (by omega) (RQ.rfl' HQ) (by omega) (fun _ _ _ q => absurd q (by omega))
  exact z9

theorem m_fewest (d : Nat) (h : aH) (w : Nat → Int32) (hWf : WfW w) (HQ : MQs h w) (o : Int32) (y : Nat) (hy : y ≤ 60) : Sp (Rn (d + 11)) 200 [.ref (71), .int (o), .int (nI (y))] h (fun r9 h9 => r9 = some (.int (oI (fwS (fun x7 => tlW w y o (nI x7)) popc (stN w)))) ∧ RQ h h9 w) := by
  obtain ⟨⟨e1, e2⟩, ⟨e3, e4⟩, ⟨e5, e6⟩⟩ := Wf_n hWf
  obtain ⟨⟨e7, e8⟩, ⟨e9, e10⟩⟩ := Wf_m hWf
  have p2b := stN_le hWf
  obtain ⟨th, tp, sz, at9, fr, tk, vl, fk, fp, il, up, lo, sa9, tn, q0, q1, q2, q3, q4⟩ := id HQ
  refine Sp_of (by decide) (Nat.le_of_ble_eq_true rfl) ?_
  show Wn _ _ 0 [(0, .ref (71)), (1, .int (o)), (2, .int (nI (y)))] [] _ _
  refine wn_ic (pc' := 1) (w := -1) rfl rfl (by decide) ?_
  refine wn_st (pc' := 2) (q := 3) (kin := 0) (lv' := [(0, .ref (71)), (1, .int (o)), (2, .int (nI (y))), (3, .int (-1))]) rfl (fun _ _ _ => rfl) rfl (Nat.le_of_ble_eq_true rfl) rfl ?_
  refine wn_ic (pc' := 3) (w := nI 0) rfl rfl (by decide) ?_
  refine wn_st (pc' := 5) (q := 4) (kin := 0) (lv' := [(0, .ref (71)), (1, .int (o)), (2, .int (nI (y))), (3, .int (-1)), (4, .int (nI (0)))]) rfl (fun _ _ _ => rfl) rfl (Nat.le_of_ble_eq_true rfl) rfl ?_
  have lp2 : ∀ (n_lp2 : Nat) (g1 : aH) (k : Nat), (stN w) + 1 ≤ k + n_lp2 → RQ h g1 w → k ≤ stN w → Wn (Rn (d + 10)) 200 5 [(0, .ref (71)), (1, .int (o)), (2, .int (nI (y))), (3, .int (oI (fwS (fun x7 => tlW w y o (nI x7)) popc k))), (4, .int (nI (k)))] [] (g1) (fun r9 h9 => r9 = some (.int (oI (fwS (fun x7 => tlW w y o (nI x7)) popc (stN w)))) ∧ RQ h h9 w) := by
    intro n_lp2
    induction n_lp2 with
    | zero => intro g1 k hm_lp2 RT_g1 hk; exfalso; omega
    | succ n_lp2 ih_lp2 =>
      intro g1 k hm_lp2 RT_g1 hk
      obtain ⟨th_g1, tp_g1, sz_g1, at9_g1, fr_g1, tk_g1, vl_g1, fk_g1, fp_g1, il_g1, up_g1, lo_g1, hM_g1, hW_g1⟩ := RT_g1.mh
      refine wn_ld (pc' := 7) (q := 4) (kin := 0) (v := .int (nI (k))) rfl (fun _ _ _ => rfl) rfl rfl ?_
      refine wn_ic (pc' := 8) (w := nI 1) rfl rfl (by decide) ?_
      refine wn_ld (pc' := 9) (q := 0) (kin := 2) (v := .ref (71)) rfl (fun _ _ _ => rfl) rfl rfl ?_
      refine wn_get (pc' := 12) (v := .ref (72)) rfl rfl hM_g1 rfl ?_
      refine wn_ic (pc' := 13) (w := nI 3) rfl rfl (by decide) ?_
      refine wn_ialdv (pc' := 14) (j := 3) (v := (nI (ntW w))) rfl rfl hW_g1 rfl (by omega) (by decide) (e5) ?_
      refine wn_pu (pc' := 15) (st' := [.int ((nI (1)) <<< ((nI (ntW w)) &&& 31)), .int (nI (k))]) rfl (fun _ _ _ => rfl) rfl rfl ?_
      rw [shl_st hWf]
      refine wn_icmpN (t := 55) (f := 18) rfl rfl rfl (by omega) (by omega) (fun c3 => ?_) (fun c3 => ?_)
      · have c3 : (stN w) ≤ k := c3
        obtain rfl : k = stN w := by omega
        refine wn_ld (pc' := 56) (q := 3) (kin := 0) (v := .int (oI (fwS (fun x7 => tlW w y o (nI x7)) popc (stN w)))) rfl (fun _ _ _ => rfl) rfl rfl ?_
        exact wn_iret rfl rfl rfl ⟨rfl, RT_g1⟩
      · have c3 : k < (stN w) := c3
        cases ho9 : fwS (fun x7 => tlW w y o (nI x7)) popc k with
        | none =>
          show Wn _ _ 18 [(0, .ref (71)), (1, .int (o)), (2, .int (nI (y))), (3, .int (-1)), (4, .int (nI (k)))] _ _ _
          refine wn_ld (pc' := 19) (q := 3) (kin := 0) (v := .int (-1)) rfl (fun _ _ _ => rfl) rfl rfl ?_
          refine wn_ic (pc' := 20) (w := -1) rfl rfl (by decide) ?_
          refine wn_icmp (t := 35) (f := 23) rfl rfl rfl (fun c4 => ?_) (fun c4 => ?_)
          · have c4 : ((-1) : Int32) = ((-1)) := c4
            refine wn_ld (pc' := 36) (q := 0) (kin := 2) (v := .ref (71)) rfl (fun _ _ _ => rfl) rfl rfl ?_
            refine wn_ld (pc' := 37) (q := 1) (kin := 0) (v := .int (o)) rfl (fun _ _ _ => rfl) rfl rfl ?_
            refine wn_ld (pc' := 39) (q := 4) (kin := 0) (v := .int (nI (k))) rfl (fun _ _ _ => rfl) rfl rfl ?_
            refine wn_ld (pc' := 40) (q := 2) (kin := 0) (v := .int (nI (y))) rfl (fun _ _ _ => rfl) rfl rfl ?_
            refine wn_virS (pc' := 43) rfl rfl (by decide) rfl rfl hM_g1 (Nat.le_of_ble_eq_true rfl) (m_tellsAll _ _ w hWf RT_g1.2.2.2 o (nI (k)) y (by omega)) (fun r9 h5 e6 => ?_)
            obtain ⟨rfl, RQ_h5⟩ := e6
            have RT_h5 := RQ.tr RT_g1 RQ_h5
            obtain ⟨th_h5, tp_h5, sz_h5, at9_h5, fr_h5, tk_h5, vl_h5, fk_h5, fp_h5, il_h5, up_h5, lo_h5, hM_h5, hW_h5⟩ := RQ_h5.mh
            show Wn _ _ 43 _ [.int (bI (tlW w y o (nI (k))))] h5 _
            refine wn_ifeqB (t := 49) (f := 46) rfl rfl rfl (fun c7 => ?_) (fun c7 => ?_)
            · have c7 : ¬ (tlW w y o (nI (k))) := c7
              refine wn_incN (n := 1) (pc' := 52) (lv' := [(0, .ref (71)), (1, .int (o)), (2, .int (nI (y))), (3, .int (-1)), (4, .int (nI (k + 1)))]) rfl rfl rfl (Nat.le_of_ble_eq_true rfl) rfl (by decide) ?_
              refine wn_jp (pc' := 5) rfl rfl ?_
              refine wn_weak (lv' := [(0, .ref (71)), (1, .int (o)), (2, .int (nI (y))), (3, .int (-1)), (4, .int (nI (k + 1)))]) (by simp) ?_
              have z9 := ih_lp2 h5 (k + 1) (by omega) RT_h5 (by omega)
              rw [show (oI (fwS (fun x7 => tlW w y o (nI x7)) popc (k + 1))) = (-1) from (by exact congrArg oI (fwS_nf ho9 c7))] at z9
              exact z9
            · have c7 : (tlW w y o (nI (k))) := c7
              refine wn_ld (pc' := 48) (q := 4) (kin := 0) (v := .int (nI (k))) rfl (fun _ _ _ => rfl) rfl rfl ?_
              refine wn_st (pc' := 49) (q := 3) (kin := 0) (lv' := [(0, .ref (71)), (1, .int (o)), (2, .int (nI (y))), (3, .int (nI (k))), (4, .int (nI (k)))]) rfl (fun _ _ _ => rfl) rfl (Nat.le_of_ble_eq_true rfl) rfl ?_
              refine wn_incN (n := 1) (pc' := 52) (lv' := [(0, .ref (71)), (1, .int (o)), (2, .int (nI (y))), (3, .int (nI (k))), (4, .int (nI (k + 1)))]) rfl rfl rfl (Nat.le_of_ble_eq_true rfl) rfl (by decide) ?_
              refine wn_jp (pc' := 5) rfl rfl ?_
              refine wn_weak (lv' := [(0, .ref (71)), (1, .int (o)), (2, .int (nI (y))), (3, .int (nI (k))), (4, .int (nI (k + 1)))]) (by simp) ?_
              have z9 := ih_lp2 h5 (k + 1) (by omega) RT_h5 (by omega)
              rw [show (oI (fwS (fun x7 => tlW w y o (nI x7)) popc (k + 1))) = (nI (k)) from (by exact congrArg oI (fwS_nt ho9 c7))] at z9
              exact z9
          · have c4 : ¬ ((-1) : Int32) = ((-1)) := c4
            exact absurd rfl c4
        | some b =>
          have hb9 := fwS_lt ho9
          show Wn _ _ 18 [(0, .ref (71)), (1, .int (o)), (2, .int (nI (y))), (3, .int (nI (b))), (4, .int (nI (k)))] _ _ _
          refine wn_ld (pc' := 19) (q := 3) (kin := 0) (v := .int (nI (b))) rfl (fun _ _ _ => rfl) rfl rfl ?_
          refine wn_ic (pc' := 20) (w := -1) rfl rfl (by decide) ?_
          refine wn_icmp (t := 35) (f := 23) rfl rfl rfl (fun c8 => ?_) (fun c8 => ?_)
          · have c8 : ((nI (b))) = ((-1)) := c8
            exact absurd c8 (nI_m1 (by omega))
          · have c8 : ¬ ((nI (b))) = ((-1)) := c8
            refine wn_ld (pc' := 25) (q := 4) (kin := 0) (v := .int (nI (k))) rfl (fun _ _ _ => rfl) rfl rfl ?_
            have := popc_le k
            refine wn_staI (pc' := 28) rfl rfl (by decide) rfl rfl (Nat.le_of_ble_eq_true rfl) (m_ones _ _ (nI (k))) ?_
            show Wn _ _ _ _ (.int (nI (popc k)) :: _) _ _
            refine wn_ld (pc' := 29) (q := 3) (kin := 0) (v := .int (nI (b))) rfl (fun _ _ _ => rfl) rfl rfl ?_
            have := popc_le b
            refine wn_staI (pc' := 32) rfl rfl (by decide) rfl rfl (Nat.le_of_ble_eq_true rfl) (m_ones _ _ (nI (b))) ?_
            show Wn _ _ _ _ (.int (nI (popc b)) :: _) _ _
            refine wn_icmpN (t := 49) (f := 35) rfl rfl rfl (by omega) (by omega) (fun c9 => ?_) (fun c9 => ?_)
            · have c9 : (popc b) ≤ (popc k) := c9
              refine wn_incN (n := 1) (pc' := 52) (lv' := [(0, .ref (71)), (1, .int (o)), (2, .int (nI (y))), (3, .int (nI (b))), (4, .int (nI (k + 1)))]) rfl rfl rfl (Nat.le_of_ble_eq_true rfl) rfl (by decide) ?_
              refine wn_jp (pc' := 5) rfl rfl ?_
              refine wn_weak (lv' := [(0, .ref (71)), (1, .int (o)), (2, .int (nI (y))), (3, .int (nI (b))), (4, .int (nI (k + 1)))]) (by simp) ?_
              have z9 := ih_lp2 g1 (k + 1) (by omega) RT_g1 (by omega)
              rw [show (oI (fwS (fun x7 => tlW w y o (nI x7)) popc (k + 1))) = (nI (b)) from (by exact congrArg oI (fwS_sf ho9 (fun q => by have := q.1; omega)))] at z9
              exact z9
            · have c9 : (popc k) < (popc b) := c9
              refine wn_ld (pc' := 36) (q := 0) (kin := 2) (v := .ref (71)) rfl (fun _ _ _ => rfl) rfl rfl ?_
              refine wn_ld (pc' := 37) (q := 1) (kin := 0) (v := .int (o)) rfl (fun _ _ _ => rfl) rfl rfl ?_
              refine wn_ld (pc' := 39) (q := 4) (kin := 0) (v := .int (nI (k))) rfl (fun _ _ _ => rfl) rfl rfl ?_
              refine wn_ld (pc' := 40) (q := 2) (kin := 0) (v := .int (nI (y))) rfl (fun _ _ _ => rfl) rfl rfl ?_
              refine wn_virS (pc' := 43) rfl rfl (by decide) rfl rfl hM_g1 (Nat.le_of_ble_eq_true rfl) (m_tellsAll _ _ w hWf RT_g1.2.2.2 o (nI (k)) y (by omega)) (fun r9 h10 e11 => ?_)
              obtain ⟨rfl, RQ_h10⟩ := e11
              have RT_h10 := RQ.tr RT_g1 RQ_h10
              obtain ⟨th_h10, tp_h10, sz_h10, at9_h10, fr_h10, tk_h10, vl_h10, fk_h10, fp_h10, il_h10, up_h10, lo_h10, hM_h10, hW_h10⟩ := RQ_h10.mh
              show Wn _ _ 43 _ [.int (bI (tlW w y o (nI (k))))] h10 _
              refine wn_ifeqB (t := 49) (f := 46) rfl rfl rfl (fun c12 => ?_) (fun c12 => ?_)
              · have c12 : ¬ (tlW w y o (nI (k))) := c12
                refine wn_incN (n := 1) (pc' := 52) (lv' := [(0, .ref (71)), (1, .int (o)), (2, .int (nI (y))), (3, .int (nI (b))), (4, .int (nI (k + 1)))]) rfl rfl rfl (Nat.le_of_ble_eq_true rfl) rfl (by decide) ?_
                refine wn_jp (pc' := 5) rfl rfl ?_
                refine wn_weak (lv' := [(0, .ref (71)), (1, .int (o)), (2, .int (nI (y))), (3, .int (nI (b))), (4, .int (nI (k + 1)))]) (by simp) ?_
                have z9 := ih_lp2 h10 (k + 1) (by omega) RT_h10 (by omega)
                rw [show (oI (fwS (fun x7 => tlW w y o (nI x7)) popc (k + 1))) = (nI (b)) from (by exact congrArg oI (fwS_sf ho9 (fun q => c12 q.2)))] at z9
                exact z9
              · have c12 : (tlW w y o (nI (k))) := c12
                refine wn_ld (pc' := 48) (q := 4) (kin := 0) (v := .int (nI (k))) rfl (fun _ _ _ => rfl) rfl rfl ?_
                refine wn_st (pc' := 49) (q := 3) (kin := 0) (lv' := [(0, .ref (71)), (1, .int (o)), (2, .int (nI (y))), (3, .int (nI (k))), (4, .int (nI (k)))]) rfl (fun _ _ _ => rfl) rfl (Nat.le_of_ble_eq_true rfl) rfl ?_
                refine wn_incN (n := 1) (pc' := 52) (lv' := [(0, .ref (71)), (1, .int (o)), (2, .int (nI (y))), (3, .int (nI (k))), (4, .int (nI (k + 1)))]) rfl rfl rfl (Nat.le_of_ble_eq_true rfl) rfl (by decide) ?_
                refine wn_jp (pc' := 5) rfl rfl ?_
                refine wn_weak (lv' := [(0, .ref (71)), (1, .int (o)), (2, .int (nI (y))), (3, .int (nI (k))), (4, .int (nI (k + 1)))]) (by simp) ?_
                have z9 := ih_lp2 h10 (k + 1) (by omega) RT_h10 (by omega)
                rw [show (oI (fwS (fun x7 => tlW w y o (nI x7)) popc (k + 1))) = (nI (k)) from (by exact congrArg oI (fwS_st ho9 ⟨by omega, c12⟩))] at z9
                exact z9
  refine wn_weak (lv' := [(0, .ref (71)), (1, .int (o)), (2, .int (nI (y))), (3, .int (-1)), (4, .int (nI (0)))]) (by simp) ?_
  have z9 := lp2 ((stN w) + 1) h 0 (by omega) (RQ.rfl' HQ) (by omega)
  rw [show (oI (fwS (fun x7 => tlW w y o (nI x7)) popc 0)) = (-1) from (by rfl)] at z9
  exact z9

noncomputable def tellsA (w : Nat → Int32) (y : Int32) : Int32 := qI (iin y 61) (oI (fwS (fun x7 => tlW w y.toNatClampNeg (-1) (nI x7)) popc (stN w))) (-2)
noncomputable def aloneA (w : Nat → Int32) (v y : Int32) : Int32 := qI (iin v (nvW w) ∧ iin y 61) (oI (fwS (fun x7 => tlW w y.toNatClampNeg v (nI x7)) popc (stN w))) (-2)
theorem m_tells (d : Nat) (h : aH) (w : Nat → Int32) (hWf : WfW w) (HQ : MQs h w) (y : Int32) : Sp (Rn (d + 12)) 201 [.ref (71), .int (y)] h (fun r9 h9 => r9 = some (.int (tellsA w y)) ∧ RQ h h9 w) := by
  obtain ⟨⟨e1, e2⟩, ⟨e3, e4⟩, ⟨e5, e6⟩⟩ := Wf_n hWf
  obtain ⟨⟨e7, e8⟩, ⟨e9, e10⟩⟩ := Wf_m hWf
  have p2b := stN_le hWf
  obtain ⟨th, tp, sz, at9, fr, tk, vl, fk, fp, il, up, lo, sa9, tn, q0, q1, q2, q3, q4⟩ := id HQ
  refine Sp_of (by decide) (Nat.le_of_ble_eq_true rfl) ?_
  show Wn _ _ 0 [(0, .ref (71)), (1, .int (y))] [] _ _
  refine wn_ld (pc' := 1) (q := 1) (kin := 0) (v := .int (y)) rfl (fun _ _ _ => rfl) rfl rfl ?_
  refine wn_staI (pc' := 4) rfl rfl (by decide) rfl rfl (Nat.le_of_ble_eq_true rfl) (m_isYear _ _ _) ?_
  refine wn_ifeqB (t := 16) (f := 7) rfl rfl rfl (fun c1 => ?_) (fun c1 => ?_)
  · have c1 : ¬ (iin y 61) := c1
    refine wn_bp (pc' := 18) (w := -2) rfl rfl (by decide) ?_
    try simp only [Int32.lt_iff_toInt_lt, Int32.le_iff_toInt_le, i2l_int, Int32.toInt_zero, iin] at c1
    refine wn_iret rfl rfl rfl ⟨congrArg (fun z => some (Value.int z)) ?_, (RQ.rfl' HQ)⟩
    unfold tellsA
    rw [qI_f (by simp only [iin]; omega)]
  · have c1 : (iin y 61) := c1
    obtain ⟨y9, hy9, rfl⟩ := iin_of c1
    have ti_y := nI_toInt (n := y9) (show y9 < 2 ^ 31 by omega)
    have cl_y := nI_clamp (n := y9) (show y9 < 2 ^ 31 by omega)
    refine wn_ld (pc' := 8) (q := 0) (kin := 2) (v := .ref (71)) rfl (fun _ _ _ => rfl) rfl rfl ?_
    refine wn_ic (pc' := 9) (w := -1) rfl rfl (by decide) ?_
    refine wn_ld (pc' := 10) (q := 1) (kin := 0) (v := .int (nI (y9))) rfl (fun _ _ _ => rfl) rfl rfl ?_
    refine wn_virS (pc' := 13) rfl rfl (by decide) rfl rfl q0 (Nat.le_of_ble_eq_true rfl) (m_fewest _ _ w hWf HQ (-1) y9 (by omega)) (fun r9 h2 e3 => ?_)
    obtain ⟨rfl, RQ_h2⟩ := e3
    have RT_h2 := RQ.tr (RQ.rfl' HQ) RQ_h2
    obtain ⟨th_h2, tp_h2, sz_h2, at9_h2, fr_h2, tk_h2, vl_h2, fk_h2, fp_h2, il_h2, up_h2, lo_h2, hM_h2, hW_h2⟩ := RQ_h2.mh
    show Wn _ _ 13 _ [.int (oI (fwS (fun x7 => tlW w y9 (-1) (nI x7)) popc (stN w)))] h2 _
    refine wn_jp (pc' := 18) rfl rfl ?_
    try simp only [Int32.lt_iff_toInt_lt, Int32.le_iff_toInt_le, i2l_int, Int32.toInt_zero, iin] at c1
    refine wn_iret rfl rfl rfl ⟨congrArg (fun z => some (Value.int z)) ?_, RT_h2⟩
    unfold tellsA
    rw [qI_t (by simp only [iin]; omega)]
    first | rfl | (simp only [cl_y]; done) | (simp only [cl_y]; rfl)

theorem m_alone (d : Nat) (h : aH) (w : Nat → Int32) (hWf : WfW w) (HQ : MQs h w) (v y : Int32) : Sp (Rn (d + 12)) 202 [.ref (71), .int (v), .int (y)] h (fun r9 h9 => r9 = some (.int (aloneA w v y)) ∧ RQ h h9 w) := by
  obtain ⟨⟨e1, e2⟩, ⟨e3, e4⟩, ⟨e5, e6⟩⟩ := Wf_n hWf
  obtain ⟨⟨e7, e8⟩, ⟨e9, e10⟩⟩ := Wf_m hWf
  have p2b := stN_le hWf
  obtain ⟨th, tp, sz, at9, fr, tk, vl, fk, fp, il, up, lo, sa9, tn, q0, q1, q2, q3, q4⟩ := id HQ
  refine Sp_of (by decide) (Nat.le_of_ble_eq_true rfl) ?_
  show Wn _ _ 0 [(0, .ref (71)), (1, .int (v)), (2, .int (y))] [] _ _
  refine wn_ld (pc' := 1) (q := 0) (kin := 2) (v := .ref (71)) rfl (fun _ _ _ => rfl) rfl rfl ?_
  refine wn_ld (pc' := 2) (q := 1) (kin := 0) (v := .int (v)) rfl (fun _ _ _ => rfl) rfl rfl ?_
  refine wn_virI (pc' := 5) rfl rfl (by decide) rfl rfl q0 (Nat.le_of_ble_eq_true rfl) (m_isVillage _ _ w HQ.mh _ e1 (by omega) _) ?_
  refine wn_ifeqB (t := 24) (f := 8) rfl rfl rfl (fun c1 => ?_) (fun c1 => ?_)
  · have c1 : ¬ (iin v (nvW w)) := c1
    refine wn_bp (pc' := 26) (w := -2) rfl rfl (by decide) ?_
    try simp only [Int32.lt_iff_toInt_lt, Int32.le_iff_toInt_le, i2l_int, Int32.toInt_zero, iin] at c1
    refine wn_iret rfl rfl rfl ⟨congrArg (fun z => some (Value.int z)) ?_, (RQ.rfl' HQ)⟩
    unfold aloneA
    rw [qI_f (by simp only [iin]; omega)]
  · have c1 : (iin v (nvW w)) := c1
    obtain ⟨v9, hv9, rfl⟩ := iin_of c1
    have ti_v := nI_toInt (n := v9) (show v9 < 2 ^ 31 by omega)
    have cl_v := nI_clamp (n := v9) (show v9 < 2 ^ 31 by omega)
    refine wn_ld (pc' := 9) (q := 2) (kin := 0) (v := .int (y)) rfl (fun _ _ _ => rfl) rfl rfl ?_
    refine wn_staI (pc' := 12) rfl rfl (by decide) rfl rfl (Nat.le_of_ble_eq_true rfl) (m_isYear _ _ _) ?_
    refine wn_ifeqB (t := 24) (f := 15) rfl rfl rfl (fun c2 => ?_) (fun c2 => ?_)
    · have c2 : ¬ (iin y 61) := c2
      refine wn_bp (pc' := 26) (w := -2) rfl rfl (by decide) ?_
      try simp only [Int32.lt_iff_toInt_lt, Int32.le_iff_toInt_le, i2l_int, Int32.toInt_zero, iin] at c1
      try simp only [Int32.lt_iff_toInt_lt, Int32.le_iff_toInt_le, i2l_int, Int32.toInt_zero, iin] at c2
      refine wn_iret rfl rfl rfl ⟨congrArg (fun z => some (Value.int z)) ?_, (RQ.rfl' HQ)⟩
      unfold aloneA
      rw [qI_f (by simp only [iin]; omega)]
    · have c2 : (iin y 61) := c2
      obtain ⟨y9, hy9, rfl⟩ := iin_of c2
      have ti_y := nI_toInt (n := y9) (show y9 < 2 ^ 31 by omega)
      have cl_y := nI_clamp (n := y9) (show y9 < 2 ^ 31 by omega)
      refine wn_ld (pc' := 16) (q := 0) (kin := 2) (v := .ref (71)) rfl (fun _ _ _ => rfl) rfl rfl ?_
      refine wn_ld (pc' := 17) (q := 1) (kin := 0) (v := .int (nI (v9))) rfl (fun _ _ _ => rfl) rfl rfl ?_
      refine wn_ld (pc' := 18) (q := 2) (kin := 0) (v := .int (nI (y9))) rfl (fun _ _ _ => rfl) rfl rfl ?_
      refine wn_virS (pc' := 21) rfl rfl (by decide) rfl rfl q0 (Nat.le_of_ble_eq_true rfl) (m_fewest _ _ w hWf HQ (nI (v9)) y9 (by omega)) (fun r9 h3 e4 => ?_)
      obtain ⟨rfl, RQ_h3⟩ := e4
      have RT_h3 := RQ.tr (RQ.rfl' HQ) RQ_h3
      obtain ⟨th_h3, tp_h3, sz_h3, at9_h3, fr_h3, tk_h3, vl_h3, fk_h3, fp_h3, il_h3, up_h3, lo_h3, hM_h3, hW_h3⟩ := RQ_h3.mh
      show Wn _ _ 21 _ [.int (oI (fwS (fun x7 => tlW w y9 (nI (v9)) (nI x7)) popc (stN w)))] h3 _
      refine wn_jp (pc' := 26) rfl rfl ?_
      try simp only [Int32.lt_iff_toInt_lt, Int32.le_iff_toInt_le, i2l_int, Int32.toInt_zero, iin] at c1
      try simp only [Int32.lt_iff_toInt_lt, Int32.le_iff_toInt_le, i2l_int, Int32.toInt_zero, iin] at c2
      refine wn_iret rfl rfl rfl ⟨congrArg (fun z => some (Value.int z)) ?_, RT_h3⟩
      unfold aloneA
      rw [qI_t (by simp only [iin]; omega)]
      first | rfl | (simp only [cl_v, cl_y]; done) | (simp only [cl_v, cl_y]; rfl)

