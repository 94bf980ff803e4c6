/-! THE CLASS'S questions, third part: what is noted, who leans; cases -/
theorem leS_is (f : Nat → Nat) (n : Nat) : (leS f n = (-1, 0) ∧ ∀ k, k < n → f k = 0) ∨ ∃ b, leS f n = (nI b, f b) ∧ isMx f 0 n b ∧ 0 < f b := by
  induction n with
  | zero => exact Or.inl ⟨rfl, fun k hk => absurd hk (by omega)⟩
  | succ n ih =>
    rcases ih with ⟨e, hz⟩ | ⟨b, e, hb, h0⟩
    · by_cases c : f n = 0
      · left
        refine ⟨(leS_f (by rw [e]; show f n ≤ 0; omega)).trans e, fun k hk => ?_⟩
        by_cases d : k = n
        · rw [d]; exact c
        · exact hz k (by omega)
      · right
        refine ⟨n, leS_t (by rw [e]; show ¬ f n ≤ 0; omega), ⟨Nat.zero_le _, by omega, fun j _ hj => ?_, fun j _ hj => ?_⟩, by omega⟩
        · by_cases d : j = n
          · rw [d]; exact Nat.le_refl _
          · have := hz j (by omega); omega
        · have := hz j hj; omega
    · right
      by_cases c : f n ≤ f b
      · refine ⟨b, (leS_f (by rw [e]; exact c)).trans e, ⟨hb.1, by have := hb.2.1; omega, fun j h1 hj => ?_, hb.2.2.2⟩, h0⟩
        by_cases d : j = n
        · rw [d]; exact c
        · exact hb.2.2.1 j h1 (by omega)
      · refine ⟨n, leS_t (by rw [e]; exact c), ⟨Nat.zero_le _, by omega, fun j h1 hj => ?_, fun j h1 hj => ?_⟩, by omega⟩
        · by_cases d : j = n
          · rw [d]; exact Nat.le_refl _
          · have := hb.2.2.1 j h1 (by omega); omega
        · have := hb.2.2.1 j h1 hj; omega
theorem leS_mo {w : Nat → Int32} {v i : Nat} : (leS (nsF w v i) 5).1 = oI (moW w v i) := by
  rcases leS_is (nsF w v i) 5 with ⟨e, hz⟩ | ⟨b, e, hb, h0⟩
  · rw [e, moW_0 hz]; rfl
  · rw [e, moW_mx hb h0]; rfl
def amN (f : Nat → Nat) : Nat → Nat
  | 0 => 0
  | k + 1 => if f (amN f k) < f (k + 1) then k + 1 else amN f k
theorem amN_le (f : Nat → Nat) (k : Nat) : amN f k ≤ k := by
  induction k with
  | zero => exact Nat.le_refl _
  | succ k ih => show (if f (amN f k) < f (k + 1) then k + 1 else amN f k) ≤ _; split <;> omega
theorem amN_t {f : Nat → Nat} {k : Nat} (h : f (amN f k) < f (k + 1)) : amN f (k + 1) = k + 1 := if_pos h
theorem amN_f {f : Nat → Nat} {k : Nat} (h : ¬ f (amN f k) < f (k + 1)) : amN f (k + 1) = amN f k := if_neg h
theorem amN_eq (f : Nat → Nat) (k : Nat) : amx f (k + 1) = some (amN f k) := by
  induction k with
  | zero => rfl
  | succ k ih =>
    by_cases c : f (amN f k) < f (k + 1)
    · rw [amx_t ih c, amN_t c]
    · rw [amx_f ih (by omega), amN_f c]
theorem leS_am {f : Nat → Nat} {n x : Nat} (hx : x < n + 1) (h0 : 0 < f x) : (leS f (n + 1)).1 = nI (amN f n) := by
  rcases leS_is f (n + 1) with ⟨e, hz⟩ | ⟨b, e, hb, _⟩
  · have := hz x hx; omega
  · have := amx_eq hb
    rw [amN_eq] at this
    injection this with this
    rw [e, this]
theorem cnt_pos {p : Nat → Prop} {n k : Nat} (hk : k < n) (h : p k) : 0 < cntP p n := by
  have := cnt_up (p := fun _ => False) (q := p) (b := k) n (fun _ _ q => q.elim) hk h (fun q => q)
  omega
theorem ls_pos {w : Nat → Int32} (hWf : WfW w) {a : Int32} {i : Nat} (h : lsW w a i) : ∃ x, x < 5 ∧ 0 < lnC w a i x := by
  obtain ⟨_, r, hr, hc, hb⟩ := h
  obtain ⟨b1, b2, _⟩ := wf_rdb hWf hr
  obtain ⟨c1, c2, c3, c4⟩ := hc
  have key : ∀ v, v < nvW w → w (9 + 2 * v) = a → ¬ oI (moW w v i) = -1 → ∃ x, x < 5 ∧ 0 < lnC w a i x := by
    intro v hv e n
    cases hm : moW w v i with
    | none => rw [hm] at n; exact absurd rfl n
    | some x => exact ⟨x, moW_5 hm, cnt_pos (p := fun v => w (9 + 2 * v) = a ∧ oI (moW w v i) = nI x) hv ⟨e, by rw [hm]; rfl⟩⟩
  rcases hb with hb | hb
  · exact key _ b1 hb.1 c3
  · exact key _ b2 hb.2 c4
theorem sw_df {df hi : Int} (m : Nat) {offs : Array Int} {x : Int32} (hm : m < 2 ^ 31) (h : ∀ k, k ≤ m → ¬ x = nI k) (hh : hi = (m : Int)) : swOff df 0 hi offs x = some df := by
  subst hh
  refine if_pos (Classical.byContradiction (fun q => ?_))
  have q0 : 0 ≤ x.toInt ∧ x.toInt ≤ (m : Int) := by omega
  obtain ⟨j, hj, e⟩ := iin_of (x := x) (n := m + 1) ⟨q0.1, by omega⟩
  exact h j (by omega) e
theorem x_commonest (d : Nat) (h : aH) (ls : Nat) (w : Nat → Int32) (hWf : WfW w) (V : XV h ls w) (v i : Nat) (hv9 : v < nvW w) (hi : i < ntW w) : Rn (d + 2) 21 [.ref (47), .int (nI (v)), .int (nI (i))] h (some (.int (oI (moW w v i)))) h 0 0 := by
  obtain ⟨⟨e1, e2⟩, ⟨e3, e4⟩, ⟨e5, e6⟩⟩ := Wf_n hWf
  obtain ⟨⟨e7, e8⟩, ⟨e9, e10⟩⟩ := Wf_m hWf
  obtain ⟨v0, ⟨x9, v1⟩, ⟨v2, ⟨sz, rf, rt, rv, ag, vr, sd, tl, l0, l1, l2, l3, l4, l5, l6, l7, l8, g1, g2, g3, g4, g5⟩, ⟨sec, it, fi, se, sg, lst, rs, rp, pj, pk, pv, k0, k1, k2, k3, k4, k5, k6, k7, k8, k9, k10, k11, k12, k13⟩, ⟨hv, hc, y0, y1, y2, y3, y4⟩, ⟨an, wk, n0, n1, n2, n3, n4⟩⟩, v3⟩ := id V
  rw [e1, e3, e5] at l0
  rw [e7, e9] at k1
  refine Rn_of (by decide) (Nat.le_of_ble_eq_true rfl) ?_
  show Wn _ _ 0 [(0, .ref (47)), (1, .int (nI (v))), (2, .int (nI (i)))] [] _ _
  refine wn_ic (pc' := 1) (w := -1) rfl rfl (by decide) ?_
  refine wn_st (pc' := 2) (q := 3) (kin := 0) (lv' := [(0, .ref (47)), (1, .int (nI (v))), (2, .int (nI (i))), (3, .int (-1))]) rfl (fun _ _ _ => rfl) rfl (Nat.le_of_ble_eq_true rfl) rfl ?_
  refine wn_ic (pc' := 3) (w := nI 0) rfl rfl (by decide) ?_
  refine wn_st (pc' := 5) (q := 4) (kin := 0) (lv' := [(0, .ref (47)), (1, .int (nI (v))), (2, .int (nI (i))), (3, .int (-1)), (4, .int (nI (0)))]) rfl (fun _ _ _ => rfl) rfl (Nat.le_of_ble_eq_true rfl) rfl ?_
  refine wn_ic (pc' := 6) (w := nI 0) rfl rfl (by decide) ?_
  refine wn_st (pc' := 8) (q := 5) (kin := 0) (lv' := [(0, .ref (47)), (1, .int (nI (v))), (2, .int (nI (i))), (3, .int (-1)), (4, .int (nI (0))), (5, .int (nI (0)))]) rfl (fun _ _ _ => rfl) rfl (Nat.le_of_ble_eq_true rfl) rfl ?_
  have lp1 : ∀ (n_lp1 : Nat) (a : Nat), 5 + 1 ≤ a + n_lp1 → a ≤ 5 → (leS (nsF w v i) a).2 ≤ 9 → Wn (Rn (d + 1)) 21 8 [(0, .ref (47)), (1, .int (nI (v))), (2, .int (nI (i))), (3, .int ((leS (nsF w v i) a).1)), (4, .int (nI ((leS (nsF w v i) a).2))), (5, .int (nI (a)))] [] (h) (fun r9 h9 => r9 = (some (.int (oI (moW w v i)))) ∧ h9 = h) := by
    intro n_lp1
    induction n_lp1 with
    | zero => intro a hm_lp1 ha hL; exfalso; omega
    | succ n_lp1 ih_lp1 =>
      intro a hm_lp1 ha hL
      refine wn_ld (pc' := 10) (q := 5) (kin := 0) (v := .int (nI (a))) rfl (fun _ _ _ => rfl) rfl rfl ?_
      refine wn_ic (pc' := 11) (w := nI 5) rfl rfl (by decide) ?_
      refine wn_icmpN (t := 48) (f := 14) rfl rfl rfl (by omega) (by omega) (fun c2 => ?_) (fun c2 => ?_)
      · have c2 : 5 ≤ a := c2
        obtain rfl : a = 5 := by omega
        refine wn_ld (pc' := 49) (q := 3) (kin := 0) (v := .int ((leS (nsF w v i) 5).1)) rfl (fun _ _ _ => rfl) rfl rfl ?_
        exact wn_iret rfl rfl rfl ⟨congrArg (fun z => some (Value.int z)) leS_mo, rfl⟩
      · have c2 : a < 5 := c2
        refine wn_ld (pc' := 15) (q := 0) (kin := 2) (v := .ref (47)) rfl (fun _ _ _ => rfl) rfl rfl ?_
        refine wn_get (pc' := 18) (v := .ref (48)) rfl rfl n0 rfl ?_
        refine wn_ld (pc' := 19) (q := 1) (kin := 0) (v := .int (nI (v))) rfl (fun _ _ _ => rfl) rfl rfl ?_
        refine wn_ld (pc' := 20) (q := 2) (kin := 0) (v := .int (nI (i))) rfl (fun _ _ _ => rfl) rfl rfl ?_
        refine wn_ld (pc' := 22) (q := 5) (kin := 0) (v := .int (nI (a))) rfl (fun _ _ _ => rfl) rfl rfl ?_
        refine wn_staI (pc' := 25) rfl rfl (by decide) rfl rfl (Nat.le_of_ble_eq_true rfl) (x_place _ _ v i a) ?_
        have := nsF_b hWf (show v < nvW w by omega) (show i < ntW w by omega) (show a < 5 by omega)
        refine wn_ialdv (pc' := 26) (j := (v * 10 + i) * 5 + a) (v := (nI (nsF w v i a))) rfl rfl n1 rfl (by omega) (by decide) ((n3 _ (by omega)).trans (wf_ns hWf (by omega))) ?_
        refine wn_st (pc' := 28) (q := 6) (kin := 0) (lv' := [(0, .ref (47)), (1, .int (nI (v))), (2, .int (nI (i))), (3, .int ((leS (nsF w v i) a).1)), (4, .int (nI ((leS (nsF w v i) a).2))), (5, .int (nI (a))), (6, .int (nI (nsF w v i a)))]) rfl (fun _ _ _ => rfl) rfl (Nat.le_of_ble_eq_true rfl) rfl ?_
        refine wn_ld (pc' := 30) (q := 6) (kin := 0) (v := .int (nI (nsF w v i a))) rfl (fun _ _ _ => rfl) rfl rfl ?_
        refine wn_ld (pc' := 32) (q := 4) (kin := 0) (v := .int (nI ((leS (nsF w v i) a).2))) rfl (fun _ _ _ => rfl) rfl rfl ?_
        refine wn_icmpN (t := 42) (f := 35) rfl rfl rfl (by omega) (by omega) (fun c3 => ?_) (fun c3 => ?_)
        · have c3 : (nsF w v i a) ≤ ((leS (nsF w v i) a).2) := c3
          refine wn_incN (n := 1) (pc' := 45) (lv' := [(0, .ref (47)), (1, .int (nI (v))), (2, .int (nI (i))), (3, .int ((leS (nsF w v i) a).1)), (4, .int (nI ((leS (nsF w v i) a).2))), (5, .int (nI (a + 1))), (6, .int (nI (nsF w v i a)))]) rfl rfl rfl (Nat.le_of_ble_eq_true rfl) rfl (by decide) ?_
          refine wn_jp (pc' := 8) rfl rfl ?_
          refine wn_weak (lv' := [(0, .ref (47)), (1, .int (nI (v))), (2, .int (nI (i))), (3, .int ((leS (nsF w v i) a).1)), (4, .int (nI ((leS (nsF w v i) a).2))), (5, .int (nI (a + 1)))]) (by simp) ?_
          have z9 := ih_lp1 (a + 1) (by omega) (by omega) (by rw [leS_f (f := nsF w v i) (k := a) (by omega)]; (first | exact hL | (show nsF w v i a ≤ 9; omega)))
          rw [show ((leS (nsF w v i) (a + 1)).1) = ((leS (nsF w v i) a).1) from (by exact (congrArg Prod.fst (leS_f (f := nsF w v i) (k := a) (by omega))).trans rfl)] at z9
          rw [show (nI ((leS (nsF w v i) (a + 1)).2)) = (nI ((leS (nsF w v i) a).2)) from (by exact (congrArg (fun q => nI q.2) (leS_f (f := nsF w v i) (k := a) (by omega))).trans rfl)] at z9
          exact z9
        · have c3 : ((leS (nsF w v i) a).2) < (nsF w v i a) := c3
          refine wn_ld (pc' := 37) (q := 6) (kin := 0) (v := .int (nI (nsF w v i a))) rfl (fun _ _ _ => rfl) rfl rfl ?_
          refine wn_st (pc' := 39) (q := 4) (kin := 0) (lv' := [(0, .ref (47)), (1, .int (nI (v))), (2, .int (nI (i))), (3, .int ((leS (nsF w v i) a).1)), (4, .int (nI (nsF w v i a))), (5, .int (nI (a))), (6, .int (nI (nsF w v i a)))]) rfl (fun _ _ _ => rfl) rfl (Nat.le_of_ble_eq_true rfl) rfl ?_
          refine wn_ld (pc' := 41) (q := 5) (kin := 0) (v := .int (nI (a))) rfl (fun _ _ _ => rfl) rfl rfl ?_
          refine wn_st (pc' := 42) (q := 3) (kin := 0) (lv' := [(0, .ref (47)), (1, .int (nI (v))), (2, .int (nI (i))), (3, .int (nI (a))), (4, .int (nI (nsF w v i a))), (5, .int (nI (a))), (6, .int (nI (nsF w v i a)))]) rfl (fun _ _ _ => rfl) rfl (Nat.le_of_ble_eq_true rfl) rfl ?_
          refine wn_incN (n := 1) (pc' := 45) (lv' := [(0, .ref (47)), (1, .int (nI (v))), (2, .int (nI (i))), (3, .int (nI (a))), (4, .int (nI (nsF w v i a))), (5, .int (nI (a + 1))), (6, .int (nI (nsF w v i a)))]) rfl rfl rfl (Nat.le_of_ble_eq_true rfl) rfl (by decide) ?_
          refine wn_jp (pc' := 8) rfl rfl ?_
          refine wn_weak (lv' := [(0, .ref (47)), (1, .int (nI (v))), (2, .int (nI (i))), (3, .int (nI (a))), (4, .int (nI (nsF w v i a))), (5, .int (nI (a + 1)))]) (by simp) ?_
          have z9 := ih_lp1 (a + 1) (by omega) (by omega) (by rw [leS_t (f := nsF w v i) (k := a) (by omega)]; (first | exact hL | (show nsF w v i a ≤ 9; omega)))
          rw [show ((leS (nsF w v i) (a + 1)).1) = (nI (a)) from (by exact (congrArg Prod.fst (leS_t (f := nsF w v i) (k := a) (by omega))).trans rfl)] at z9
          rw [show (nI ((leS (nsF w v i) (a + 1)).2)) = (nI (nsF w v i a)) from (by exact (congrArg (fun q => nI q.2) (leS_t (f := nsF w v i) (k := a) (by omega))).trans rfl)] at z9
          exact z9
  refine wn_weak (lv' := [(0, .ref (47)), (1, .int (nI (v))), (2, .int (nI (i))), (3, .int (-1)), (4, .int (nI (0))), (5, .int (nI (0)))]) (by simp) ?_
  have z9 := lp1 (5 + 1) 0 (by omega) (by omega) (by show 0 ≤ 9; omega)
  rw [show ((leS (nsF w v i) 0).1) = (-1) from (by rfl)] at z9
  rw [show (nI ((leS (nsF w v i) 0).2)) = (nI (0)) from (by rfl)] at z9
  exact z9

theorem x_mostly (d : Nat) (h : aH) (ls : Nat) (w : Nat → Int32) (hWf : WfW w) (V : XV h ls w) (R0 : RX h h ls w) (v i : Int32) : Sp (Rn (d + 3)) 111 [.ref (0), .int (v), .int (i)] h (fun r9 h9 => r9 = some (.int (mostlyA w v i)) ∧ RX h h9 ls w) := by
  obtain ⟨⟨e1, e2⟩, ⟨e3, e4⟩, ⟨e5, e6⟩⟩ := Wf_n hWf
  obtain ⟨⟨e7, e8⟩, ⟨e9, e10⟩⟩ := Wf_m hWf
  obtain ⟨v0, ⟨x9, v1⟩, ⟨v2, ⟨sz, rf, rt, rv, ag, vr, sd, tl, l0, l1, l2, l3, l4, l5, l6, l7, l8, g1, g2, g3, g4, g5⟩, ⟨sec, it, fi, se, sg, lst, rs, rp, pj, pk, pv, k0, k1, k2, k3, k4, k5, k6, k7, k8, k9, k10, k11, k12, k13⟩, ⟨hv, hc, y0, y1, y2, y3, y4⟩, ⟨an, wk, n0, n1, n2, n3, n4⟩⟩, v3⟩ := id V
  rw [e1, e3, e5] at l0
  rw [e7, e9] at k1
  refine Sp_of (by decide) (Nat.le_of_ble_eq_true rfl) ?_
  show Wn _ _ 0 [(0, .ref (0)), (1, .int (v)), (2, .int (i))] [] _ _
  refine wn_ld (pc' := 1) (q := 0) (kin := 2) (v := .ref (0)) rfl (fun _ _ _ => rfl) rfl rfl ?_
  refine wn_ld (pc' := 2) (q := 1) (kin := 0) (v := .int (v)) rfl (fun _ _ _ => rfl) rfl rfl ?_
  refine wn_virI (pc' := 5) rfl rfl (by decide) rfl rfl v1 (Nat.le_of_ble_eq_true rfl) (x_hasVillage _ _ ls w hWf V _) ?_
  refine wn_ifeqB (t := 16) (f := 8) rfl rfl rfl (fun c1 => ?_) (fun c1 => ?_)
  · have c1 : ¬ (iin v (nvW w)) := c1
    refine wn_bp (pc' := 18) (w := -2) rfl rfl (by decide) ?_
    try simp only [Int32.lt_iff_toInt_lt, Int32.le_iff_toInt_le, i2l_int, Int32.toInt_zero, iin] at c1
    refine wn_iret rfl rfl rfl ⟨congrArg (fun z => some (Value.int z)) ?_, (RY.rx (RY.rfl' R0.2.2.1) R0.2.2.2)⟩
    unfold mostlyA
    rw [qI_f (by simp only [iin]; omega)]
  · have c1 : (iin v (nvW w)) := c1
    obtain ⟨v9, hv9, rfl⟩ := iin_of c1
    have ti_v := nI_toInt (n := v9) (show v9 < 2 ^ 31 by omega)
    have cl_v := nI_clamp (n := v9) (show v9 < 2 ^ 31 by omega)
    refine wn_ld (pc' := 9) (q := 0) (kin := 2) (v := .ref (0)) rfl (fun _ _ _ => rfl) rfl rfl ?_
    refine wn_ld (pc' := 10) (q := 2) (kin := 0) (v := .int (i)) rfl (fun _ _ _ => rfl) rfl rfl ?_
    refine wn_virI (pc' := 13) rfl rfl (by decide) rfl rfl v1 (Nat.le_of_ble_eq_true rfl) (x_hasItem _ _ ls w hWf V _) ?_
    refine wn_ifneB (t := 19) (f := 16) rfl rfl rfl (fun c2 => ?_) (fun c2 => ?_)
    · have c2 : (iin i (ntW w)) := c2
      obtain ⟨i9, hi9, rfl⟩ := iin_of c2
      have ti_i := nI_toInt (n := i9) (show i9 < 2 ^ 31 by omega)
      have cl_i := nI_clamp (n := i9) (show i9 < 2 ^ 31 by omega)
      refine wn_ld (pc' := 20) (q := 0) (kin := 2) (v := .ref (0)) rfl (fun _ _ _ => rfl) rfl rfl ?_
      refine wn_get (pc' := 23) (v := .ref (23)) rfl rfl v1 rfl ?_
      refine wn_get (pc' := 26) (v := .ref (47)) rfl rfl v2 rfl ?_
      refine wn_ld (pc' := 27) (q := 1) (kin := 0) (v := .int (nI (v9))) rfl (fun _ _ _ => rfl) rfl rfl ?_
      refine wn_ld (pc' := 28) (q := 2) (kin := 0) (v := .int (nI (i9))) rfl (fun _ _ _ => rfl) rfl rfl ?_
      refine wn_virI (pc' := 31) rfl rfl (by decide) rfl rfl n0 (Nat.le_of_ble_eq_true rfl) (x_commonest _ _ ls w hWf V v9 i9 (by omega) (by omega)) ?_
      try simp only [Int32.lt_iff_toInt_lt, Int32.le_iff_toInt_le, i2l_int, Int32.toInt_zero, iin] at c1
      try simp only [Int32.lt_iff_toInt_lt, Int32.le_iff_toInt_le, i2l_int, Int32.toInt_zero, iin] at c2
      refine wn_iret rfl rfl rfl ⟨congrArg (fun z => some (Value.int z)) ?_, (RY.rx (RY.rfl' R0.2.2.1) R0.2.2.2)⟩
      unfold mostlyA
      rw [qI_t (by simp only [iin]; omega)]
      first | rfl | (simp only [cl_v, cl_i]; done) | (simp only [cl_v, cl_i]; rfl)
    · have c2 : ¬ (iin i (ntW w)) := c2
      refine wn_bp (pc' := 18) (w := -2) rfl rfl (by decide) ?_
      try simp only [Int32.lt_iff_toInt_lt, Int32.le_iff_toInt_le, i2l_int, Int32.toInt_zero, iin] at c1
      try simp only [Int32.lt_iff_toInt_lt, Int32.le_iff_toInt_le, i2l_int, Int32.toInt_zero, iin] at c2
      refine wn_iret rfl rfl rfl ⟨congrArg (fun z => some (Value.int z)) ?_, (RY.rx (RY.rfl' R0.2.2.1) R0.2.2.2)⟩
      unfold mostlyA
      rw [qI_f (by simp only [iin]; omega)]

theorem case_29 (v : Int32) (i : Int32) : CaseI Rp 111 223 [.int v, .int i] := case_q (fun h ls w hWf V R => ⟨_, x_mostly 697 h ls w hWf V R v i, fun h1 HQ => m_mostly 697 h1 w hWf HQ v i⟩)
theorem x_off (d : Nat) (h : aH) (ls : Nat) (w : Nat → Int32) (hWf : WfW w) (V : XV h ls w) (R0 : RX h h ls w) (i y : Int32) : Sp (Rn (d + 7)) 112 [.ref (0), .int (i), .int (y)] h (fun r9 h9 => r9 = some (.int (offA w i y)) ∧ RX h h9 ls w) := by
  obtain ⟨⟨e1, e2⟩, ⟨e3, e4⟩, ⟨e5, e6⟩⟩ := Wf_n hWf
  obtain ⟨⟨e7, e8⟩, ⟨e9, e10⟩⟩ := Wf_m hWf
  obtain ⟨v0, ⟨x9, v1⟩, ⟨v2, ⟨sz, rf, rt, rv, ag, vr, sd, tl, l0, l1, l2, l3, l4, l5, l6, l7, l8, g1, g2, g3, g4, g5⟩, ⟨sec, it, fi, se, sg, lst, rs, rp, pj, pk, pv, k0, k1, k2, k3, k4, k5, k6, k7, k8, k9, k10, k11, k12, k13⟩, ⟨hv, hc, y0, y1, y2, y3, y4⟩, ⟨an, wk, n0, n1, n2, n3, n4⟩⟩, v3⟩ := id V
  rw [e1, e3, e5] at l0
  rw [e7, e9] at k1
  refine Sp_of (by decide) (Nat.le_of_ble_eq_true rfl) ?_
  show Wn _ _ 0 [(0, .ref (0)), (1, .int (i)), (2, .int (y))] [] _ _
  refine wn_ld (pc' := 1) (q := 0) (kin := 2) (v := .ref (0)) rfl (fun _ _ _ => rfl) rfl rfl ?_
  refine wn_ld (pc' := 2) (q := 1) (kin := 0) (v := .int (i)) rfl (fun _ _ _ => rfl) rfl rfl ?_
  refine wn_ld (pc' := 3) (q := 2) (kin := 0) (v := .int (y)) rfl (fun _ _ _ => rfl) rfl rfl ?_
  refine wn_virS (pc' := 6) rfl rfl (by decide) rfl rfl v1 (Nat.le_of_ble_eq_true rfl) (x_reachesItem _ _ ls w hWf V R0.2.2.1 i y) (fun r9 h1 e2 => ?_)
  obtain ⟨rfl, R_h1, Rc_h1⟩ := e2
  have RY_h1 := RY.tr (RY.rfl' R0.2.2.1) R_h1
  have V_h1 := RY_h1.xv V
  obtain ⟨v0_h1, ⟨x9_h1, v1_h1⟩, ⟨v2_h1, ⟨sz_h1, rf_h1, rt_h1, rv_h1, ag_h1, vr_h1, sd_h1, tl_h1, l0_h1, l1_h1, l2_h1, l3_h1, l4_h1, l5_h1, l6_h1, l7_h1, l8_h1, g1_h1, g2_h1, g3_h1, g4_h1, g5_h1⟩, ⟨sec_h1, it_h1, fi_h1, se_h1, sg_h1, lst_h1, rs_h1, rp_h1, pj_h1, pk_h1, pv_h1, k0_h1, k1_h1, k2_h1, k3_h1, k4_h1, k5_h1, k6_h1, k7_h1, k8_h1, k9_h1, k10_h1, k11_h1, k12_h1, k13_h1⟩, ⟨hv_h1, hc_h1, y0_h1, y1_h1, y2_h1, y3_h1, y4_h1⟩, ⟨an_h1, wk_h1, n0_h1, n1_h1, n2_h1, n3_h1, n4_h1⟩⟩, v3_h1⟩ := id V_h1
  rw [e1, e3, e5] at l0_h1
  rw [e7, e9] at k1_h1
  show Wn _ _ 6 _ [.int (bI (iin i (ntW w) ∧ iin y 61))] h1 _
  refine wn_ifneB (t := 12) (f := 9) rfl rfl rfl (fun c3 => ?_) (fun c3 => ?_)
  · have c3 : (iin i (ntW w) ∧ iin y 61) := c3
    obtain ⟨i9, hi9, rfl⟩ := iin_of c3.1
    have ti_i := nI_toInt (n := i9) (show i9 < 2 ^ 31 by omega)
    have cl_i := nI_clamp (n := i9) (show i9 < 2 ^ 31 by omega)
    obtain ⟨y9, hy9, rfl⟩ := iin_of c3.2
    have ti_y := nI_toInt (n := y9) (show y9 < 2 ^ 31 by omega)
    have cl_y := nI_clamp (n := y9) (show y9 < 2 ^ 31 by omega)
    have Rd_h1 : Rch h1 w i9 y9 ∧ StR h1 w i9 y9 := by have q := Rc_h1 c3; rw [cl_i, cl_y] at q; exact q
    refine wn_ic (pc' := 13) (w := nI 0) rfl rfl (by decide) ?_
    refine wn_st (pc' := 14) (q := 3) (kin := 0) (lv' := [(0, .ref (0)), (1, .int (nI (i9))), (2, .int (nI (y9))), (3, .int (nI (0)))]) rfl (fun _ _ _ => rfl) rfl (Nat.le_of_ble_eq_true rfl) rfl ?_
    refine wn_ic (pc' := 15) (w := nI 0) rfl rfl (by decide) ?_
    refine wn_st (pc' := 17) (q := 4) (kin := 0) (lv' := [(0, .ref (0)), (1, .int (nI (i9))), (2, .int (nI (y9))), (3, .int (nI (0))), (4, .int (nI (0)))]) rfl (fun _ _ _ => rfl) rfl (Nat.le_of_ble_eq_true rfl) rfl ?_
    have lp4 : ∀ (n_lp4 : Nat) (v : Nat), (nvW w) + 1 ≤ v + n_lp4 → v ≤ nvW w → Wn (Rn (d + 6)) 112 17 [(0, .ref (0)), (1, .int (nI (i9))), (2, .int (nI (y9))), (3, .int (bitP (fun x7 => (¬ (oI (moW w x7 i9) = -1)) ∧ (¬ (oI (moW w x7 i9) = nI (sdW w y9 x7 i9)))) v)), (4, .int (nI (v)))] [] (h1) (fun r9 h9 => r9 = some (.int (offA w (nI i9) (nI y9))) ∧ RX h h9 ls w) := by
      intro n_lp4
      induction n_lp4 with
      | zero => intro v hm_lp4 hk_v; exfalso; omega
      | succ n_lp4 ih_lp4 =>
        intro v hm_lp4 hk_v
        refine wn_ld (pc' := 19) (q := 4) (kin := 0) (v := .int (nI (v))) rfl (fun _ _ _ => rfl) rfl rfl ?_
        refine wn_ld (pc' := 20) (q := 0) (kin := 2) (v := .ref (0)) rfl (fun _ _ _ => rfl) rfl rfl ?_
        refine wn_get (pc' := 23) (v := .ref (23)) rfl rfl v1_h1 rfl ?_
        refine wn_get (pc' := 26) (v := .ref (ls)) rfl rfl v2_h1 rfl ?_
        refine wn_get (pc' := 29) (v := .int (nI (nvW w))) rfl rfl l0_h1 rfl ?_
        refine wn_icmpN (t := 82) (f := 32) rfl rfl rfl (by omega) (by omega) (fun c5 => ?_) (fun c5 => ?_)
        · have c5 : (nvW w) ≤ v := c5
          obtain rfl : v = nvW w := by omega
          refine wn_ld (pc' := 83) (q := 3) (kin := 0) (v := .int (bitP (fun x7 => (¬ (oI (moW w x7 i9) = -1)) ∧ (¬ (oI (moW w x7 i9) = nI (sdW w y9 x7 i9)))) (nvW w))) rfl (fun _ _ _ => rfl) rfl rfl ?_
          try simp only [Int32.lt_iff_toInt_lt, Int32.le_iff_toInt_le, i2l_int, Int32.toInt_zero, iin] at c3
          refine wn_iret rfl rfl rfl ⟨congrArg (fun z => some (Value.int z)) ?_, (RY.rx RY_h1 R0.2.2.2)⟩
          unfold offA
          rw [qI_t (by simp only [iin]; omega)]
          first | rfl | (simp only [cl_i, cl_y]; done) | (simp only [cl_i, cl_y]; rfl)
        · have c5 : v < (nvW w) := c5
          refine wn_ld (pc' := 33) (q := 0) (kin := 2) (v := .ref (0)) rfl (fun _ _ _ => rfl) rfl rfl ?_
          refine wn_get (pc' := 36) (v := .ref (23)) rfl rfl v1_h1 rfl ?_
          refine wn_get (pc' := 39) (v := .ref (47)) rfl rfl v2_h1 rfl ?_
          refine wn_ld (pc' := 41) (q := 4) (kin := 0) (v := .int (nI (v))) rfl (fun _ _ _ => rfl) rfl rfl ?_
          refine wn_ld (pc' := 42) (q := 1) (kin := 0) (v := .int (nI (i9))) rfl (fun _ _ _ => rfl) rfl rfl ?_
          refine wn_virI (pc' := 45) rfl rfl (by decide) rfl rfl n0_h1 (Nat.le_of_ble_eq_true rfl) (x_commonest _ _ ls w hWf V_h1 v i9 (by omega) (by omega)) ?_
          refine wn_st (pc' := 47) (q := 5) (kin := 0) (lv' := [(0, .ref (0)), (1, .int (nI (i9))), (2, .int (nI (y9))), (3, .int (bitP (fun x7 => (¬ (oI (moW w x7 i9) = -1)) ∧ (¬ (oI (moW w x7 i9) = nI (sdW w y9 x7 i9)))) v)), (4, .int (nI (v))), (5, .int (oI (moW w v i9)))]) rfl (fun _ _ _ => rfl) rfl (Nat.le_of_ble_eq_true rfl) rfl ?_
          refine wn_ld (pc' := 49) (q := 5) (kin := 0) (v := .int (oI (moW w v i9))) rfl (fun _ _ _ => rfl) rfl rfl ?_
          refine wn_ic (pc' := 50) (w := -1) rfl rfl (by decide) ?_
          refine wn_icmp (t := 76) (f := 53) rfl rfl rfl (fun c6 => ?_) (fun c6 => ?_)
          · have c6 : ((oI (moW w v i9))) = ((-1)) := c6
            refine wn_incN (n := 1) (pc' := 79) (lv' := [(0, .ref (0)), (1, .int (nI (i9))), (2, .int (nI (y9))), (3, .int (bitP (fun x7 => (¬ (oI (moW w x7 i9) = -1)) ∧ (¬ (oI (moW w x7 i9) = nI (sdW w y9 x7 i9)))) v)), (4, .int (nI (v + 1))), (5, .int (oI (moW w v i9)))]) rfl rfl rfl (Nat.le_of_ble_eq_true rfl) rfl (by decide) ?_
            refine wn_jp (pc' := 17) rfl rfl ?_
            refine wn_weak (lv' := [(0, .ref (0)), (1, .int (nI (i9))), (2, .int (nI (y9))), (3, .int (bitP (fun x7 => (¬ (oI (moW w x7 i9) = -1)) ∧ (¬ (oI (moW w x7 i9) = nI (sdW w y9 x7 i9)))) v)), (4, .int (nI (v + 1)))]) (by simp) ?_
            have z9 := ih_lp4 (v + 1) (by omega) (by omega)
            rw [show (bitP (fun x7 => (¬ (oI (moW w x7 i9) = -1)) ∧ (¬ (oI (moW w x7 i9) = nI (sdW w y9 x7 i9)))) (v + 1)) = (bitP (fun x7 => (¬ (oI (moW w x7 i9) = -1)) ∧ (¬ (oI (moW w x7 i9) = nI (sdW w y9 x7 i9)))) v) from (by exact bitP_f (p := fun x7 => (¬ (oI (moW w x7 i9) = -1)) ∧ (¬ (oI (moW w x7 i9) = nI (sdW w y9 x7 i9)))) (fun q8 => (fun q9 => q9 c6) q8.1))] at z9
            exact z9
          · have c6 : ¬ ((oI (moW w v i9))) = ((-1)) := c6
            refine wn_ld (pc' := 55) (q := 5) (kin := 0) (v := .int (oI (moW w v i9))) rfl (fun _ _ _ => rfl) rfl rfl ?_
            refine wn_ld (pc' := 56) (q := 0) (kin := 2) (v := .ref (0)) rfl (fun _ _ _ => rfl) rfl rfl ?_
            refine wn_get (pc' := 59) (v := .ref (52)) rfl rfl v1_h1 rfl ?_
            refine wn_ld (pc' := 60) (q := 1) (kin := 0) (v := .int (nI (i9))) rfl (fun _ _ _ => rfl) rfl rfl ?_
            refine wn_ld (pc' := 61) (q := 2) (kin := 0) (v := .int (nI (y9))) rfl (fun _ _ _ => rfl) rfl rfl ?_
            refine wn_ld (pc' := 63) (q := 4) (kin := 0) (v := .int (nI (v))) rfl (fun _ _ _ => rfl) rfl rfl ?_
            have := sdW_5 hWf (y := y9) (show v < nvW w by omega) (show i9 < ntW w by omega)
            refine wn_virI (pc' := 66) rfl rfl (by decide) rfl rfl v3_h1 (Nat.le_of_ble_eq_true rfl) (x_variantAt _ _ ls w hWf V_h1 i9 y9 v (by omega) (by omega) (by omega) Rd_h1.1) ?_
            refine wn_icmp (t := 76) (f := 69) rfl rfl rfl (fun c7 => ?_) (fun c7 => ?_)
            · have c7 : ((oI (moW w v i9))) = ((nI (sdW w y9 v i9))) := c7
              refine wn_incN (n := 1) (pc' := 79) (lv' := [(0, .ref (0)), (1, .int (nI (i9))), (2, .int (nI (y9))), (3, .int (bitP (fun x7 => (¬ (oI (moW w x7 i9) = -1)) ∧ (¬ (oI (moW w x7 i9) = nI (sdW w y9 x7 i9)))) v)), (4, .int (nI (v + 1))), (5, .int (oI (moW w v i9)))]) rfl rfl rfl (Nat.le_of_ble_eq_true rfl) rfl (by decide) ?_
              refine wn_jp (pc' := 17) rfl rfl ?_
              refine wn_weak (lv' := [(0, .ref (0)), (1, .int (nI (i9))), (2, .int (nI (y9))), (3, .int (bitP (fun x7 => (¬ (oI (moW w x7 i9) = -1)) ∧ (¬ (oI (moW w x7 i9) = nI (sdW w y9 x7 i9)))) v)), (4, .int (nI (v + 1)))]) (by simp) ?_
              have z9 := ih_lp4 (v + 1) (by omega) (by omega)
              rw [show (bitP (fun x7 => (¬ (oI (moW w x7 i9) = -1)) ∧ (¬ (oI (moW w x7 i9) = nI (sdW w y9 x7 i9)))) (v + 1)) = (bitP (fun x7 => (¬ (oI (moW w x7 i9) = -1)) ∧ (¬ (oI (moW w x7 i9) = nI (sdW w y9 x7 i9)))) v) from (by exact bitP_f (p := fun x7 => (¬ (oI (moW w x7 i9) = -1)) ∧ (¬ (oI (moW w x7 i9) = nI (sdW w y9 x7 i9)))) (fun q8 => (fun q9 => q9 c7) q8.2))] at z9
              exact z9
            · have c7 : ¬ ((oI (moW w v i9))) = ((nI (sdW w y9 v i9))) := c7
              refine wn_ld (pc' := 70) (q := 3) (kin := 0) (v := .int (bitP (fun x7 => (¬ (oI (moW w x7 i9) = -1)) ∧ (¬ (oI (moW w x7 i9) = nI (sdW w y9 x7 i9)))) v)) rfl (fun _ _ _ => rfl) rfl rfl ?_
              refine wn_ic (pc' := 71) (w := nI 1) rfl rfl (by decide) ?_
              refine wn_ld (pc' := 73) (q := 4) (kin := 0) (v := .int (nI (v))) rfl (fun _ _ _ => rfl) rfl rfl ?_
              refine wn_pu (pc' := 74) (st' := [.int ((nI (1)) <<< ((nI (v)) &&& 31)), .int (bitP (fun x7 => (¬ (oI (moW w x7 i9) = -1)) ∧ (¬ (oI (moW w x7 i9) = nI (sdW w y9 x7 i9)))) v)]) rfl (fun _ _ _ => rfl) rfl rfl ?_
              refine wn_pu (pc' := 75) (st' := [.int ((bitP (fun x7 => (¬ (oI (moW w x7 i9) = -1)) ∧ (¬ (oI (moW w x7 i9) = nI (sdW w y9 x7 i9)))) v) ||| ((nI (1)) <<< ((nI (v)) &&& 31)))]) rfl (fun _ _ _ => rfl) rfl rfl ?_
              refine wn_st (pc' := 76) (q := 3) (kin := 0) (lv' := [(0, .ref (0)), (1, .int (nI (i9))), (2, .int (nI (y9))), (3, .int ((bitP (fun x7 => (¬ (oI (moW w x7 i9) = -1)) ∧ (¬ (oI (moW w x7 i9) = nI (sdW w y9 x7 i9)))) v) ||| ((nI (1)) <<< ((nI (v)) &&& 31)))), (4, .int (nI (v))), (5, .int (oI (moW w v i9)))]) rfl (fun _ _ _ => rfl) rfl (Nat.le_of_ble_eq_true rfl) rfl ?_
              refine wn_incN (n := 1) (pc' := 79) (lv' := [(0, .ref (0)), (1, .int (nI (i9))), (2, .int (nI (y9))), (3, .int ((bitP (fun x7 => (¬ (oI (moW w x7 i9) = -1)) ∧ (¬ (oI (moW w x7 i9) = nI (sdW w y9 x7 i9)))) v) ||| ((nI (1)) <<< ((nI (v)) &&& 31)))), (4, .int (nI (v + 1))), (5, .int (oI (moW w v i9)))]) rfl rfl rfl (Nat.le_of_ble_eq_true rfl) rfl (by decide) ?_
              refine wn_jp (pc' := 17) rfl rfl ?_
              refine wn_weak (lv' := [(0, .ref (0)), (1, .int (nI (i9))), (2, .int (nI (y9))), (3, .int ((bitP (fun x7 => (¬ (oI (moW w x7 i9) = -1)) ∧ (¬ (oI (moW w x7 i9) = nI (sdW w y9 x7 i9)))) v) ||| ((nI (1)) <<< ((nI (v)) &&& 31)))), (4, .int (nI (v + 1)))]) (by simp) ?_
              have z9 := ih_lp4 (v + 1) (by omega) (by omega)
              rw [show (bitP (fun x7 => (¬ (oI (moW w x7 i9) = -1)) ∧ (¬ (oI (moW w x7 i9) = nI (sdW w y9 x7 i9)))) (v + 1)) = ((bitP (fun x7 => (¬ (oI (moW w x7 i9) = -1)) ∧ (¬ (oI (moW w x7 i9) = nI (sdW w y9 x7 i9)))) v) ||| ((nI (1)) <<< ((nI (v)) &&& 31))) from (by exact bitP_t (p := fun x7 => (¬ (oI (moW w x7 i9) = -1)) ∧ (¬ (oI (moW w x7 i9) = nI (sdW w y9 x7 i9)))) ⟨c6, c7⟩)] at z9
              exact z9
    refine wn_weak (lv' := [(0, .ref (0)), (1, .int (nI (i9))), (2, .int (nI (y9))), (3, .int (nI (0))), (4, .int (nI (0)))]) (by simp) ?_
    have z9 := lp4 ((nvW w) + 1) 0 (by omega) (by omega)
    rw [show (bitP (fun x7 => (¬ (oI (moW w x7 i9) = -1)) ∧ (¬ (oI (moW w x7 i9) = nI (sdW w y9 x7 i9)))) 0) = (nI (0)) from (by rfl)] at z9
    exact z9
  · have c3 : ¬ (iin i (ntW w) ∧ iin y 61) := c3
    refine wn_bp (pc' := 11) (w := -2) rfl rfl (by decide) ?_
    try simp only [Int32.lt_iff_toInt_lt, Int32.le_iff_toInt_le, i2l_int, Int32.toInt_zero, iin] at c3
    refine wn_iret rfl rfl rfl ⟨congrArg (fun z => some (Value.int z)) ?_, (RY.rx RY_h1 R0.2.2.2)⟩
    unfold offA
    rw [qI_f (by simp only [iin]; omega)]

theorem case_30 (i : Int32) (y : Int32) : CaseI Rp 112 224 [.int i, .int y] := case_q (fun h ls w hWf V R => ⟨_, x_off 693 h ls w hWf V R i y, fun h1 HQ => m_off 691 h1 w hWf HQ i y⟩)
theorem x_isLeaning (d : Nat) (h : aH) (ls : Nat) (w : Nat → Int32) (hWf : WfW w) (V : XV h ls w) (a : Int32) (i : Nat) (hi : i < ntW w) : Rn (d + 3) 123 [.ref (0), .int (a), .int (nI (i))] h (some (.int (bI (lsW w a i)))) h 0 0 := by
  obtain ⟨⟨e1, e2⟩, ⟨e3, e4⟩, ⟨e5, e6⟩⟩ := Wf_n hWf
  obtain ⟨⟨e7, e8⟩, ⟨e9, e10⟩⟩ := Wf_m hWf
  obtain ⟨v0, ⟨x9, v1⟩, ⟨v2, ⟨sz, rf, rt, rv, ag, vr, sd, tl, l0, l1, l2, l3, l4, l5, l6, l7, l8, g1, g2, g3, g4, g5⟩, ⟨sec, it, fi, se, sg, lst, rs, rp, pj, pk, pv, k0, k1, k2, k3, k4, k5, k6, k7, k8, k9, k10, k11, k12, k13⟩, ⟨hv, hc, y0, y1, y2, y3, y4⟩, ⟨an, wk, n0, n1, n2, n3, n4⟩⟩, v3⟩ := id V
  rw [e1, e3, e5] at l0
  rw [e7, e9] at k1
  refine Rn_of (by decide) (Nat.le_of_ble_eq_true rfl) ?_
  show Wn _ _ 0 [(0, .ref (0)), (1, .int (a)), (2, .int (nI (i)))] [] _ _
  refine wn_ld (pc' := 1) (q := 0) (kin := 2) (v := .ref (0)) rfl (fun _ _ _ => rfl) rfl rfl ?_
  refine wn_get (pc' := 4) (v := .ref (23)) rfl rfl v1 rfl ?_
  refine wn_get (pc' := 7) (v := .ref (ls)) rfl rfl v2 rfl ?_
  refine wn_st (pc' := 8) (q := 3) (kin := 2) (lv' := [(0, .ref (0)), (1, .int (a)), (2, .int (nI (i))), (3, .ref (ls))]) rfl (fun _ _ _ => rfl) rfl (Nat.le_of_ble_eq_true rfl) rfl ?_
  refine wn_ld (pc' := 9) (q := 0) (kin := 2) (v := .ref (0)) rfl (fun _ _ _ => rfl) rfl rfl ?_
  refine wn_get (pc' := 12) (v := .ref (23)) rfl rfl v1 rfl ?_
  refine wn_get (pc' := 15) (v := .ref (47)) rfl rfl v2 rfl ?_
  refine wn_st (pc' := 17) (q := 4) (kin := 2) (lv' := [(0, .ref (0)), (1, .int (a)), (2, .int (nI (i))), (3, .ref (ls)), (4, .ref (47))]) rfl (fun _ _ _ => rfl) rfl (Nat.le_of_ble_eq_true rfl) rfl ?_
  refine wn_ic (pc' := 18) (w := nI 0) rfl rfl (by decide) ?_
  refine wn_st (pc' := 20) (q := 5) (kin := 0) (lv' := [(0, .ref (0)), (1, .int (a)), (2, .int (nI (i))), (3, .ref (ls)), (4, .ref (47)), (5, .int (nI (0)))]) rfl (fun _ _ _ => rfl) rfl (Nat.le_of_ble_eq_true rfl) rfl ?_
  refine wn_ic (pc' := 21) (w := nI 0) rfl rfl (by decide) ?_
  refine wn_st (pc' := 23) (q := 6) (kin := 0) (lv' := [(0, .ref (0)), (1, .int (a)), (2, .int (nI (i))), (3, .ref (ls)), (4, .ref (47)), (5, .int (nI (0))), (6, .int (nI (0)))]) rfl (fun _ _ _ => rfl) rfl (Nat.le_of_ble_eq_true rfl) rfl ?_
  have lp1 : ∀ (n_lp1 : Nat) (r : Nat), (nrW w) + 1 ≤ r + n_lp1 → r ≤ nrW w → lsA w a i r → Wn (Rn (d + 2)) 123 23 [(0, .ref (0)), (1, .int (a)), (2, .int (nI (i))), (3, .ref (ls)), (4, .ref (47)), (5, .int (bI (lsE w a i r))), (6, .int (nI (r)))] [] (h) (fun r9 h9 => r9 = (some (.int (bI (lsW w a i)))) ∧ h9 = h) := by
    intro n_lp1
    induction n_lp1 with
    | zero => intro r hm_lp1 hr hA; exfalso; omega
    | succ n_lp1 ih_lp1 =>
      intro r hm_lp1 hr hA
      refine wn_ld (pc' := 25) (q := 6) (kin := 0) (v := .int (nI (r))) rfl (fun _ _ _ => rfl) rfl rfl ?_
      refine wn_ld (pc' := 26) (q := 3) (kin := 2) (v := .ref (ls)) rfl (fun _ _ _ => rfl) rfl rfl ?_
      refine wn_get (pc' := 29) (v := .int (nI (nrW w))) rfl rfl l0 rfl ?_
      refine wn_icmpN (t := 204) (f := 32) rfl rfl rfl (by omega) (by omega) (fun c2 => ?_) (fun c2 => ?_)
      · have c2 : (nrW w) ≤ r := c2
        obtain rfl : r = nrW w := by omega
        refine wn_ld (pc' := 206) (q := 5) (kin := 0) (v := .int (bI (lsE w a i (nrW w)))) rfl (fun _ _ _ => rfl) rfl rfl ?_
        exact wn_iret rfl rfl (nar_bI _) ⟨congrArg (fun z => some (Value.int z)) (bI_c (show lsE w a i (nrW w) ↔ lsW w a i from ⟨fun q => ⟨hA, q⟩, fun q => q.2⟩)), rfl⟩
      · have c2 : r < (nrW w) := c2
        refine wn_ld (pc' := 33) (q := 3) (kin := 2) (v := .ref (ls)) rfl (fun _ _ _ => rfl) rfl rfl ?_
        refine wn_get (pc' := 36) (v := .ref (ls + 2)) rfl rfl l0 rfl ?_
        refine wn_ld (pc' := 38) (q := 6) (kin := 0) (v := .int (nI (r))) rfl (fun _ _ _ => rfl) rfl rfl ?_
        have := wf_rdb hWf (show r < nrW w by omega)
        refine wn_ialdv (pc' := 39) (j := r) (v := (nI (rdA w r))) rfl rfl l2 rfl (by omega) (by decide) ((g2 r (by omega)).1.trans (wf_rda hWf (by omega))) ?_
        refine wn_st (pc' := 41) (q := 7) (kin := 0) (lv' := [(0, .ref (0)), (1, .int (a)), (2, .int (nI (i))), (3, .ref (ls)), (4, .ref (47)), (5, .int (bI (lsE w a i r))), (6, .int (nI (r))), (7, .int (nI (rdA w r)))]) rfl (fun _ _ _ => rfl) rfl (Nat.le_of_ble_eq_true rfl) rfl ?_
        refine wn_ld (pc' := 42) (q := 3) (kin := 2) (v := .ref (ls)) rfl (fun _ _ _ => rfl) rfl rfl ?_
        refine wn_get (pc' := 45) (v := .ref (ls + 3)) rfl rfl l0 rfl ?_
        refine wn_ld (pc' := 47) (q := 6) (kin := 0) (v := .int (nI (r))) rfl (fun _ _ _ => rfl) rfl rfl ?_
        have := wf_rdb hWf (show r < nrW w by omega)
        refine wn_ialdv (pc' := 48) (j := r) (v := (nI (rdB w r))) rfl rfl l3 rfl (by omega) (by decide) ((g2 r (by omega)).2.1.trans (wf_rdB hWf (by omega))) ?_
        refine wn_st (pc' := 50) (q := 8) (kin := 0) (lv' := [(0, .ref (0)), (1, .int (a)), (2, .int (nI (i))), (3, .ref (ls)), (4, .ref (47)), (5, .int (bI (lsE w a i r))), (6, .int (nI (r))), (7, .int (nI (rdA w r))), (8, .int (nI (rdB w r)))]) rfl (fun _ _ _ => rfl) rfl (Nat.le_of_ble_eq_true rfl) rfl ?_
        refine wn_ld (pc' := 52) (q := 4) (kin := 2) (v := .ref (47)) rfl (fun _ _ _ => rfl) rfl rfl ?_
        refine wn_ld (pc' := 54) (q := 7) (kin := 0) (v := .int (nI (rdA w r))) rfl (fun _ _ _ => rfl) rfl rfl ?_
        refine wn_ld (pc' := 55) (q := 2) (kin := 0) (v := .int (nI (i))) rfl (fun _ _ _ => rfl) rfl rfl ?_
        refine wn_virI (pc' := 58) rfl rfl (by decide) rfl rfl n0 (Nat.le_of_ble_eq_true rfl) (x_commonest _ _ ls w hWf V (rdA w r) i (by omega) (by omega)) ?_
        refine wn_st (pc' := 60) (q := 9) (kin := 0) (lv' := [(0, .ref (0)), (1, .int (a)), (2, .int (nI (i))), (3, .ref (ls)), (4, .ref (47)), (5, .int (bI (lsE w a i r))), (6, .int (nI (r))), (7, .int (nI (rdA w r))), (8, .int (nI (rdB w r))), (9, .int (oI (moW w (rdA w r) i)))]) rfl (fun _ _ _ => rfl) rfl (Nat.le_of_ble_eq_true rfl) rfl ?_
        refine wn_ld (pc' := 62) (q := 4) (kin := 2) (v := .ref (47)) rfl (fun _ _ _ => rfl) rfl rfl ?_
        refine wn_ld (pc' := 64) (q := 8) (kin := 0) (v := .int (nI (rdB w r))) rfl (fun _ _ _ => rfl) rfl rfl ?_
        refine wn_ld (pc' := 65) (q := 2) (kin := 0) (v := .int (nI (i))) rfl (fun _ _ _ => rfl) rfl rfl ?_
        refine wn_virI (pc' := 68) rfl rfl (by decide) rfl rfl n0 (Nat.le_of_ble_eq_true rfl) (x_commonest _ _ ls w hWf V (rdB w r) i (by omega) (by omega)) ?_
        refine wn_st (pc' := 70) (q := 10) (kin := 0) (lv' := [(0, .ref (0)), (1, .int (a)), (2, .int (nI (i))), (3, .ref (ls)), (4, .ref (47)), (5, .int (bI (lsE w a i r))), (6, .int (nI (r))), (7, .int (nI (rdA w r))), (8, .int (nI (rdB w r))), (9, .int (oI (moW w (rdA w r) i))), (10, .int (oI (moW w (rdB w r) i)))]) rfl (fun _ _ _ => rfl) rfl (Nat.le_of_ble_eq_true rfl) rfl ?_
        refine wn_ld (pc' := 72) (q := 4) (kin := 2) (v := .ref (47)) rfl (fun _ _ _ => rfl) rfl rfl ?_
        refine wn_get (pc' := 75) (v := .ref (49)) rfl rfl n0 rfl ?_
        refine wn_ld (pc' := 77) (q := 7) (kin := 0) (v := .int (nI (rdA w r))) rfl (fun _ _ _ => rfl) rfl rfl ?_
        refine wn_ialdv (pc' := 78) (j := rdA w r) (v := (w (9 + 2 * (rdA w r)))) rfl rfl n2 rfl (by omega) (by decide) ((n4 (rdA w r) (by omega)).trans (if_pos (by omega))) ?_
        refine wn_ic (pc' := 79) (w := -1) rfl rfl (by decide) ?_
        refine wn_icmp (t := 98) (f := 82) rfl rfl rfl (fun c3 => ?_) (fun c3 => ?_)
        · have c3 : ((w (9 + 2 * (rdA w r)))) = ((-1)) := c3
          refine wn_ic (pc' := 99) (w := nI 0) rfl rfl (by decide) ?_
          refine wn_st (pc' := 101) (q := 11) (kin := 0) (lv' := [(0, .ref (0)), (1, .int (a)), (2, .int (nI (i))), (3, .ref (ls)), (4, .ref (47)), (5, .int (bI (lsE w a i r))), (6, .int (nI (r))), (7, .int (nI (rdA w r))), (8, .int (nI (rdB w r))), (9, .int (oI (moW w (rdA w r) i))), (10, .int (oI (moW w (rdB w r) i))), (11, .int (nI (0)))]) rfl (fun _ _ _ => rfl) rfl (Nat.le_of_ble_eq_true rfl) rfl ?_
          refine wn_ld (pc' := 103) (q := 11) (kin := 0) (v := .int (nI (0))) rfl (fun _ _ _ => rfl) rfl rfl ?_
          refine wn_ifN (t := 198) (f := 106) rfl rfl rfl (by omega) (fun c4 => ?_) (fun c4 => ?_)
          · have c4 : 0 = 0 := c4
            refine wn_incN (n := 1) (pc' := 201) (lv' := [(0, .ref (0)), (1, .int (a)), (2, .int (nI (i))), (3, .ref (ls)), (4, .ref (47)), (5, .int (bI (lsE w a i r))), (6, .int (nI (r + 1))), (7, .int (nI (rdA w r))), (8, .int (nI (rdB w r))), (9, .int (oI (moW w (rdA w r) i))), (10, .int (oI (moW w (rdB w r) i))), (11, .int (nI (0)))]) rfl rfl rfl (Nat.le_of_ble_eq_true rfl) rfl (by decide) ?_
            refine wn_jp (pc' := 23) rfl rfl ?_
            refine wn_weak (lv' := [(0, .ref (0)), (1, .int (a)), (2, .int (nI (i))), (3, .ref (ls)), (4, .ref (47)), (5, .int (bI (lsE w a i r))), (6, .int (nI (r + 1)))]) (by simp) ?_
            have z9 := ih_lp1 (r + 1) (by omega) (by omega) (lsA_s hA (fun q => absurd q (show ¬ cwW w i r from (show ¬ ((¬ (w (9 + 2 * rdA w r) = -1)) ∧ (¬ (w (9 + 2 * rdB w r) = -1)) ∧ (¬ (oI (moW w (rdA w r) i) = -1)) ∧ (¬ (oI (moW w (rdB w r) i) = -1))) from (fun q8 => (fun q9 => q9 c3) q8.1)))))
            rw [show (bI (lsE w a i (r + 1))) = (bI (lsE w a i r)) from (by exact lsE_f (show ¬ cwW w i r from (show ¬ ((¬ (w (9 + 2 * rdA w r) = -1)) ∧ (¬ (w (9 + 2 * rdB w r) = -1)) ∧ (¬ (oI (moW w (rdA w r) i) = -1)) ∧ (¬ (oI (moW w (rdB w r) i) = -1))) from (fun q8 => (fun q9 => q9 c3) q8.1))))] at z9
            exact z9
          · have c4 : ¬ 0 = 0 := c4
            exact absurd c4 (by decide)
        · have c3 : ¬ ((w (9 + 2 * (rdA w r)))) = ((-1)) := c3
          refine wn_ld (pc' := 84) (q := 4) (kin := 2) (v := .ref (47)) rfl (fun _ _ _ => rfl) rfl rfl ?_
          refine wn_get (pc' := 87) (v := .ref (49)) rfl rfl n0 rfl ?_
          refine wn_ld (pc' := 89) (q := 8) (kin := 0) (v := .int (nI (rdB w r))) rfl (fun _ _ _ => rfl) rfl rfl ?_
          refine wn_ialdv (pc' := 90) (j := rdB w r) (v := (w (9 + 2 * (rdB w r)))) rfl rfl n2 rfl (by omega) (by decide) ((n4 (rdB w r) (by omega)).trans (if_pos (by omega))) ?_
          refine wn_ic (pc' := 91) (w := -1) rfl rfl (by decide) ?_
          refine wn_icmp (t := 98) (f := 94) rfl rfl rfl (fun c5 => ?_) (fun c5 => ?_)
          · have c5 : ((w (9 + 2 * (rdB w r)))) = ((-1)) := c5
            refine wn_ic (pc' := 99) (w := nI 0) rfl rfl (by decide) ?_
            refine wn_st (pc' := 101) (q := 11) (kin := 0) (lv' := [(0, .ref (0)), (1, .int (a)), (2, .int (nI (i))), (3, .ref (ls)), (4, .ref (47)), (5, .int (bI (lsE w a i r))), (6, .int (nI (r))), (7, .int (nI (rdA w r))), (8, .int (nI (rdB w r))), (9, .int (oI (moW w (rdA w r) i))), (10, .int (oI (moW w (rdB w r) i))), (11, .int (nI (0)))]) rfl (fun _ _ _ => rfl) rfl (Nat.le_of_ble_eq_true rfl) rfl ?_
            refine wn_ld (pc' := 103) (q := 11) (kin := 0) (v := .int (nI (0))) rfl (fun _ _ _ => rfl) rfl rfl ?_
            refine wn_ifN (t := 198) (f := 106) rfl rfl rfl (by omega) (fun c6 => ?_) (fun c6 => ?_)
            · have c6 : 0 = 0 := c6
              refine wn_incN (n := 1) (pc' := 201) (lv' := [(0, .ref (0)), (1, .int (a)), (2, .int (nI (i))), (3, .ref (ls)), (4, .ref (47)), (5, .int (bI (lsE w a i r))), (6, .int (nI (r + 1))), (7, .int (nI (rdA w r))), (8, .int (nI (rdB w r))), (9, .int (oI (moW w (rdA w r) i))), (10, .int (oI (moW w (rdB w r) i))), (11, .int (nI (0)))]) rfl rfl rfl (Nat.le_of_ble_eq_true rfl) rfl (by decide) ?_
              refine wn_jp (pc' := 23) rfl rfl ?_
              refine wn_weak (lv' := [(0, .ref (0)), (1, .int (a)), (2, .int (nI (i))), (3, .ref (ls)), (4, .ref (47)), (5, .int (bI (lsE w a i r))), (6, .int (nI (r + 1)))]) (by simp) ?_
              have z9 := ih_lp1 (r + 1) (by omega) (by omega) (lsA_s hA (fun q => absurd q (show ¬ cwW w i r from (show ¬ ((¬ (w (9 + 2 * rdA w r) = -1)) ∧ (¬ (w (9 + 2 * rdB w r) = -1)) ∧ (¬ (oI (moW w (rdA w r) i) = -1)) ∧ (¬ (oI (moW w (rdB w r) i) = -1))) from (fun q8 => (fun q9 => q9 c5) q8.2.1)))))
              rw [show (bI (lsE w a i (r + 1))) = (bI (lsE w a i r)) from (by exact lsE_f (show ¬ cwW w i r from (show ¬ ((¬ (w (9 + 2 * rdA w r) = -1)) ∧ (¬ (w (9 + 2 * rdB w r) = -1)) ∧ (¬ (oI (moW w (rdA w r) i) = -1)) ∧ (¬ (oI (moW w (rdB w r) i) = -1))) from (fun q8 => (fun q9 => q9 c5) q8.2.1))))] at z9
              exact z9
            · have c6 : ¬ 0 = 0 := c6
              exact absurd c6 (by decide)
          · have c5 : ¬ ((w (9 + 2 * (rdB w r)))) = ((-1)) := c5
            refine wn_ic (pc' := 95) (w := nI 1) rfl rfl (by decide) ?_
            refine wn_jp (pc' := 99) rfl rfl ?_
            refine wn_st (pc' := 101) (q := 11) (kin := 0) (lv' := [(0, .ref (0)), (1, .int (a)), (2, .int (nI (i))), (3, .ref (ls)), (4, .ref (47)), (5, .int (bI (lsE w a i r))), (6, .int (nI (r))), (7, .int (nI (rdA w r))), (8, .int (nI (rdB w r))), (9, .int (oI (moW w (rdA w r) i))), (10, .int (oI (moW w (rdB w r) i))), (11, .int (nI (1)))]) rfl (fun _ _ _ => rfl) rfl (Nat.le_of_ble_eq_true rfl) rfl ?_
            refine wn_ld (pc' := 103) (q := 11) (kin := 0) (v := .int (nI (1))) rfl (fun _ _ _ => rfl) rfl rfl ?_
            refine wn_ifN (t := 198) (f := 106) rfl rfl rfl (by omega) (fun c7 => ?_) (fun c7 => ?_)
            · have c7 : 1 = 0 := c7
              exact absurd c7 (by decide)
            · have c7 : ¬ 1 = 0 := c7
              refine wn_ld (pc' := 108) (q := 9) (kin := 0) (v := .int (oI (moW w (rdA w r) i))) rfl (fun _ _ _ => rfl) rfl rfl ?_
              refine wn_ic (pc' := 109) (w := -1) rfl rfl (by decide) ?_
              refine wn_icmp (t := 198) (f := 112) rfl rfl rfl (fun c8 => ?_) (fun c8 => ?_)
              · have c8 : ((oI (moW w (rdA w r) i))) = ((-1)) := c8
                refine wn_incN (n := 1) (pc' := 201) (lv' := [(0, .ref (0)), (1, .int (a)), (2, .int (nI (i))), (3, .ref (ls)), (4, .ref (47)), (5, .int (bI (lsE w a i r))), (6, .int (nI (r + 1))), (7, .int (nI (rdA w r))), (8, .int (nI (rdB w r))), (9, .int (oI (moW w (rdA w r) i))), (10, .int (oI (moW w (rdB w r) i))), (11, .int (nI (1)))]) rfl rfl rfl (Nat.le_of_ble_eq_true rfl) rfl (by decide) ?_
                refine wn_jp (pc' := 23) rfl rfl ?_
                refine wn_weak (lv' := [(0, .ref (0)), (1, .int (a)), (2, .int (nI (i))), (3, .ref (ls)), (4, .ref (47)), (5, .int (bI (lsE w a i r))), (6, .int (nI (r + 1)))]) (by simp) ?_
                have z9 := ih_lp1 (r + 1) (by omega) (by omega) (lsA_s hA (fun q => absurd q (show ¬ cwW w i r from (show ¬ ((¬ (w (9 + 2 * rdA w r) = -1)) ∧ (¬ (w (9 + 2 * rdB w r) = -1)) ∧ (¬ (oI (moW w (rdA w r) i) = -1)) ∧ (¬ (oI (moW w (rdB w r) i) = -1))) from (fun q8 => (fun q9 => q9 c8) q8.2.2.1)))))
                rw [show (bI (lsE w a i (r + 1))) = (bI (lsE w a i r)) from (by exact lsE_f (show ¬ cwW w i r from (show ¬ ((¬ (w (9 + 2 * rdA w r) = -1)) ∧ (¬ (w (9 + 2 * rdB w r) = -1)) ∧ (¬ (oI (moW w (rdA w r) i) = -1)) ∧ (¬ (oI (moW w (rdB w r) i) = -1))) from (fun q8 => (fun q9 => q9 c8) q8.2.2.1))))] at z9
                exact z9
              · have c8 : ¬ ((oI (moW w (rdA w r) i))) = ((-1)) := c8
                refine wn_ld (pc' := 114) (q := 10) (kin := 0) (v := .int (oI (moW w (rdB w r) i))) rfl (fun _ _ _ => rfl) rfl rfl ?_
                refine wn_ic (pc' := 115) (w := -1) rfl rfl (by decide) ?_
                refine wn_icmp (t := 198) (f := 118) rfl rfl rfl (fun c9 => ?_) (fun c9 => ?_)
                · have c9 : ((oI (moW w (rdB w r) i))) = ((-1)) := c9
                  refine wn_incN (n := 1) (pc' := 201) (lv' := [(0, .ref (0)), (1, .int (a)), (2, .int (nI (i))), (3, .ref (ls)), (4, .ref (47)), (5, .int (bI (lsE w a i r))), (6, .int (nI (r + 1))), (7, .int (nI (rdA w r))), (8, .int (nI (rdB w r))), (9, .int (oI (moW w (rdA w r) i))), (10, .int (oI (moW w (rdB w r) i))), (11, .int (nI (1)))]) rfl rfl rfl (Nat.le_of_ble_eq_true rfl) rfl (by decide) ?_
                  refine wn_jp (pc' := 23) rfl rfl ?_
                  refine wn_weak (lv' := [(0, .ref (0)), (1, .int (a)), (2, .int (nI (i))), (3, .ref (ls)), (4, .ref (47)), (5, .int (bI (lsE w a i r))), (6, .int (nI (r + 1)))]) (by simp) ?_
                  have z9 := ih_lp1 (r + 1) (by omega) (by omega) (lsA_s hA (fun q => absurd q (show ¬ cwW w i r from (show ¬ ((¬ (w (9 + 2 * rdA w r) = -1)) ∧ (¬ (w (9 + 2 * rdB w r) = -1)) ∧ (¬ (oI (moW w (rdA w r) i) = -1)) ∧ (¬ (oI (moW w (rdB w r) i) = -1))) from (fun q8 => (fun q9 => q9 c9) q8.2.2.2)))))
                  rw [show (bI (lsE w a i (r + 1))) = (bI (lsE w a i r)) from (by exact lsE_f (show ¬ cwW w i r from (show ¬ ((¬ (w (9 + 2 * rdA w r) = -1)) ∧ (¬ (w (9 + 2 * rdB w r) = -1)) ∧ (¬ (oI (moW w (rdA w r) i) = -1)) ∧ (¬ (oI (moW w (rdB w r) i) = -1))) from (fun q8 => (fun q9 => q9 c9) q8.2.2.2))))] at z9
                  exact z9
                · have c9 : ¬ ((oI (moW w (rdB w r) i))) = ((-1)) := c9
                  refine wn_ld (pc' := 120) (q := 4) (kin := 2) (v := .ref (47)) rfl (fun _ _ _ => rfl) rfl rfl ?_
                  refine wn_get (pc' := 123) (v := .ref (49)) rfl rfl n0 rfl ?_
                  refine wn_ld (pc' := 125) (q := 7) (kin := 0) (v := .int (nI (rdA w r))) rfl (fun _ _ _ => rfl) rfl rfl ?_
                  refine wn_ialdv (pc' := 126) (j := rdA w r) (v := (w (9 + 2 * (rdA w r)))) rfl rfl n2 rfl (by omega) (by decide) ((n4 (rdA w r) (by omega)).trans (if_pos (by omega))) ?_
                  refine wn_ld (pc' := 127) (q := 1) (kin := 0) (v := .int (a)) rfl (fun _ _ _ => rfl) rfl rfl ?_
                  refine wn_icmp (t := 134) (f := 130) rfl rfl rfl (fun c10 => ?_) (fun c10 => ?_)
                  · have c10 : ¬ ((w (9 + 2 * (rdA w r)))) = ((a)) := c10
                    refine wn_ic (pc' := 135) (w := nI 0) rfl rfl (by decide) ?_
                    refine wn_ld (pc' := 137) (q := 4) (kin := 2) (v := .ref (47)) rfl (fun _ _ _ => rfl) rfl rfl ?_
                    refine wn_get (pc' := 140) (v := .ref (49)) rfl rfl n0 rfl ?_
                    refine wn_ld (pc' := 142) (q := 8) (kin := 0) (v := .int (nI (rdB w r))) rfl (fun _ _ _ => rfl) rfl rfl ?_
                    refine wn_ialdv (pc' := 143) (j := rdB w r) (v := (w (9 + 2 * (rdB w r)))) rfl rfl n2 rfl (by omega) (by decide) ((n4 (rdB w r) (by omega)).trans (if_pos (by omega))) ?_
                    refine wn_ld (pc' := 144) (q := 1) (kin := 0) (v := .int (a)) rfl (fun _ _ _ => rfl) rfl rfl ?_
                    refine wn_icmp (t := 151) (f := 147) rfl rfl rfl (fun c11 => ?_) (fun c11 => ?_)
                    · have c11 : ¬ ((w (9 + 2 * (rdB w r)))) = ((a)) := c11
                      refine wn_ic (pc' := 152) (w := nI 0) rfl rfl (by decide) ?_
                      refine wn_icmpN (t := 159) (f := 155) rfl rfl rfl (by omega) (by omega) (fun c12 => ?_) (fun c12 => ?_)
                      · have c12 : 0 = 0 := c12
                        refine wn_ic (pc' := 160) (w := nI 0) rfl rfl (by decide) ?_
                        refine wn_st (pc' := 162) (q := 12) (kin := 0) (lv' := [(0, .ref (0)), (1, .int (a)), (2, .int (nI (i))), (3, .ref (ls)), (4, .ref (47)), (5, .int (bI (lsE w a i r))), (6, .int (nI (r))), (7, .int (nI (rdA w r))), (8, .int (nI (rdB w r))), (9, .int (oI (moW w (rdA w r) i))), (10, .int (oI (moW w (rdB w r) i))), (11, .int (nI (1))), (12, .int (nI (0)))]) rfl (fun _ _ _ => rfl) rfl (Nat.le_of_ble_eq_true rfl) rfl ?_
                        refine wn_ld (pc' := 164) (q := 12) (kin := 0) (v := .int (nI (0))) rfl (fun _ _ _ => rfl) rfl rfl ?_
                        refine wn_ld (pc' := 166) (q := 9) (kin := 0) (v := .int (oI (moW w (rdA w r) i))) rfl (fun _ _ _ => rfl) rfl rfl ?_
                        refine wn_ld (pc' := 168) (q := 10) (kin := 0) (v := .int (oI (moW w (rdB w r) i))) rfl (fun _ _ _ => rfl) rfl rfl ?_
                        refine wn_icmp (t := 175) (f := 171) rfl rfl rfl (fun c13 => ?_) (fun c13 => ?_)
                        · have c13 : ((oI (moW w (rdA w r) i))) = ((oI (moW w (rdB w r) i))) := c13
                          refine wn_ic (pc' := 176) (w := nI 0) rfl rfl (by decide) ?_
                          refine wn_icmpN (t := 181) (f := 179) rfl rfl rfl (by omega) (by omega) (fun c14 => ?_) (fun c14 => ?_)
                          · have c14 : 0 = 0 := c14
                            refine wn_ld (pc' := 183) (q := 5) (kin := 0) (v := .int (bI (lsE w a i r))) rfl (fun _ _ _ => rfl) rfl rfl ?_
                            refine wn_ifneB (t := 191) (f := 186) rfl rfl rfl (fun c15 => ?_) (fun c15 => ?_)
                            · have c15 : (lsE w a i r) := c15
                              refine wn_ic (pc' := 192) (w := nI 1) rfl rfl (by decide) ?_
                              refine wn_jp (pc' := 196) rfl rfl ?_
                              refine wn_st (pc' := 198) (q := 5) (kin := 0) (lv' := [(0, .ref (0)), (1, .int (a)), (2, .int (nI (i))), (3, .ref (ls)), (4, .ref (47)), (5, .int (nI (1))), (6, .int (nI (r))), (7, .int (nI (rdA w r))), (8, .int (nI (rdB w r))), (9, .int (oI (moW w (rdA w r) i))), (10, .int (oI (moW w (rdB w r) i))), (11, .int (nI (1))), (12, .int (nI (0)))]) rfl (fun _ _ _ => rfl) rfl (Nat.le_of_ble_eq_true rfl) rfl ?_
                              refine wn_incN (n := 1) (pc' := 201) (lv' := [(0, .ref (0)), (1, .int (a)), (2, .int (nI (i))), (3, .ref (ls)), (4, .ref (47)), (5, .int (nI (1))), (6, .int (nI (r + 1))), (7, .int (nI (rdA w r))), (8, .int (nI (rdB w r))), (9, .int (oI (moW w (rdA w r) i))), (10, .int (oI (moW w (rdB w r) i))), (11, .int (nI (1))), (12, .int (nI (0)))]) rfl rfl rfl (Nat.le_of_ble_eq_true rfl) rfl (by decide) ?_
                              refine wn_jp (pc' := 23) rfl rfl ?_
                              refine wn_weak (lv' := [(0, .ref (0)), (1, .int (a)), (2, .int (nI (i))), (3, .ref (ls)), (4, .ref (47)), (5, .int (nI (1))), (6, .int (nI (r + 1)))]) (by simp) ?_
                              have z9 := ih_lp1 (r + 1) (by omega) (by omega) (lsA_s hA (fun _ => ⟨fun q => absurd q (show ¬ bwW w a r from (show ¬ (((w (9 + 2 * rdA w r) = a) ∧ (¬ (w (9 + 2 * rdB w r) = a))) ∨ ((¬ (w (9 + 2 * rdA w r) = a)) ∧ (w (9 + 2 * rdB w r) = a))) from (fun q7 => q7.elim (fun q8 => c10 q8.1) (fun q8 => c11 q8.2)))), fun q => absurd q (show ¬ owW w i r from (show ¬ (¬ (oI (moW w (rdA w r) i) = oI (moW w (rdB w r) i))) from (fun q9 => q9 c13)))⟩))
                              rw [show (bI (lsE w a i (r + 1))) = (nI (1)) from (by exact lsE_1 (Or.inl c15))] at z9
                              exact z9
                            · have c15 : ¬ (lsE w a i r) := c15
                              refine wn_ld (pc' := 188) (q := 12) (kin := 0) (v := .int (nI (0))) rfl (fun _ _ _ => rfl) rfl rfl ?_
                              refine wn_ifN (t := 195) (f := 191) rfl rfl rfl (by omega) (fun c16 => ?_) (fun c16 => ?_)
                              · have c16 : 0 = 0 := c16
                                refine wn_ic (pc' := 196) (w := nI 0) rfl rfl (by decide) ?_
                                refine wn_st (pc' := 198) (q := 5) (kin := 0) (lv' := [(0, .ref (0)), (1, .int (a)), (2, .int (nI (i))), (3, .ref (ls)), (4, .ref (47)), (5, .int (nI (0))), (6, .int (nI (r))), (7, .int (nI (rdA w r))), (8, .int (nI (rdB w r))), (9, .int (oI (moW w (rdA w r) i))), (10, .int (oI (moW w (rdB w r) i))), (11, .int (nI (1))), (12, .int (nI (0)))]) rfl (fun _ _ _ => rfl) rfl (Nat.le_of_ble_eq_true rfl) rfl ?_
                                refine wn_incN (n := 1) (pc' := 201) (lv' := [(0, .ref (0)), (1, .int (a)), (2, .int (nI (i))), (3, .ref (ls)), (4, .ref (47)), (5, .int (nI (0))), (6, .int (nI (r + 1))), (7, .int (nI (rdA w r))), (8, .int (nI (rdB w r))), (9, .int (oI (moW w (rdA w r) i))), (10, .int (oI (moW w (rdB w r) i))), (11, .int (nI (1))), (12, .int (nI (0)))]) rfl rfl rfl (Nat.le_of_ble_eq_true rfl) rfl (by decide) ?_
                                refine wn_jp (pc' := 23) rfl rfl ?_
                                refine wn_weak (lv' := [(0, .ref (0)), (1, .int (a)), (2, .int (nI (i))), (3, .ref (ls)), (4, .ref (47)), (5, .int (nI (0))), (6, .int (nI (r + 1)))]) (by simp) ?_
                                have z9 := ih_lp1 (r + 1) (by omega) (by omega) (lsA_s hA (fun _ => ⟨fun q => absurd q (show ¬ bwW w a r from (show ¬ (((w (9 + 2 * rdA w r) = a) ∧ (¬ (w (9 + 2 * rdB w r) = a))) ∨ ((¬ (w (9 + 2 * rdA w r) = a)) ∧ (w (9 + 2 * rdB w r) = a))) from (fun q7 => q7.elim (fun q8 => c10 q8.1) (fun q8 => c11 q8.2)))), fun q => absurd q (show ¬ owW w i r from (show ¬ (¬ (oI (moW w (rdA w r) i) = oI (moW w (rdB w r) i))) from (fun q9 => q9 c13)))⟩))
                                rw [show (bI (lsE w a i (r + 1))) = (nI (0)) from (by exact lsE_0 c15 (show ¬ bwW w a r from (show ¬ (((w (9 + 2 * rdA w r) = a) ∧ (¬ (w (9 + 2 * rdB w r) = a))) ∨ ((¬ (w (9 + 2 * rdA w r) = a)) ∧ (w (9 + 2 * rdB w r) = a))) from (fun q7 => q7.elim (fun q8 => c10 q8.1) (fun q8 => c11 q8.2)))))] at z9
                                exact z9
                              · have c16 : ¬ 0 = 0 := c16
                                exact absurd c16 (by decide)
                          · have c14 : ¬ 0 = 0 := c14
                            exact absurd c14 (by decide)
                        · have c13 : ¬ ((oI (moW w (rdA w r) i))) = ((oI (moW w (rdB w r) i))) := c13
                          refine wn_ic (pc' := 172) (w := nI 1) rfl rfl (by decide) ?_
                          refine wn_jp (pc' := 176) rfl rfl ?_
                          refine wn_icmpN (t := 181) (f := 179) rfl rfl rfl (by omega) (by omega) (fun c17 => ?_) (fun c17 => ?_)
                          · have c17 : 0 = 1 := c17
                            exact absurd c17 (by decide)
                          · have c17 : ¬ 0 = 1 := c17
                            refine wn_ic (pc' := 180) (w := nI 0) rfl rfl (by decide) ?_
                            exact wn_iret rfl rfl (by decide) ⟨congrArg (fun z => some (Value.int z)) (bI_f0 (fun q => (show ¬ bwW w a r from (show ¬ (((w (9 + 2 * rdA w r) = a) ∧ (¬ (w (9 + 2 * rdB w r) = a))) ∨ ((¬ (w (9 + 2 * rdA w r) = a)) ∧ (w (9 + 2 * rdB w r) = a))) from (fun q7 => q7.elim (fun q8 => c10 q8.1) (fun q8 => c11 q8.2)))) ((q.1 r (by omega) (show cwW w i r from (show (¬ (w (9 + 2 * rdA w r) = -1)) ∧ (¬ (w (9 + 2 * rdB w r) = -1)) ∧ (¬ (oI (moW w (rdA w r) i) = -1)) ∧ (¬ (oI (moW w (rdB w r) i) = -1)) from ⟨c3, c5, c8, c9⟩))).mpr (show owW w i r from (show ¬ (oI (moW w (rdA w r) i) = oI (moW w (rdB w r) i)) from c13))))), rfl⟩
                      · have c12 : ¬ 0 = 0 := c12
                        exact absurd c12 (by decide)
                    · have c11 : ((w (9 + 2 * (rdB w r)))) = ((a)) := c11
                      refine wn_ic (pc' := 148) (w := nI 1) rfl rfl (by decide) ?_
                      refine wn_jp (pc' := 152) rfl rfl ?_
                      refine wn_icmpN (t := 159) (f := 155) rfl rfl rfl (by omega) (by omega) (fun c18 => ?_) (fun c18 => ?_)
                      · have c18 : 0 = 1 := c18
                        exact absurd c18 (by decide)
                      · have c18 : ¬ 0 = 1 := c18
                        refine wn_ic (pc' := 156) (w := nI 1) rfl rfl (by decide) ?_
                        refine wn_jp (pc' := 160) rfl rfl ?_
                        refine wn_st (pc' := 162) (q := 12) (kin := 0) (lv' := [(0, .ref (0)), (1, .int (a)), (2, .int (nI (i))), (3, .ref (ls)), (4, .ref (47)), (5, .int (bI (lsE w a i r))), (6, .int (nI (r))), (7, .int (nI (rdA w r))), (8, .int (nI (rdB w r))), (9, .int (oI (moW w (rdA w r) i))), (10, .int (oI (moW w (rdB w r) i))), (11, .int (nI (1))), (12, .int (nI (1)))]) rfl (fun _ _ _ => rfl) rfl (Nat.le_of_ble_eq_true rfl) rfl ?_
                        refine wn_ld (pc' := 164) (q := 12) (kin := 0) (v := .int (nI (1))) rfl (fun _ _ _ => rfl) rfl rfl ?_
                        refine wn_ld (pc' := 166) (q := 9) (kin := 0) (v := .int (oI (moW w (rdA w r) i))) rfl (fun _ _ _ => rfl) rfl rfl ?_
                        refine wn_ld (pc' := 168) (q := 10) (kin := 0) (v := .int (oI (moW w (rdB w r) i))) rfl (fun _ _ _ => rfl) rfl rfl ?_
                        refine wn_icmp (t := 175) (f := 171) rfl rfl rfl (fun c19 => ?_) (fun c19 => ?_)
                        · have c19 : ((oI (moW w (rdA w r) i))) = ((oI (moW w (rdB w r) i))) := c19
                          refine wn_ic (pc' := 176) (w := nI 0) rfl rfl (by decide) ?_
                          refine wn_icmpN (t := 181) (f := 179) rfl rfl rfl (by omega) (by omega) (fun c20 => ?_) (fun c20 => ?_)
                          · have c20 : 1 = 0 := c20
                            exact absurd c20 (by decide)
                          · have c20 : ¬ 1 = 0 := c20
                            refine wn_ic (pc' := 180) (w := nI 0) rfl rfl (by decide) ?_
                            exact wn_iret rfl rfl (by decide) ⟨congrArg (fun z => some (Value.int z)) (bI_f0 (fun q => (show ¬ owW w i r from (show ¬ (¬ (oI (moW w (rdA w r) i) = oI (moW w (rdB w r) i))) from (fun q9 => q9 c19))) ((q.1 r (by omega) (show cwW w i r from (show (¬ (w (9 + 2 * rdA w r) = -1)) ∧ (¬ (w (9 + 2 * rdB w r) = -1)) ∧ (¬ (oI (moW w (rdA w r) i) = -1)) ∧ (¬ (oI (moW w (rdB w r) i) = -1)) from ⟨c3, c5, c8, c9⟩))).mp (show bwW w a r from (show ((w (9 + 2 * rdA w r) = a) ∧ (¬ (w (9 + 2 * rdB w r) = a))) ∨ ((¬ (w (9 + 2 * rdA w r) = a)) ∧ (w (9 + 2 * rdB w r) = a)) from (Or.inr ⟨c10, c11⟩)))))), rfl⟩
                        · have c19 : ¬ ((oI (moW w (rdA w r) i))) = ((oI (moW w (rdB w r) i))) := c19
                          refine wn_ic (pc' := 172) (w := nI 1) rfl rfl (by decide) ?_
                          refine wn_jp (pc' := 176) rfl rfl ?_
                          refine wn_icmpN (t := 181) (f := 179) rfl rfl rfl (by omega) (by omega) (fun c21 => ?_) (fun c21 => ?_)
                          · have c21 : 1 = 1 := c21
                            refine wn_ld (pc' := 183) (q := 5) (kin := 0) (v := .int (bI (lsE w a i r))) rfl (fun _ _ _ => rfl) rfl rfl ?_
                            refine wn_ifneB (t := 191) (f := 186) rfl rfl rfl (fun c22 => ?_) (fun c22 => ?_)
                            · have c22 : (lsE w a i r) := c22
                              refine wn_ic (pc' := 192) (w := nI 1) rfl rfl (by decide) ?_
                              refine wn_jp (pc' := 196) rfl rfl ?_
                              refine wn_st (pc' := 198) (q := 5) (kin := 0) (lv' := [(0, .ref (0)), (1, .int (a)), (2, .int (nI (i))), (3, .ref (ls)), (4, .ref (47)), (5, .int (nI (1))), (6, .int (nI (r))), (7, .int (nI (rdA w r))), (8, .int (nI (rdB w r))), (9, .int (oI (moW w (rdA w r) i))), (10, .int (oI (moW w (rdB w r) i))), (11, .int (nI (1))), (12, .int (nI (1)))]) rfl (fun _ _ _ => rfl) rfl (Nat.le_of_ble_eq_true rfl) rfl ?_
                              refine wn_incN (n := 1) (pc' := 201) (lv' := [(0, .ref (0)), (1, .int (a)), (2, .int (nI (i))), (3, .ref (ls)), (4, .ref (47)), (5, .int (nI (1))), (6, .int (nI (r + 1))), (7, .int (nI (rdA w r))), (8, .int (nI (rdB w r))), (9, .int (oI (moW w (rdA w r) i))), (10, .int (oI (moW w (rdB w r) i))), (11, .int (nI (1))), (12, .int (nI (1)))]) rfl rfl rfl (Nat.le_of_ble_eq_true rfl) rfl (by decide) ?_
                              refine wn_jp (pc' := 23) rfl rfl ?_
                              refine wn_weak (lv' := [(0, .ref (0)), (1, .int (a)), (2, .int (nI (i))), (3, .ref (ls)), (4, .ref (47)), (5, .int (nI (1))), (6, .int (nI (r + 1)))]) (by simp) ?_
                              have z9 := ih_lp1 (r + 1) (by omega) (by omega) (lsA_s hA (fun _ => ⟨fun _ => (show owW w i r from (show ¬ (oI (moW w (rdA w r) i) = oI (moW w (rdB w r) i)) from c19)), fun _ => (show bwW w a r from (show ((w (9 + 2 * rdA w r) = a) ∧ (¬ (w (9 + 2 * rdB w r) = a))) ∨ ((¬ (w (9 + 2 * rdA w r) = a)) ∧ (w (9 + 2 * rdB w r) = a)) from (Or.inr ⟨c10, c11⟩)))⟩))
                              rw [show (bI (lsE w a i (r + 1))) = (nI (1)) from (by exact lsE_1 (Or.inl c22))] at z9
                              exact z9
                            · have c22 : ¬ (lsE w a i r) := c22
                              refine wn_ld (pc' := 188) (q := 12) (kin := 0) (v := .int (nI (1))) rfl (fun _ _ _ => rfl) rfl rfl ?_
                              refine wn_ifN (t := 195) (f := 191) rfl rfl rfl (by omega) (fun c23 => ?_) (fun c23 => ?_)
                              · have c23 : 1 = 0 := c23
                                exact absurd c23 (by decide)
                              · have c23 : ¬ 1 = 0 := c23
                                refine wn_ic (pc' := 192) (w := nI 1) rfl rfl (by decide) ?_
                                refine wn_jp (pc' := 196) rfl rfl ?_
                                refine wn_st (pc' := 198) (q := 5) (kin := 0) (lv' := [(0, .ref (0)), (1, .int (a)), (2, .int (nI (i))), (3, .ref (ls)), (4, .ref (47)), (5, .int (nI (1))), (6, .int (nI (r))), (7, .int (nI (rdA w r))), (8, .int (nI (rdB w r))), (9, .int (oI (moW w (rdA w r) i))), (10, .int (oI (moW w (rdB w r) i))), (11, .int (nI (1))), (12, .int (nI (1)))]) rfl (fun _ _ _ => rfl) rfl (Nat.le_of_ble_eq_true rfl) rfl ?_
                                refine wn_incN (n := 1) (pc' := 201) (lv' := [(0, .ref (0)), (1, .int (a)), (2, .int (nI (i))), (3, .ref (ls)), (4, .ref (47)), (5, .int (nI (1))), (6, .int (nI (r + 1))), (7, .int (nI (rdA w r))), (8, .int (nI (rdB w r))), (9, .int (oI (moW w (rdA w r) i))), (10, .int (oI (moW w (rdB w r) i))), (11, .int (nI (1))), (12, .int (nI (1)))]) rfl rfl rfl (Nat.le_of_ble_eq_true rfl) rfl (by decide) ?_
                                refine wn_jp (pc' := 23) rfl rfl ?_
                                refine wn_weak (lv' := [(0, .ref (0)), (1, .int (a)), (2, .int (nI (i))), (3, .ref (ls)), (4, .ref (47)), (5, .int (nI (1))), (6, .int (nI (r + 1)))]) (by simp) ?_
                                have z9 := ih_lp1 (r + 1) (by omega) (by omega) (lsA_s hA (fun _ => ⟨fun _ => (show owW w i r from (show ¬ (oI (moW w (rdA w r) i) = oI (moW w (rdB w r) i)) from c19)), fun _ => (show bwW w a r from (show ((w (9 + 2 * rdA w r) = a) ∧ (¬ (w (9 + 2 * rdB w r) = a))) ∨ ((¬ (w (9 + 2 * rdA w r) = a)) ∧ (w (9 + 2 * rdB w r) = a)) from (Or.inr ⟨c10, c11⟩)))⟩))
                                rw [show (bI (lsE w a i (r + 1))) = (nI (1)) from (by exact lsE_1 (Or.inr ⟨(show cwW w i r from (show (¬ (w (9 + 2 * rdA w r) = -1)) ∧ (¬ (w (9 + 2 * rdB w r) = -1)) ∧ (¬ (oI (moW w (rdA w r) i) = -1)) ∧ (¬ (oI (moW w (rdB w r) i) = -1)) from ⟨c3, c5, c8, c9⟩)), (show bwW w a r from (show ((w (9 + 2 * rdA w r) = a) ∧ (¬ (w (9 + 2 * rdB w r) = a))) ∨ ((¬ (w (9 + 2 * rdA w r) = a)) ∧ (w (9 + 2 * rdB w r) = a)) from (Or.inr ⟨c10, c11⟩)))⟩))] at z9
                                exact z9
                          · have c21 : ¬ 1 = 1 := c21
                            exact absurd c21 (by decide)
                  · have c10 : ((w (9 + 2 * (rdA w r)))) = ((a)) := c10
                    refine wn_ic (pc' := 131) (w := nI 1) rfl rfl (by decide) ?_
                    refine wn_jp (pc' := 135) rfl rfl ?_
                    refine wn_ld (pc' := 137) (q := 4) (kin := 2) (v := .ref (47)) rfl (fun _ _ _ => rfl) rfl rfl ?_
                    refine wn_get (pc' := 140) (v := .ref (49)) rfl rfl n0 rfl ?_
                    refine wn_ld (pc' := 142) (q := 8) (kin := 0) (v := .int (nI (rdB w r))) rfl (fun _ _ _ => rfl) rfl rfl ?_
                    refine wn_ialdv (pc' := 143) (j := rdB w r) (v := (w (9 + 2 * (rdB w r)))) rfl rfl n2 rfl (by omega) (by decide) ((n4 (rdB w r) (by omega)).trans (if_pos (by omega))) ?_
                    refine wn_ld (pc' := 144) (q := 1) (kin := 0) (v := .int (a)) rfl (fun _ _ _ => rfl) rfl rfl ?_
                    refine wn_icmp (t := 151) (f := 147) rfl rfl rfl (fun c24 => ?_) (fun c24 => ?_)
                    · have c24 : ¬ ((w (9 + 2 * (rdB w r)))) = ((a)) := c24
                      refine wn_ic (pc' := 152) (w := nI 0) rfl rfl (by decide) ?_
                      refine wn_icmpN (t := 159) (f := 155) rfl rfl rfl (by omega) (by omega) (fun c25 => ?_) (fun c25 => ?_)
                      · have c25 : 1 = 0 := c25
                        exact absurd c25 (by decide)
                      · have c25 : ¬ 1 = 0 := c25
                        refine wn_ic (pc' := 156) (w := nI 1) rfl rfl (by decide) ?_
                        refine wn_jp (pc' := 160) rfl rfl ?_
                        refine wn_st (pc' := 162) (q := 12) (kin := 0) (lv' := [(0, .ref (0)), (1, .int (a)), (2, .int (nI (i))), (3, .ref (ls)), (4, .ref (47)), (5, .int (bI (lsE w a i r))), (6, .int (nI (r))), (7, .int (nI (rdA w r))), (8, .int (nI (rdB w r))), (9, .int (oI (moW w (rdA w r) i))), (10, .int (oI (moW w (rdB w r) i))), (11, .int (nI (1))), (12, .int (nI (1)))]) rfl (fun _ _ _ => rfl) rfl (Nat.le_of_ble_eq_true rfl) rfl ?_
                        refine wn_ld (pc' := 164) (q := 12) (kin := 0) (v := .int (nI (1))) rfl (fun _ _ _ => rfl) rfl rfl ?_
                        refine wn_ld (pc' := 166) (q := 9) (kin := 0) (v := .int (oI (moW w (rdA w r) i))) rfl (fun _ _ _ => rfl) rfl rfl ?_
                        refine wn_ld (pc' := 168) (q := 10) (kin := 0) (v := .int (oI (moW w (rdB w r) i))) rfl (fun _ _ _ => rfl) rfl rfl ?_
                        refine wn_icmp (t := 175) (f := 171) rfl rfl rfl (fun c26 => ?_) (fun c26 => ?_)
                        · have c26 : ((oI (moW w (rdA w r) i))) = ((oI (moW w (rdB w r) i))) := c26
                          refine wn_ic (pc' := 176) (w := nI 0) rfl rfl (by decide) ?_
                          refine wn_icmpN (t := 181) (f := 179) rfl rfl rfl (by omega) (by omega) (fun c27 => ?_) (fun c27 => ?_)
                          · have c27 : 1 = 0 := c27
                            exact absurd c27 (by decide)
                          · have c27 : ¬ 1 = 0 := c27
                            refine wn_ic (pc' := 180) (w := nI 0) rfl rfl (by decide) ?_
                            exact wn_iret rfl rfl (by decide) ⟨congrArg (fun z => some (Value.int z)) (bI_f0 (fun q => (show ¬ owW w i r from (show ¬ (¬ (oI (moW w (rdA w r) i) = oI (moW w (rdB w r) i))) from (fun q9 => q9 c26))) ((q.1 r (by omega) (show cwW w i r from (show (¬ (w (9 + 2 * rdA w r) = -1)) ∧ (¬ (w (9 + 2 * rdB w r) = -1)) ∧ (¬ (oI (moW w (rdA w r) i) = -1)) ∧ (¬ (oI (moW w (rdB w r) i) = -1)) from ⟨c3, c5, c8, c9⟩))).mp (show bwW w a r from (show ((w (9 + 2 * rdA w r) = a) ∧ (¬ (w (9 + 2 * rdB w r) = a))) ∨ ((¬ (w (9 + 2 * rdA w r) = a)) ∧ (w (9 + 2 * rdB w r) = a)) from (Or.inl ⟨c10, c24⟩)))))), rfl⟩
                        · have c26 : ¬ ((oI (moW w (rdA w r) i))) = ((oI (moW w (rdB w r) i))) := c26
                          refine wn_ic (pc' := 172) (w := nI 1) rfl rfl (by decide) ?_
                          refine wn_jp (pc' := 176) rfl rfl ?_
                          refine wn_icmpN (t := 181) (f := 179) rfl rfl rfl (by omega) (by omega) (fun c28 => ?_) (fun c28 => ?_)
                          · have c28 : 1 = 1 := c28
                            refine wn_ld (pc' := 183) (q := 5) (kin := 0) (v := .int (bI (lsE w a i r))) rfl (fun _ _ _ => rfl) rfl rfl ?_
                            refine wn_ifneB (t := 191) (f := 186) rfl rfl rfl (fun c29 => ?_) (fun c29 => ?_)
                            · have c29 : (lsE w a i r) := c29
                              refine wn_ic (pc' := 192) (w := nI 1) rfl rfl (by decide) ?_
                              refine wn_jp (pc' := 196) rfl rfl ?_
                              refine wn_st (pc' := 198) (q := 5) (kin := 0) (lv' := [(0, .ref (0)), (1, .int (a)), (2, .int (nI (i))), (3, .ref (ls)), (4, .ref (47)), (5, .int (nI (1))), (6, .int (nI (r))), (7, .int (nI (rdA w r))), (8, .int (nI (rdB w r))), (9, .int (oI (moW w (rdA w r) i))), (10, .int (oI (moW w (rdB w r) i))), (11, .int (nI (1))), (12, .int (nI (1)))]) rfl (fun _ _ _ => rfl) rfl (Nat.le_of_ble_eq_true rfl) rfl ?_
                              refine wn_incN (n := 1) (pc' := 201) (lv' := [(0, .ref (0)), (1, .int (a)), (2, .int (nI (i))), (3, .ref (ls)), (4, .ref (47)), (5, .int (nI (1))), (6, .int (nI (r + 1))), (7, .int (nI (rdA w r))), (8, .int (nI (rdB w r))), (9, .int (oI (moW w (rdA w r) i))), (10, .int (oI (moW w (rdB w r) i))), (11, .int (nI (1))), (12, .int (nI (1)))]) rfl rfl rfl (Nat.le_of_ble_eq_true rfl) rfl (by decide) ?_
                              refine wn_jp (pc' := 23) rfl rfl ?_
                              refine wn_weak (lv' := [(0, .ref (0)), (1, .int (a)), (2, .int (nI (i))), (3, .ref (ls)), (4, .ref (47)), (5, .int (nI (1))), (6, .int (nI (r + 1)))]) (by simp) ?_
                              have z9 := ih_lp1 (r + 1) (by omega) (by omega) (lsA_s hA (fun _ => ⟨fun _ => (show owW w i r from (show ¬ (oI (moW w (rdA w r) i) = oI (moW w (rdB w r) i)) from c26)), fun _ => (show bwW w a r from (show ((w (9 + 2 * rdA w r) = a) ∧ (¬ (w (9 + 2 * rdB w r) = a))) ∨ ((¬ (w (9 + 2 * rdA w r) = a)) ∧ (w (9 + 2 * rdB w r) = a)) from (Or.inl ⟨c10, c24⟩)))⟩))
                              rw [show (bI (lsE w a i (r + 1))) = (nI (1)) from (by exact lsE_1 (Or.inl c29))] at z9
                              exact z9
                            · have c29 : ¬ (lsE w a i r) := c29
                              refine wn_ld (pc' := 188) (q := 12) (kin := 0) (v := .int (nI (1))) rfl (fun _ _ _ => rfl) rfl rfl ?_
                              refine wn_ifN (t := 195) (f := 191) rfl rfl rfl (by omega) (fun c30 => ?_) (fun c30 => ?_)
                              · have c30 : 1 = 0 := c30
                                exact absurd c30 (by decide)
                              · have c30 : ¬ 1 = 0 := c30
                                refine wn_ic (pc' := 192) (w := nI 1) rfl rfl (by decide) ?_
                                refine wn_jp (pc' := 196) rfl rfl ?_
                                refine wn_st (pc' := 198) (q := 5) (kin := 0) (lv' := [(0, .ref (0)), (1, .int (a)), (2, .int (nI (i))), (3, .ref (ls)), (4, .ref (47)), (5, .int (nI (1))), (6, .int (nI (r))), (7, .int (nI (rdA w r))), (8, .int (nI (rdB w r))), (9, .int (oI (moW w (rdA w r) i))), (10, .int (oI (moW w (rdB w r) i))), (11, .int (nI (1))), (12, .int (nI (1)))]) rfl (fun _ _ _ => rfl) rfl (Nat.le_of_ble_eq_true rfl) rfl ?_
                                refine wn_incN (n := 1) (pc' := 201) (lv' := [(0, .ref (0)), (1, .int (a)), (2, .int (nI (i))), (3, .ref (ls)), (4, .ref (47)), (5, .int (nI (1))), (6, .int (nI (r + 1))), (7, .int (nI (rdA w r))), (8, .int (nI (rdB w r))), (9, .int (oI (moW w (rdA w r) i))), (10, .int (oI (moW w (rdB w r) i))), (11, .int (nI (1))), (12, .int (nI (1)))]) rfl rfl rfl (Nat.le_of_ble_eq_true rfl) rfl (by decide) ?_
                                refine wn_jp (pc' := 23) rfl rfl ?_
                                refine wn_weak (lv' := [(0, .ref (0)), (1, .int (a)), (2, .int (nI (i))), (3, .ref (ls)), (4, .ref (47)), (5, .int (nI (1))), (6, .int (nI (r + 1)))]) (by simp) ?_
                                have z9 := ih_lp1 (r + 1) (by omega) (by omega) (lsA_s hA (fun _ => ⟨fun _ => (show owW w i r from (show ¬ (oI (moW w (rdA w r) i) = oI (moW w (rdB w r) i)) from c26)), fun _ => (show bwW w a r from (show ((w (9 + 2 * rdA w r) = a) ∧ (¬ (w (9 + 2 * rdB w r) = a))) ∨ ((¬ (w (9 + 2 * rdA w r) = a)) ∧ (w (9 + 2 * rdB w r) = a)) from (Or.inl ⟨c10, c24⟩)))⟩))
                                rw [show (bI (lsE w a i (r + 1))) = (nI (1)) from (by exact lsE_1 (Or.inr ⟨(show cwW w i r from (show (¬ (w (9 + 2 * rdA w r) = -1)) ∧ (¬ (w (9 + 2 * rdB w r) = -1)) ∧ (¬ (oI (moW w (rdA w r) i) = -1)) ∧ (¬ (oI (moW w (rdB w r) i) = -1)) from ⟨c3, c5, c8, c9⟩)), (show bwW w a r from (show ((w (9 + 2 * rdA w r) = a) ∧ (¬ (w (9 + 2 * rdB w r) = a))) ∨ ((¬ (w (9 + 2 * rdA w r) = a)) ∧ (w (9 + 2 * rdB w r) = a)) from (Or.inl ⟨c10, c24⟩)))⟩))] at z9
                                exact z9
                          · have c28 : ¬ 1 = 1 := c28
                            exact absurd c28 (by decide)
                    · have c24 : ((w (9 + 2 * (rdB w r)))) = ((a)) := c24
                      refine wn_ic (pc' := 148) (w := nI 1) rfl rfl (by decide) ?_
                      refine wn_jp (pc' := 152) rfl rfl ?_
                      refine wn_icmpN (t := 159) (f := 155) rfl rfl rfl (by omega) (by omega) (fun c31 => ?_) (fun c31 => ?_)
                      · have c31 : 1 = 1 := c31
                        refine wn_ic (pc' := 160) (w := nI 0) rfl rfl (by decide) ?_
                        refine wn_st (pc' := 162) (q := 12) (kin := 0) (lv' := [(0, .ref (0)), (1, .int (a)), (2, .int (nI (i))), (3, .ref (ls)), (4, .ref (47)), (5, .int (bI (lsE w a i r))), (6, .int (nI (r))), (7, .int (nI (rdA w r))), (8, .int (nI (rdB w r))), (9, .int (oI (moW w (rdA w r) i))), (10, .int (oI (moW w (rdB w r) i))), (11, .int (nI (1))), (12, .int (nI (0)))]) rfl (fun _ _ _ => rfl) rfl (Nat.le_of_ble_eq_true rfl) rfl ?_
                        refine wn_ld (pc' := 164) (q := 12) (kin := 0) (v := .int (nI (0))) rfl (fun _ _ _ => rfl) rfl rfl ?_
                        refine wn_ld (pc' := 166) (q := 9) (kin := 0) (v := .int (oI (moW w (rdA w r) i))) rfl (fun _ _ _ => rfl) rfl rfl ?_
                        refine wn_ld (pc' := 168) (q := 10) (kin := 0) (v := .int (oI (moW w (rdB w r) i))) rfl (fun _ _ _ => rfl) rfl rfl ?_
                        refine wn_icmp (t := 175) (f := 171) rfl rfl rfl (fun c32 => ?_) (fun c32 => ?_)
                        · have c32 : ((oI (moW w (rdA w r) i))) = ((oI (moW w (rdB w r) i))) := c32
                          refine wn_ic (pc' := 176) (w := nI 0) rfl rfl (by decide) ?_
                          refine wn_icmpN (t := 181) (f := 179) rfl rfl rfl (by omega) (by omega) (fun c33 => ?_) (fun c33 => ?_)
                          · have c33 : 0 = 0 := c33
                            refine wn_ld (pc' := 183) (q := 5) (kin := 0) (v := .int (bI (lsE w a i r))) rfl (fun _ _ _ => rfl) rfl rfl ?_
                            refine wn_ifneB (t := 191) (f := 186) rfl rfl rfl (fun c34 => ?_) (fun c34 => ?_)
                            · have c34 : (lsE w a i r) := c34
                              refine wn_ic (pc' := 192) (w := nI 1) rfl rfl (by decide) ?_
                              refine wn_jp (pc' := 196) rfl rfl ?_
                              refine wn_st (pc' := 198) (q := 5) (kin := 0) (lv' := [(0, .ref (0)), (1, .int (a)), (2, .int (nI (i))), (3, .ref (ls)), (4, .ref (47)), (5, .int (nI (1))), (6, .int (nI (r))), (7, .int (nI (rdA w r))), (8, .int (nI (rdB w r))), (9, .int (oI (moW w (rdA w r) i))), (10, .int (oI (moW w (rdB w r) i))), (11, .int (nI (1))), (12, .int (nI (0)))]) rfl (fun _ _ _ => rfl) rfl (Nat.le_of_ble_eq_true rfl) rfl ?_
                              refine wn_incN (n := 1) (pc' := 201) (lv' := [(0, .ref (0)), (1, .int (a)), (2, .int (nI (i))), (3, .ref (ls)), (4, .ref (47)), (5, .int (nI (1))), (6, .int (nI (r + 1))), (7, .int (nI (rdA w r))), (8, .int (nI (rdB w r))), (9, .int (oI (moW w (rdA w r) i))), (10, .int (oI (moW w (rdB w r) i))), (11, .int (nI (1))), (12, .int (nI (0)))]) rfl rfl rfl (Nat.le_of_ble_eq_true rfl) rfl (by decide) ?_
                              refine wn_jp (pc' := 23) rfl rfl ?_
                              refine wn_weak (lv' := [(0, .ref (0)), (1, .int (a)), (2, .int (nI (i))), (3, .ref (ls)), (4, .ref (47)), (5, .int (nI (1))), (6, .int (nI (r + 1)))]) (by simp) ?_
                              have z9 := ih_lp1 (r + 1) (by omega) (by omega) (lsA_s hA (fun _ => ⟨fun q => absurd q (show ¬ bwW w a r from (show ¬ (((w (9 + 2 * rdA w r) = a) ∧ (¬ (w (9 + 2 * rdB w r) = a))) ∨ ((¬ (w (9 + 2 * rdA w r) = a)) ∧ (w (9 + 2 * rdB w r) = a))) from (fun q7 => q7.elim (fun q8 => (fun q9 => q9 c24) q8.2) (fun q8 => (fun q9 => q9 c10) q8.1)))), fun q => absurd q (show ¬ owW w i r from (show ¬ (¬ (oI (moW w (rdA w r) i) = oI (moW w (rdB w r) i))) from (fun q9 => q9 c32)))⟩))
                              rw [show (bI (lsE w a i (r + 1))) = (nI (1)) from (by exact lsE_1 (Or.inl c34))] at z9
                              exact z9
                            · have c34 : ¬ (lsE w a i r) := c34
                              refine wn_ld (pc' := 188) (q := 12) (kin := 0) (v := .int (nI (0))) rfl (fun _ _ _ => rfl) rfl rfl ?_
                              refine wn_ifN (t := 195) (f := 191) rfl rfl rfl (by omega) (fun c35 => ?_) (fun c35 => ?_)
                              · have c35 : 0 = 0 := c35
                                refine wn_ic (pc' := 196) (w := nI 0) rfl rfl (by decide) ?_
                                refine wn_st (pc' := 198) (q := 5) (kin := 0) (lv' := [(0, .ref (0)), (1, .int (a)), (2, .int (nI (i))), (3, .ref (ls)), (4, .ref (47)), (5, .int (nI (0))), (6, .int (nI (r))), (7, .int (nI (rdA w r))), (8, .int (nI (rdB w r))), (9, .int (oI (moW w (rdA w r) i))), (10, .int (oI (moW w (rdB w r) i))), (11, .int (nI (1))), (12, .int (nI (0)))]) rfl (fun _ _ _ => rfl) rfl (Nat.le_of_ble_eq_true rfl) rfl ?_
                                refine wn_incN (n := 1) (pc' := 201) (lv' := [(0, .ref (0)), (1, .int (a)), (2, .int (nI (i))), (3, .ref (ls)), (4, .ref (47)), (5, .int (nI (0))), (6, .int (nI (r + 1))), (7, .int (nI (rdA w r))), (8, .int (nI (rdB w r))), (9, .int (oI (moW w (rdA w r) i))), (10, .int (oI (moW w (rdB w r) i))), (11, .int (nI (1))), (12, .int (nI (0)))]) rfl rfl rfl (Nat.le_of_ble_eq_true rfl) rfl (by decide) ?_
                                refine wn_jp (pc' := 23) rfl rfl ?_
                                refine wn_weak (lv' := [(0, .ref (0)), (1, .int (a)), (2, .int (nI (i))), (3, .ref (ls)), (4, .ref (47)), (5, .int (nI (0))), (6, .int (nI (r + 1)))]) (by simp) ?_
                                have z9 := ih_lp1 (r + 1) (by omega) (by omega) (lsA_s hA (fun _ => ⟨fun q => absurd q (show ¬ bwW w a r from (show ¬ (((w (9 + 2 * rdA w r) = a) ∧ (¬ (w (9 + 2 * rdB w r) = a))) ∨ ((¬ (w (9 + 2 * rdA w r) = a)) ∧ (w (9 + 2 * rdB w r) = a))) from (fun q7 => q7.elim (fun q8 => (fun q9 => q9 c24) q8.2) (fun q8 => (fun q9 => q9 c10) q8.1)))), fun q => absurd q (show ¬ owW w i r from (show ¬ (¬ (oI (moW w (rdA w r) i) = oI (moW w (rdB w r) i))) from (fun q9 => q9 c32)))⟩))
                                rw [show (bI (lsE w a i (r + 1))) = (nI (0)) from (by exact lsE_0 c34 (show ¬ bwW w a r from (show ¬ (((w (9 + 2 * rdA w r) = a) ∧ (¬ (w (9 + 2 * rdB w r) = a))) ∨ ((¬ (w (9 + 2 * rdA w r) = a)) ∧ (w (9 + 2 * rdB w r) = a))) from (fun q7 => q7.elim (fun q8 => (fun q9 => q9 c24) q8.2) (fun q8 => (fun q9 => q9 c10) q8.1)))))] at z9
                                exact z9
                              · have c35 : ¬ 0 = 0 := c35
                                exact absurd c35 (by decide)
                          · have c33 : ¬ 0 = 0 := c33
                            exact absurd c33 (by decide)
                        · have c32 : ¬ ((oI (moW w (rdA w r) i))) = ((oI (moW w (rdB w r) i))) := c32
                          refine wn_ic (pc' := 172) (w := nI 1) rfl rfl (by decide) ?_
                          refine wn_jp (pc' := 176) rfl rfl ?_
                          refine wn_icmpN (t := 181) (f := 179) rfl rfl rfl (by omega) (by omega) (fun c36 => ?_) (fun c36 => ?_)
                          · have c36 : 0 = 1 := c36
                            exact absurd c36 (by decide)
                          · have c36 : ¬ 0 = 1 := c36
                            refine wn_ic (pc' := 180) (w := nI 0) rfl rfl (by decide) ?_
                            exact wn_iret rfl rfl (by decide) ⟨congrArg (fun z => some (Value.int z)) (bI_f0 (fun q => (show ¬ bwW w a r from (show ¬ (((w (9 + 2 * rdA w r) = a) ∧ (¬ (w (9 + 2 * rdB w r) = a))) ∨ ((¬ (w (9 + 2 * rdA w r) = a)) ∧ (w (9 + 2 * rdB w r) = a))) from (fun q7 => q7.elim (fun q8 => (fun q9 => q9 c24) q8.2) (fun q8 => (fun q9 => q9 c10) q8.1)))) ((q.1 r (by omega) (show cwW w i r from (show (¬ (w (9 + 2 * rdA w r) = -1)) ∧ (¬ (w (9 + 2 * rdB w r) = -1)) ∧ (¬ (oI (moW w (rdA w r) i) = -1)) ∧ (¬ (oI (moW w (rdB w r) i) = -1)) from ⟨c3, c5, c8, c9⟩))).mpr (show owW w i r from (show ¬ (oI (moW w (rdA w r) i) = oI (moW w (rdB w r) i)) from c32))))), rfl⟩
                      · have c31 : ¬ 1 = 1 := c31
                        exact absurd c31 (by decide)
  refine wn_weak (lv' := [(0, .ref (0)), (1, .int (a)), (2, .int (nI (i))), (3, .ref (ls)), (4, .ref (47)), (5, .int (nI (0))), (6, .int (nI (0)))]) (by simp) ?_
  have z9 := lp1 ((nrW w) + 1) 0 (by omega) (by omega) (fun r9 q => absurd q (by omega))
  rw [show (bI (lsE w a i 0)) = (nI (0)) from (by exact (bI_f0 (fun ⟨r9, q, _⟩ => absurd q (by omega))).symm)] at z9
  exact z9

theorem x_leans (d : Nat) (h : aH) (ls : Nat) (w : Nat → Int32) (hWf : WfW w) (V : XV h ls w) (R0 : RX h h ls w) (a i : Int32) : Sp (Rn (d + 4)) 122 [.ref (0), .int (a), .int (i)] h (fun r9 h9 => r9 = some (.int (leansA w a i)) ∧ RX h h9 ls w) := by
  obtain ⟨⟨e1, e2⟩, ⟨e3, e4⟩, ⟨e5, e6⟩⟩ := Wf_n hWf
  obtain ⟨⟨e7, e8⟩, ⟨e9, e10⟩⟩ := Wf_m hWf
  obtain ⟨v0, ⟨x9, v1⟩, ⟨v2, ⟨sz, rf, rt, rv, ag, vr, sd, tl, l0, l1, l2, l3, l4, l5, l6, l7, l8, g1, g2, g3, g4, g5⟩, ⟨sec, it, fi, se, sg, lst, rs, rp, pj, pk, pv, k0, k1, k2, k3, k4, k5, k6, k7, k8, k9, k10, k11, k12, k13⟩, ⟨hv, hc, y0, y1, y2, y3, y4⟩, ⟨an, wk, n0, n1, n2, n3, n4⟩⟩, v3⟩ := id V
  rw [e1, e3, e5] at l0
  rw [e7, e9] at k1
  refine Sp_of (by decide) (Nat.le_of_ble_eq_true rfl) ?_
  show Wn _ _ 0 [(0, .ref (0)), (1, .int (a)), (2, .int (i))] [] _ _
  refine wn_ld (pc' := 1) (q := 1) (kin := 0) (v := .int (a)) rfl (fun _ _ _ => rfl) rfl rfl ?_
  refine wn_staI (pc' := 4) rfl rfl (by decide) rfl rfl (Nat.le_of_ble_eq_true rfl) (x_isAsker _ _ _) ?_
  refine wn_ifeqB (t := 15) (f := 7) rfl rfl rfl (fun c1 => ?_) (fun c1 => ?_)
  · have c1 : ¬ (iin a 6) := c1
    refine wn_bp (pc' := 17) (w := -2) rfl rfl (by decide) ?_
    try simp only [Int32.lt_iff_toInt_lt, Int32.le_iff_toInt_le, i2l_int, Int32.toInt_zero, iin] at c1
    refine wn_iret rfl rfl rfl ⟨congrArg (fun z => some (Value.int z)) ?_, (RY.rx (RY.rfl' R0.2.2.1) R0.2.2.2)⟩
    unfold leansA
    rw [qI_f (by simp only [iin]; omega)]
  · have c1 : (iin a 6) := c1
    obtain ⟨a9, ha9, rfl⟩ := iin_of c1
    have ti_a := nI_toInt (n := a9) (show a9 < 2 ^ 31 by omega)
    have cl_a := nI_clamp (n := a9) (show a9 < 2 ^ 31 by omega)
    refine wn_ld (pc' := 8) (q := 0) (kin := 2) (v := .ref (0)) rfl (fun _ _ _ => rfl) rfl rfl ?_
    refine wn_ld (pc' := 9) (q := 2) (kin := 0) (v := .int (i)) rfl (fun _ _ _ => rfl) rfl rfl ?_
    refine wn_virI (pc' := 12) rfl rfl (by decide) rfl rfl v1 (Nat.le_of_ble_eq_true rfl) (x_hasItem _ _ ls w hWf V _) ?_
    refine wn_ifneB (t := 18) (f := 15) rfl rfl rfl (fun c2 => ?_) (fun c2 => ?_)
    · have c2 : (iin i (ntW w)) := c2
      obtain ⟨i9, hi9, rfl⟩ := iin_of c2
      have ti_i := nI_toInt (n := i9) (show i9 < 2 ^ 31 by omega)
      have cl_i := nI_clamp (n := i9) (show i9 < 2 ^ 31 by omega)
      refine wn_ld (pc' := 19) (q := 0) (kin := 2) (v := .ref (0)) rfl (fun _ _ _ => rfl) rfl rfl ?_
      refine wn_ld (pc' := 20) (q := 1) (kin := 0) (v := .int (nI (a9))) rfl (fun _ _ _ => rfl) rfl rfl ?_
      refine wn_ld (pc' := 21) (q := 2) (kin := 0) (v := .int (nI (i9))) rfl (fun _ _ _ => rfl) rfl rfl ?_
      refine wn_virI (pc' := 24) rfl rfl (by decide) rfl rfl v1 (Nat.le_of_ble_eq_true rfl) (x_isLeaning _ _ ls w hWf V (nI (a9)) i9 (by omega)) ?_
      refine wn_ifeqB (t := 31) (f := 27) rfl rfl rfl (fun c3 => ?_) (fun c3 => ?_)
      · have c3 : ¬ (lsW w (nI (a9)) i9) := c3
        refine wn_ic (pc' := 32) (w := nI 0) rfl rfl (by decide) ?_
        try simp only [Int32.lt_iff_toInt_lt, Int32.le_iff_toInt_le, i2l_int, Int32.toInt_zero, iin] at c1
        try simp only [Int32.lt_iff_toInt_lt, Int32.le_iff_toInt_le, i2l_int, Int32.toInt_zero, iin] at c2
        try simp only [Int32.lt_iff_toInt_lt, Int32.le_iff_toInt_le, i2l_int, Int32.toInt_zero, iin] at c3
        refine wn_iret rfl rfl rfl ⟨congrArg (fun z => some (Value.int z)) ?_, (RY.rx (RY.rfl' R0.2.2.1) R0.2.2.2)⟩
        unfold leansA
        rw [qI_t (by simp only [iin]; omega)]
        simp only [cl_a, cl_i]
        exact bI_f0 c3
      · have c3 : (lsW w (nI (a9)) i9) := c3
        refine wn_ic (pc' := 28) (w := nI 1) rfl rfl (by decide) ?_
        refine wn_jp (pc' := 32) rfl rfl ?_
        try simp only [Int32.lt_iff_toInt_lt, Int32.le_iff_toInt_le, i2l_int, Int32.toInt_zero, iin] at c1
        try simp only [Int32.lt_iff_toInt_lt, Int32.le_iff_toInt_le, i2l_int, Int32.toInt_zero, iin] at c2
        try simp only [Int32.lt_iff_toInt_lt, Int32.le_iff_toInt_le, i2l_int, Int32.toInt_zero, iin] at c3
        refine wn_iret rfl rfl rfl ⟨congrArg (fun z => some (Value.int z)) ?_, (RY.rx (RY.rfl' R0.2.2.1) R0.2.2.2)⟩
        unfold leansA
        rw [qI_t (by simp only [iin]; omega)]
        simp only [cl_a, cl_i]
        exact bI_t1 c3
    · have c2 : ¬ (iin i (ntW w)) := c2
      refine wn_bp (pc' := 17) (w := -2) rfl rfl (by decide) ?_
      try simp only [Int32.lt_iff_toInt_lt, Int32.le_iff_toInt_le, i2l_int, Int32.toInt_zero, iin] at c1
      try simp only [Int32.lt_iff_toInt_lt, Int32.le_iff_toInt_le, i2l_int, Int32.toInt_zero, iin] at c2
      refine wn_iret rfl rfl rfl ⟨congrArg (fun z => some (Value.int z)) ?_, (RY.rx (RY.rfl' R0.2.2.1) R0.2.2.2)⟩
      unfold leansA
      rw [qI_f (by simp only [iin]; omega)]

theorem case_35 (a : Int32) (i : Int32) : CaseI Rp 122 234 [.int a, .int i] := case_q (fun h ls w hWf V R => ⟨_, x_leans 696 h ls w hWf V R a i, fun h1 HQ => m_leans 696 h1 w hWf HQ a i⟩)
noncomputable def lnV (w : Nat → Int32) (a : Int32) (i v x : Nat) : Nat := cntP (fun v => w (9 + 2 * v) = a ∧ oI (moW w v i) = nI x) v
theorem lnV_le (w : Nat → Int32) (a : Int32) (i v x : Nat) : lnV w a i v x ≤ v := cntP_le _ _
theorem lnV_t {w : Nat → Int32} {a : Int32} {i v x : Nat} (h : w (9 + 2 * v) = a) (e : moW w v i = some x) : lnV w a i (v + 1) x = lnV w a i v x + 1 := cntP_t (p := fun v => w (9 + 2 * v) = a ∧ oI (moW w v i) = nI x) ⟨h, by rw [e]; rfl⟩
theorem lnV_f {w : Nat → Int32} {a : Int32} {i v x : Nat} (h : ¬ (w (9 + 2 * v) = a ∧ oI (moW w v i) = nI x)) : lnV w a i (v + 1) x = lnV w a i v x := cntP_f (p := fun v => w (9 + 2 * v) = a ∧ oI (moW w v i) = nI x) h
theorem x_lean (d : Nat) (h : aH) (ls : Nat) (w : Nat → Int32) (hWf : WfW w) (V : XV h ls w) (R0 : RX h h ls w) (a i : Int32) : Sp (Rn (d + 4)) 124 [.ref (0), .int (a), .int (i)] h (fun r9 h9 => r9 = some (.int (leanA w a i)) ∧ RX h h9 ls w) := by
  obtain ⟨⟨e1, e2⟩, ⟨e3, e4⟩, ⟨e5, e6⟩⟩ := Wf_n hWf
  obtain ⟨⟨e7, e8⟩, ⟨e9, e10⟩⟩ := Wf_m hWf
  obtain ⟨v0, ⟨x9, v1⟩, ⟨v2, ⟨sz, rf, rt, rv, ag, vr, sd, tl, l0, l1, l2, l3, l4, l5, l6, l7, l8, g1, g2, g3, g4, g5⟩, ⟨sec, it, fi, se, sg, lst, rs, rp, pj, pk, pv, k0, k1, k2, k3, k4, k5, k6, k7, k8, k9, k10, k11, k12, k13⟩, ⟨hv, hc, y0, y1, y2, y3, y4⟩, ⟨an, wk, n0, n1, n2, n3, n4⟩⟩, v3⟩ := id V
  rw [e1, e3, e5] at l0
  rw [e7, e9] at k1
  refine Sp_of (by decide) (Nat.le_of_ble_eq_true rfl) ?_
  show Wn _ _ 0 [(0, .ref (0)), (1, .int (a)), (2, .int (i))] [] _ _
  refine wn_ld (pc' := 1) (q := 1) (kin := 0) (v := .int (a)) rfl (fun _ _ _ => rfl) rfl rfl ?_
  refine wn_staI (pc' := 4) rfl rfl (by decide) rfl rfl (Nat.le_of_ble_eq_true rfl) (x_isAsker _ _ _) ?_
  refine wn_ifeqB (t := 15) (f := 7) rfl rfl rfl (fun c1 => ?_) (fun c1 => ?_)
  · have c1 : ¬ (iin a 6) := c1
    refine wn_bp (pc' := 17) (w := -2) rfl rfl (by decide) ?_
    try simp only [Int32.lt_iff_toInt_lt, Int32.le_iff_toInt_le, i2l_int, Int32.toInt_zero, iin] at c1
    refine wn_iret rfl rfl rfl ⟨congrArg (fun z => some (Value.int z)) ?_, (RY.rx (RY.rfl' R0.2.2.1) R0.2.2.2)⟩
    unfold leanA
    rw [qI_f (by simp only [iin]; omega)]
  · have c1 : (iin a 6) := c1
    obtain ⟨a9, ha9, rfl⟩ := iin_of c1
    have ti_a := nI_toInt (n := a9) (show a9 < 2 ^ 31 by omega)
    have cl_a := nI_clamp (n := a9) (show a9 < 2 ^ 31 by omega)
    refine wn_ld (pc' := 8) (q := 0) (kin := 2) (v := .ref (0)) rfl (fun _ _ _ => rfl) rfl rfl ?_
    refine wn_ld (pc' := 9) (q := 2) (kin := 0) (v := .int (i)) rfl (fun _ _ _ => rfl) rfl rfl ?_
    refine wn_virI (pc' := 12) rfl rfl (by decide) rfl rfl v1 (Nat.le_of_ble_eq_true rfl) (x_hasItem _ _ ls w hWf V _) ?_
    refine wn_ifneB (t := 18) (f := 15) rfl rfl rfl (fun c2 => ?_) (fun c2 => ?_)
    · have c2 : (iin i (ntW w)) := c2
      obtain ⟨i9, hi9, rfl⟩ := iin_of c2
      have ti_i := nI_toInt (n := i9) (show i9 < 2 ^ 31 by omega)
      have cl_i := nI_clamp (n := i9) (show i9 < 2 ^ 31 by omega)
      refine wn_ld (pc' := 19) (q := 0) (kin := 2) (v := .ref (0)) rfl (fun _ _ _ => rfl) rfl rfl ?_
      refine wn_ld (pc' := 20) (q := 1) (kin := 0) (v := .int (nI (a9))) rfl (fun _ _ _ => rfl) rfl rfl ?_
      refine wn_ld (pc' := 21) (q := 2) (kin := 0) (v := .int (nI (i9))) rfl (fun _ _ _ => rfl) rfl rfl ?_
      refine wn_virI (pc' := 24) rfl rfl (by decide) rfl rfl v1 (Nat.le_of_ble_eq_true rfl) (x_isLeaning _ _ ls w hWf V (nI (a9)) i9 (by omega)) ?_
      refine wn_ifneB (t := 29) (f := 27) rfl rfl rfl (fun c3 => ?_) (fun c3 => ?_)
      · have c3 : (lsW w (nI (a9)) i9) := c3
        refine wn_ld (pc' := 30) (q := 0) (kin := 2) (v := .ref (0)) rfl (fun _ _ _ => rfl) rfl rfl ?_
        refine wn_virS (pc' := 33) rfl rfl (by decide) rfl rfl v1 (Nat.le_of_ble_eq_true rfl) (x_clearTally _ _ ls w hWf V _ (ScrX.i61 (RY.rx (RY.rfl' R0.2.2.1) R0.2.2.2).2.2.2).choose_spec) (fun r9 h4 e5 => ?_)
        obtain ⟨rfl, f_h4, t_h4, i_h4, tz_h4⟩ := e5
        have RX_h4 := RX.s61 (RY.rx (RY.rfl' R0.2.2.1) R0.2.2.2) f_h4 i_h4
        have V_h4 := RX_h4.xv V
        obtain ⟨v0_h4, ⟨x9_h4, v1_h4⟩, ⟨v2_h4, ⟨sz_h4, rf_h4, rt_h4, rv_h4, ag_h4, vr_h4, sd_h4, tl_h4, l0_h4, l1_h4, l2_h4, l3_h4, l4_h4, l5_h4, l6_h4, l7_h4, l8_h4, g1_h4, g2_h4, g3_h4, g4_h4, g5_h4⟩, ⟨sec_h4, it_h4, fi_h4, se_h4, sg_h4, lst_h4, rs_h4, rp_h4, pj_h4, pk_h4, pv_h4, k0_h4, k1_h4, k2_h4, k3_h4, k4_h4, k5_h4, k6_h4, k7_h4, k8_h4, k9_h4, k10_h4, k11_h4, k12_h4, k13_h4⟩, ⟨hv_h4, hc_h4, y0_h4, y1_h4, y2_h4, y3_h4, y4_h4⟩, ⟨an_h4, wk_h4, n0_h4, n1_h4, n2_h4, n3_h4, n4_h4⟩⟩, v3_h4⟩ := id V_h4
        rw [e1, e3, e5] at l0_h4
        rw [e7, e9] at k1_h4
        show Wn _ _ 33 _ [] h4 _
        refine wn_ic (pc' := 34) (w := nI 0) rfl rfl (by decide) ?_
        refine wn_st (pc' := 35) (q := 3) (kin := 0) (lv' := [(0, .ref (0)), (1, .int (nI (a9))), (2, .int (nI (i9))), (3, .int (nI (0)))]) rfl (fun _ _ _ => rfl) rfl (Nat.le_of_ble_eq_true rfl) rfl ?_
        have lp7 : ∀ (n_lp7 : Nat) (g6 : aH) (t1 : Nat → Int32) (v : Nat), (nvW w) + 1 ≤ v + n_lp7 → Fr [61] h4 g6 → isI g6 61 5 t1 → v ≤ nvW w → (∀ x, x < 5 → t1 x = nI (lnV w (nI a9) i9 v x)) → Wn (Rn (d + 3)) 124 35 [(0, .ref (0)), (1, .int (nI (a9))), (2, .int (nI (i9))), (3, .int (nI (v)))] [] (g6) (fun r9 h9 => r9 = some (.int (leanA w (nI a9) (nI i9))) ∧ RX h h9 ls w) := by
          intro n_lp7
          induction n_lp7 with
          | zero => intro g6 t1 v hm_lp7 hf_g6 c_61_g6 hv_ hT; exfalso; omega
          | succ n_lp7 ih_lp7 =>
            intro g6 t1 v hm_lp7 hf_g6 c_61_g6 hv_ hT
            have V_g6 : XV g6 ls w := XV.frl V_h4 hf_g6 (by decide)
            refine wn_ld (pc' := 36) (q := 3) (kin := 0) (v := .int (nI (v))) rfl (fun _ _ _ => rfl) rfl rfl ?_
            refine wn_ld (pc' := 37) (q := 0) (kin := 2) (v := .ref (0)) rfl (fun _ _ _ => rfl) rfl rfl ?_
            refine wn_get (pc' := 40) (v := .ref (23)) rfl rfl ((hf_g6.2 0 (by decide)).trans v1_h4) rfl ?_
            refine wn_get (pc' := 43) (v := .ref (ls)) rfl rfl ((hf_g6.2 23 (by decide)).trans v2_h4) rfl ?_
            refine wn_get (pc' := 46) (v := .int (nI (nvW w))) rfl rfl ((hf_g6.2 ls (by simp only [List.mem_cons, List.not_mem_nil, or_false]; omega)).trans l0_h4) rfl ?_
            refine wn_icmpN (t := 102) (f := 49) rfl rfl rfl (by omega) (by omega) (fun c8 => ?_) (fun c8 => ?_)
            · have c8 : (nvW w) ≤ v := c8
              obtain rfl : v = nvW w := by omega
              refine wn_ic (pc' := 103) (w := nI 0) rfl rfl (by decide) ?_
              refine wn_st (pc' := 104) (q := 3) (kin := 0) (lv' := [(0, .ref (0)), (1, .int (nI (a9))), (2, .int (nI (i9))), (3, .int (nI (0)))]) rfl (fun _ _ _ => rfl) rfl (Nat.le_of_ble_eq_true rfl) rfl ?_
              refine wn_ic (pc' := 105) (w := nI 1) rfl rfl (by decide) ?_
              refine wn_st (pc' := 107) (q := 4) (kin := 0) (lv' := [(0, .ref (0)), (1, .int (nI (a9))), (2, .int (nI (i9))), (3, .int (nI (0))), (4, .int (nI (1)))]) rfl (fun _ _ _ => rfl) rfl (Nat.le_of_ble_eq_true rfl) rfl ?_
              have lp9 : ∀ (n_lp9 : Nat) (k : Nat), 4 + 1 ≤ k + n_lp9 → k ≤ 4 → Wn (Rn (d + 3)) 124 107 [(0, .ref (0)), (1, .int (nI (a9))), (2, .int (nI (i9))), (3, .int (nI (amN (lnC w (nI a9) i9) k))), (4, .int (nI (k + 1)))] [] (g6) (fun r9 h9 => r9 = some (.int (leanA w (nI a9) (nI i9))) ∧ RX h h9 ls w) := by
                intro n_lp9
                induction n_lp9 with
                | zero => intro k hm_lp9 hk; exfalso; omega
                | succ n_lp9 ih_lp9 =>
                  intro k hm_lp9 hk
                  have := amN_le (lnC w (nI a9) i9) k
                  refine wn_ld (pc' := 109) (q := 4) (kin := 0) (v := .int (nI (k + 1))) rfl (fun _ _ _ => rfl) rfl rfl ?_
                  refine wn_ic (pc' := 110) (w := nI 5) rfl rfl (by decide) ?_
                  refine wn_icmpN (t := 138) (f := 113) rfl rfl rfl (by omega) (by omega) (fun c10 => ?_) (fun c10 => ?_)
                  · have c10 : 5 ≤ (k + 1) := c10
                    refine wn_ld (pc' := 139) (q := 3) (kin := 0) (v := .int (nI (amN (lnC w (nI a9) i9) k))) rfl (fun _ _ _ => rfl) rfl rfl ?_
                    try simp only [Int32.lt_iff_toInt_lt, Int32.le_iff_toInt_le, i2l_int, Int32.toInt_zero, iin] at c1
                    try simp only [Int32.lt_iff_toInt_lt, Int32.le_iff_toInt_le, i2l_int, Int32.toInt_zero, iin] at c2
                    try simp only [Int32.lt_iff_toInt_lt, Int32.le_iff_toInt_le, i2l_int, Int32.toInt_zero, iin] at c3
                    refine wn_iret rfl rfl rfl ⟨congrArg (fun z => some (Value.int z)) ?_, (RX.s61 RX_h4 hf_g6 c_61_g6)⟩
                    unfold leanA
                    rw [qI_t (by simp only [iin]; omega)]
                    simp only [cl_a, cl_i]
                    obtain ⟨x5, hx5, h05⟩ := ls_pos hWf c3
                    obtain rfl : k = 4 := by omega
                    rw [qI_t c3, leS_am hx5 h05]
                  · have c10 : (k + 1) < 5 := c10
                    refine wn_ld (pc' := 114) (q := 0) (kin := 2) (v := .ref (0)) rfl (fun _ _ _ => rfl) rfl rfl ?_
                    refine wn_get (pc' := 117) (v := .ref (61)) rfl rfl ((hf_g6.2 0 (by decide)).trans v1_h4) rfl ?_
                    refine wn_ld (pc' := 119) (q := 4) (kin := 0) (v := .int (nI (k + 1))) rfl (fun _ _ _ => rfl) rfl rfl ?_
                    have := lnC_le hWf (nI a9) i9 (k + 1)
                    refine wn_ialdv (pc' := 120) (j := k + 1) (v := (nI (lnC w (nI a9) i9 (k + 1)))) rfl rfl c_61_g6 rfl (by omega) (by decide) (hT (k + 1) (by omega)) ?_
                    refine wn_ld (pc' := 121) (q := 0) (kin := 2) (v := .ref (0)) rfl (fun _ _ _ => rfl) rfl rfl ?_
                    refine wn_get (pc' := 124) (v := .ref (61)) rfl rfl ((hf_g6.2 0 (by decide)).trans v1_h4) rfl ?_
                    refine wn_ld (pc' := 125) (q := 3) (kin := 0) (v := .int (nI (amN (lnC w (nI a9) i9) k))) rfl (fun _ _ _ => rfl) rfl rfl ?_
                    have := lnC_le hWf (nI a9) i9 (amN (lnC w (nI a9) i9) k)
                    refine wn_ialdv (pc' := 126) (j := amN (lnC w (nI a9) i9) k) (v := (nI (lnC w (nI a9) i9 (amN (lnC w (nI a9) i9) k)))) rfl rfl c_61_g6 rfl (by omega) (by decide) (hT (amN (lnC w (nI a9) i9) k) (by omega)) ?_
                    refine wn_icmpN (t := 132) (f := 129) rfl rfl rfl (by omega) (by omega) (fun c11 => ?_) (fun c11 => ?_)
                    · have c11 : (lnC w (nI a9) i9 (k + 1)) ≤ (lnC w (nI a9) i9 (amN (lnC w (nI a9) i9) k)) := c11
                      refine wn_incN (n := 1) (pc' := 135) (lv' := [(0, .ref (0)), (1, .int (nI (a9))), (2, .int (nI (i9))), (3, .int (nI (amN (lnC w (nI a9) i9) k))), (4, .int (nI (k + 1 + 1)))]) rfl rfl rfl (Nat.le_of_ble_eq_true rfl) rfl (by decide) ?_
                      refine wn_jp (pc' := 107) rfl rfl ?_
                      refine wn_weak (lv' := [(0, .ref (0)), (1, .int (nI (a9))), (2, .int (nI (i9))), (3, .int (nI (amN (lnC w (nI a9) i9) k))), (4, .int (nI (k + 1 + 1)))]) (by simp) ?_
                      have z9 := ih_lp9 (k + 1) (by omega) (by omega)
                      rw [show (nI (amN (lnC w (nI a9) i9) (k + 1))) = (nI (amN (lnC w (nI a9) i9) k)) from (by exact congrArg nI (amN_f (f := lnC w (nI a9) i9) (by omega)))] at z9
                      rw [show (nI ((k + 1) + 1)) = (nI (k + 1 + 1)) from (by rfl)] at z9
                      exact z9
                    · have c11 : (lnC w (nI a9) i9 (amN (lnC w (nI a9) i9) k)) < (lnC w (nI a9) i9 (k + 1)) := c11
                      refine wn_ld (pc' := 131) (q := 4) (kin := 0) (v := .int (nI (k + 1))) rfl (fun _ _ _ => rfl) rfl rfl ?_
                      refine wn_st (pc' := 132) (q := 3) (kin := 0) (lv' := [(0, .ref (0)), (1, .int (nI (a9))), (2, .int (nI (i9))), (3, .int (nI (k + 1))), (4, .int (nI (k + 1)))]) rfl (fun _ _ _ => rfl) rfl (Nat.le_of_ble_eq_true rfl) rfl ?_
                      refine wn_incN (n := 1) (pc' := 135) (lv' := [(0, .ref (0)), (1, .int (nI (a9))), (2, .int (nI (i9))), (3, .int (nI (k + 1))), (4, .int (nI (k + 1 + 1)))]) rfl rfl rfl (Nat.le_of_ble_eq_true rfl) rfl (by decide) ?_
                      refine wn_jp (pc' := 107) rfl rfl ?_
                      refine wn_weak (lv' := [(0, .ref (0)), (1, .int (nI (a9))), (2, .int (nI (i9))), (3, .int (nI (k + 1))), (4, .int (nI (k + 1 + 1)))]) (by simp) ?_
                      have z9 := ih_lp9 (k + 1) (by omega) (by omega)
                      rw [show (nI (amN (lnC w (nI a9) i9) (k + 1))) = (nI (k + 1)) from (by exact congrArg nI (amN_t (f := lnC w (nI a9) i9) (by omega)))] at z9
                      rw [show (nI ((k + 1) + 1)) = (nI (k + 1 + 1)) from (by rfl)] at z9
                      exact z9
              refine wn_weak (lv' := [(0, .ref (0)), (1, .int (nI (a9))), (2, .int (nI (i9))), (3, .int (nI (0))), (4, .int (nI (1)))]) (by simp) ?_
              have z9 := lp9 (4 + 1) 0 (by omega) (by omega)
              rw [show (nI (amN (lnC w (nI a9) i9) 0)) = (nI (0)) from (by rfl)] at z9
              rw [show (nI (0 + 1)) = (nI (1)) from (by rfl)] at z9
              exact z9
            · have c8 : v < (nvW w) := c8
              refine wn_ld (pc' := 50) (q := 0) (kin := 2) (v := .ref (0)) rfl (fun _ _ _ => rfl) rfl rfl ?_
              refine wn_get (pc' := 53) (v := .ref (23)) rfl rfl ((hf_g6.2 0 (by decide)).trans v1_h4) rfl ?_
              refine wn_get (pc' := 56) (v := .ref (47)) rfl rfl ((hf_g6.2 23 (by decide)).trans v2_h4) rfl ?_
              refine wn_ld (pc' := 57) (q := 3) (kin := 0) (v := .int (nI (v))) rfl (fun _ _ _ => rfl) rfl rfl ?_
              refine wn_ld (pc' := 58) (q := 2) (kin := 0) (v := .int (nI (i9))) rfl (fun _ _ _ => rfl) rfl rfl ?_
              refine wn_virI (pc' := 61) rfl rfl (by decide) rfl rfl ((hf_g6.2 47 (by decide)).trans n0_h4) (Nat.le_of_ble_eq_true rfl) (x_commonest _ _ ls w hWf V_g6 v i9 (by omega) (by omega)) ?_
              cases ho9 : moW w v i9 with
              | none =>
                show Wn _ _ 61 _ [.int (-1)] _ _
                refine wn_st (pc' := 63) (q := 4) (kin := 0) (lv' := [(0, .ref (0)), (1, .int (nI (a9))), (2, .int (nI (i9))), (3, .int (nI (v))), (4, .int (-1))]) rfl (fun _ _ _ => rfl) rfl (Nat.le_of_ble_eq_true rfl) rfl ?_
                refine wn_ld (pc' := 64) (q := 0) (kin := 2) (v := .ref (0)) rfl (fun _ _ _ => rfl) rfl rfl ?_
                refine wn_get (pc' := 67) (v := .ref (23)) rfl rfl ((hf_g6.2 0 (by decide)).trans v1_h4) rfl ?_
                refine wn_get (pc' := 70) (v := .ref (47)) rfl rfl ((hf_g6.2 23 (by decide)).trans v2_h4) rfl ?_
                refine wn_get (pc' := 73) (v := .ref (49)) rfl rfl ((hf_g6.2 47 (by decide)).trans n0_h4) rfl ?_
                refine wn_ld (pc' := 74) (q := 3) (kin := 0) (v := .int (nI (v))) rfl (fun _ _ _ => rfl) rfl rfl ?_
                refine wn_ialdv (pc' := 75) (j := v) (v := (w (9 + 2 * v))) rfl rfl ((hf_g6.2 49 (by decide)).trans n2_h4) rfl (by omega) (by decide) ((n4_h4 v (by omega)).trans (if_pos (by omega))) ?_
                refine wn_ld (pc' := 76) (q := 1) (kin := 0) (v := .int (nI (a9))) rfl (fun _ _ _ => rfl) rfl rfl ?_
                refine wn_icmp (t := 96) (f := 79) rfl rfl rfl (fun c12 => ?_) (fun c12 => ?_)
                · have c12 : ¬ ((w (9 + 2 * v))) = ((nI (a9))) := c12
                  refine wn_incN (n := 1) (pc' := 99) (lv' := [(0, .ref (0)), (1, .int (nI (a9))), (2, .int (nI (i9))), (3, .int (nI (v + 1))), (4, .int (-1))]) rfl rfl rfl (Nat.le_of_ble_eq_true rfl) rfl (by decide) ?_
                  refine wn_jp (pc' := 35) rfl rfl ?_
                  refine wn_weak (lv' := [(0, .ref (0)), (1, .int (nI (a9))), (2, .int (nI (i9))), (3, .int (nI (v + 1)))]) (by simp) ?_
                  have z9 := ih_lp7 g6 t1 (v + 1) (by omega) hf_g6 c_61_g6 (by omega) (fun x q => by rw [lnV_f (fun q9 => c12 q9.1)]; exact hT x q)
                  exact z9
                · have c12 : ((w (9 + 2 * v))) = ((nI (a9))) := c12
                  refine wn_ld (pc' := 81) (q := 4) (kin := 0) (v := .int (-1)) rfl (fun _ _ _ => rfl) rfl rfl ?_
                  refine wn_ic (pc' := 82) (w := -1) rfl rfl (by decide) ?_
                  refine wn_icmp (t := 96) (f := 85) rfl rfl rfl (fun c13 => ?_) (fun c13 => ?_)
                  · have c13 : ((-1) : Int32) = ((-1)) := c13
                    refine wn_incN (n := 1) (pc' := 99) (lv' := [(0, .ref (0)), (1, .int (nI (a9))), (2, .int (nI (i9))), (3, .int (nI (v + 1))), (4, .int (-1))]) rfl rfl rfl (Nat.le_of_ble_eq_true rfl) rfl (by decide) ?_
                    refine wn_jp (pc' := 35) rfl rfl ?_
                    refine wn_weak (lv' := [(0, .ref (0)), (1, .int (nI (a9))), (2, .int (nI (i9))), (3, .int (nI (v + 1)))]) (by simp) ?_
                    have z9 := ih_lp7 g6 t1 (v + 1) (by omega) hf_g6 c_61_g6 (by omega) (fun x q => by rw [lnV_f (fun q9 => by rw [ho9] at q9; exact absurd q9.2.symm (nI_m1 (by omega)))]; exact hT x q)
                    exact z9
                  · have c13 : ¬ ((-1) : Int32) = ((-1)) := c13
                    exact absurd rfl c13
              | some b =>
                have hb5 := moW_5 ho9
                show Wn _ _ 61 _ [.int (nI (b))] _ _
                refine wn_st (pc' := 63) (q := 4) (kin := 0) (lv' := [(0, .ref (0)), (1, .int (nI (a9))), (2, .int (nI (i9))), (3, .int (nI (v))), (4, .int (nI (b)))]) rfl (fun _ _ _ => rfl) rfl (Nat.le_of_ble_eq_true rfl) rfl ?_
                refine wn_ld (pc' := 64) (q := 0) (kin := 2) (v := .ref (0)) rfl (fun _ _ _ => rfl) rfl rfl ?_
                refine wn_get (pc' := 67) (v := .ref (23)) rfl rfl ((hf_g6.2 0 (by decide)).trans v1_h4) rfl ?_
                refine wn_get (pc' := 70) (v := .ref (47)) rfl rfl ((hf_g6.2 23 (by decide)).trans v2_h4) rfl ?_
                refine wn_get (pc' := 73) (v := .ref (49)) rfl rfl ((hf_g6.2 47 (by decide)).trans n0_h4) rfl ?_
                refine wn_ld (pc' := 74) (q := 3) (kin := 0) (v := .int (nI (v))) rfl (fun _ _ _ => rfl) rfl rfl ?_
                refine wn_ialdv (pc' := 75) (j := v) (v := (w (9 + 2 * v))) rfl rfl ((hf_g6.2 49 (by decide)).trans n2_h4) rfl (by omega) (by decide) ((n4_h4 v (by omega)).trans (if_pos (by omega))) ?_
                refine wn_ld (pc' := 76) (q := 1) (kin := 0) (v := .int (nI (a9))) rfl (fun _ _ _ => rfl) rfl rfl ?_
                refine wn_icmp (t := 96) (f := 79) rfl rfl rfl (fun c14 => ?_) (fun c14 => ?_)
                · have c14 : ¬ ((w (9 + 2 * v))) = ((nI (a9))) := c14
                  refine wn_incN (n := 1) (pc' := 99) (lv' := [(0, .ref (0)), (1, .int (nI (a9))), (2, .int (nI (i9))), (3, .int (nI (v + 1))), (4, .int (nI (b)))]) rfl rfl rfl (Nat.le_of_ble_eq_true rfl) rfl (by decide) ?_
                  refine wn_jp (pc' := 35) rfl rfl ?_
                  refine wn_weak (lv' := [(0, .ref (0)), (1, .int (nI (a9))), (2, .int (nI (i9))), (3, .int (nI (v + 1)))]) (by simp) ?_
                  have z9 := ih_lp7 g6 t1 (v + 1) (by omega) hf_g6 c_61_g6 (by omega) (fun x q => by rw [lnV_f (fun q9 => c14 q9.1)]; exact hT x q)
                  exact z9
                · have c14 : ((w (9 + 2 * v))) = ((nI (a9))) := c14
                  refine wn_ld (pc' := 81) (q := 4) (kin := 0) (v := .int (nI (b))) rfl (fun _ _ _ => rfl) rfl rfl ?_
                  refine wn_ic (pc' := 82) (w := -1) rfl rfl (by decide) ?_
                  refine wn_icmp (t := 96) (f := 85) rfl rfl rfl (fun c15 => ?_) (fun c15 => ?_)
                  · have c15 : ((nI (b))) = ((-1)) := c15
                    exact absurd c15 (nI_m1 (by omega))
                  · have c15 : ¬ ((nI (b))) = ((-1)) := c15
                    refine wn_ld (pc' := 86) (q := 0) (kin := 2) (v := .ref (0)) rfl (fun _ _ _ => rfl) rfl rfl ?_
                    refine wn_get (pc' := 89) (v := .ref (61)) rfl rfl ((hf_g6.2 0 (by decide)).trans v1_h4) rfl ?_
                    refine wn_ld (pc' := 91) (q := 4) (kin := 0) (v := .int (nI (b))) rfl (fun _ _ _ => rfl) rfl rfl ?_
                    refine wn_pu (pc' := 92) (st' := [.int (nI (b)), .ref (61), .int (nI (b)), .ref (61)]) rfl (fun _ _ _ => rfl) rfl rfl ?_
                    have := lnV_le w (nI a9) i9 v b
                    refine wn_ialdv (pc' := 93) (j := b) (v := (nI (lnV w (nI a9) i9 v b))) rfl rfl c_61_g6 rfl (by omega) (by decide) (hT b (by omega)) ?_
                    refine wn_ic (pc' := 94) (w := nI 1) rfl rfl (by decide) ?_
                    refine wn_addN (pc' := 95) rfl rfl ?_
                    refine wn_iast (pc' := 96) (j := b) rfl rfl c_61_g6 rfl (by omega) (by decide) ?_
                    refine wn_incN (n := 1) (pc' := 99) (lv' := [(0, .ref (0)), (1, .int (nI (a9))), (2, .int (nI (i9))), (3, .int (nI (v + 1))), (4, .int (nI (b)))]) rfl rfl rfl (Nat.le_of_ble_eq_true rfl) rfl (by decide) ?_
                    refine wn_jp (pc' := 35) rfl rfl ?_
                    refine wn_weak (lv' := [(0, .ref (0)), (1, .int (nI (a9))), (2, .int (nI (i9))), (3, .int (nI (v + 1)))]) (by simp) ?_
                    have z9 := ih_lp7 (g6.set 61 (.inl (0, 5, .inl (upd t1 (b) ((nI ((lnV w (nI a9) i9 v b) + 1))))))) (upd t1 (b) ((nI ((lnV w (nI a9) i9 v b) + 1)))) (v + 1) (by omega) (Fr.st hf_g6 (by decide)) (gs_self c_61_g6) (by omega) (fun x q => by by_cases e : x = b; (rw [e, pk_us, lnV_t c14 ho9]); (rw [pk_un e, lnV_f (fun q9 => by rw [ho9] at q9; exact e ((nI_eq (show b < 2 ^ 31 by omega) (show x < 2 ^ 31 by omega)).mp q9.2).symm)]; exact hT x q))
                    exact z9
        refine wn_weak (lv' := [(0, .ref (0)), (1, .int (nI (a9))), (2, .int (nI (i9))), (3, .int (nI (0)))]) (by simp) ?_
        have z9 := lp7 ((nvW w) + 1) h4 t_h4 0 (by omega) (Fr.rfl' [61] h4) i_h4 (by omega) tz_h4
        exact z9
      · have c3 : ¬ (lsW w (nI (a9)) i9) := c3
        refine wn_ic (pc' := 28) (w := -1) rfl rfl (by decide) ?_
        try simp only [Int32.lt_iff_toInt_lt, Int32.le_iff_toInt_le, i2l_int, Int32.toInt_zero, iin] at c1
        try simp only [Int32.lt_iff_toInt_lt, Int32.le_iff_toInt_le, i2l_int, Int32.toInt_zero, iin] at c2
        try simp only [Int32.lt_iff_toInt_lt, Int32.le_iff_toInt_le, i2l_int, Int32.toInt_zero, iin] at c3
        refine wn_iret rfl rfl rfl ⟨congrArg (fun z => some (Value.int z)) ?_, (RY.rx (RY.rfl' R0.2.2.1) R0.2.2.2)⟩
        unfold leanA
        rw [qI_t (by simp only [iin]; omega)]
        simp only [cl_a, cl_i]
        exact (qI_f c3).symm
    · have c2 : ¬ (iin i (ntW w)) := c2
      refine wn_bp (pc' := 17) (w := -2) rfl rfl (by decide) ?_
      try simp only [Int32.lt_iff_toInt_lt, Int32.le_iff_toInt_le, i2l_int, Int32.toInt_zero, iin] at c1
      try simp only [Int32.lt_iff_toInt_lt, Int32.le_iff_toInt_le, i2l_int, Int32.toInt_zero, iin] at c2
      refine wn_iret rfl rfl rfl ⟨congrArg (fun z => some (Value.int z)) ?_, (RY.rx (RY.rfl' R0.2.2.1) R0.2.2.2)⟩
      unfold leanA
      rw [qI_f (by simp only [iin]; omega)]

theorem case_36 (a : Int32) (i : Int32) : CaseI Rp 124 235 [.int a, .int i] := case_q (fun h ls w hWf V R => ⟨_, x_lean 696 h ls w hWf V R a i, fun h1 HQ => m_lean 696 h1 w hWf HQ a i⟩)
theorem x_heard (d : Nat) (h : aH) (ls : Nat) (w : Nat → Int32) (hWf : WfW w) (V : XV h ls w) (R0 : RX h h ls w) (i : Int32) : Sp (Rn (d + 2)) 96 [.ref (0), .int (i)] h (fun r9 h9 => r9 = some (.int (heardA w i)) ∧ RX h h9 ls w) := by
  obtain ⟨⟨e1, e2⟩, ⟨e3, e4⟩, ⟨e5, e6⟩⟩ := Wf_n hWf
  obtain ⟨⟨e7, e8⟩, ⟨e9, e10⟩⟩ := Wf_m hWf
  obtain ⟨v0, ⟨x9, v1⟩, ⟨v2, ⟨sz, rf, rt, rv, ag, vr, sd, tl, l0, l1, l2, l3, l4, l5, l6, l7, l8, g1, g2, g3, g4, g5⟩, ⟨sec, it, fi, se, sg, lst, rs, rp, pj, pk, pv, k0, k1, k2, k3, k4, k5, k6, k7, k8, k9, k10, k11, k12, k13⟩, ⟨hv, hc, y0, y1, y2, y3, y4⟩, ⟨an, wk, n0, n1, n2, n3, n4⟩⟩, v3⟩ := id V
  rw [e1, e3, e5] at l0
  rw [e7, e9] at k1
  refine Sp_of (by decide) (Nat.le_of_ble_eq_true rfl) ?_
  show Wn _ _ 0 [(0, .ref (0)), (1, .int (i))] [] _ _
  refine wn_ld (pc' := 1) (q := 0) (kin := 2) (v := .ref (0)) rfl (fun _ _ _ => rfl) rfl rfl ?_
  refine wn_ld (pc' := 2) (q := 1) (kin := 0) (v := .int (i)) rfl (fun _ _ _ => rfl) rfl rfl ?_
  refine wn_virI (pc' := 5) rfl rfl (by decide) rfl rfl v1 (Nat.le_of_ble_eq_true rfl) (x_hasItem _ _ ls w hWf V _) ?_
  refine wn_ifneB (t := 11) (f := 8) rfl rfl rfl (fun c1 => ?_) (fun c1 => ?_)
  · have c1 : (iin i (ntW w)) := c1
    obtain ⟨i9, hi9, rfl⟩ := iin_of c1
    have ti_i := nI_toInt (n := i9) (show i9 < 2 ^ 31 by omega)
    have cl_i := nI_clamp (n := i9) (show i9 < 2 ^ 31 by omega)
    refine wn_ld (pc' := 12) (q := 0) (kin := 2) (v := .ref (0)) rfl (fun _ _ _ => rfl) rfl rfl ?_
    refine wn_get (pc' := 15) (v := .ref (23)) rfl rfl v1 rfl ?_
    refine wn_get (pc' := 18) (v := .ref (44)) rfl rfl v2 rfl ?_
    refine wn_get (pc' := 21) (v := .ref (45)) rfl rfl y0 rfl ?_
    refine wn_ld (pc' := 22) (q := 1) (kin := 0) (v := .int (nI (i9))) rfl (fun _ _ _ => rfl) rfl rfl ?_
    refine wn_ialdv (pc' := 23) (j := i9) (v := (w (178 + 4 * i9))) rfl rfl y1 rfl (by omega) (by decide) ((y3 i9 (by omega)).1.trans (if_pos (by omega))) ?_
    refine wn_st (pc' := 24) (q := 2) (kin := 0) (lv' := [(0, .ref (0)), (1, .int (nI (i9))), (2, .int (w (178 + 4 * i9)))]) rfl (fun _ _ _ => rfl) rfl (Nat.le_of_ble_eq_true rfl) rfl ?_
    refine wn_ld (pc' := 25) (q := 2) (kin := 0) (v := .int (w (178 + 4 * i9))) rfl (fun _ _ _ => rfl) rfl rfl ?_
    refine wn_ic (pc' := 26) (w := -1) rfl rfl (by decide) ?_
    refine wn_icmp (t := 31) (f := 29) rfl rfl rfl (fun c2 => ?_) (fun c2 => ?_)
    · have c2 : ¬ ((w (178 + 4 * i9))) = ((-1)) := c2
      refine wn_ld (pc' := 32) (q := 0) (kin := 2) (v := .ref (0)) rfl (fun _ _ _ => rfl) rfl rfl ?_
      refine wn_get (pc' := 35) (v := .ref (23)) rfl rfl v1 rfl ?_
      refine wn_get (pc' := 38) (v := .ref (44)) rfl rfl v2 rfl ?_
      refine wn_get (pc' := 41) (v := .ref (46)) rfl rfl y0 rfl ?_
      refine wn_ld (pc' := 42) (q := 1) (kin := 0) (v := .int (nI (i9))) rfl (fun _ _ _ => rfl) rfl rfl ?_
      refine wn_baldv (pc' := 43) (j := i9) (v := (hc (i9))) rfl rfl (Or.inr rfl) y2 rfl (by omega) (by decide) (rfl) ?_
      refine wn_ifc (t := 53) (f := 46) rfl rfl rfl (fun c3 => ?_) (fun c3 => ?_)
      · have c3 : ((hc (i9))) = 0 := c3
        refine wn_ld (pc' := 54) (q := 2) (kin := 0) (v := .int (w (178 + 4 * i9))) rfl (fun _ _ _ => rfl) rfl rfl ?_
        try simp only [Int32.lt_iff_toInt_lt, Int32.le_iff_toInt_le, i2l_int, Int32.toInt_zero, iin] at c1
        refine wn_iret rfl rfl rfl ⟨congrArg (fun z => some (Value.int z)) ?_, (RY.rx (RY.rfl' R0.2.2.1) R0.2.2.2)⟩
        unfold heardA
        rw [qI_t (by simp only [iin]; omega)]
        simp only [cl_i]
        rw [qI_f c2]
        rw [← y4 i9 (by omega) c2, c3, show nI 100 * 0 = 0 by decide, Int32.add_zero]
      · have c3 : ¬ ((hc (i9))) = 0 := c3
        refine wn_ld (pc' := 47) (q := 2) (kin := 0) (v := .int (w (178 + 4 * i9))) rfl (fun _ _ _ => rfl) rfl rfl ?_
        refine wn_bp (pc' := 49) (w := nI 100) rfl rfl (by decide) ?_
        refine wn_pu (pc' := 50) (st' := [.int ((w (178 + 4 * i9)) + (nI (100)))]) rfl (fun _ _ _ => rfl) rfl rfl ?_
        refine wn_jp (pc' := 54) rfl rfl ?_
        try simp only [Int32.lt_iff_toInt_lt, Int32.le_iff_toInt_le, i2l_int, Int32.toInt_zero, iin] at c1
        refine wn_iret rfl rfl rfl ⟨congrArg (fun z => some (Value.int z)) ?_, (RY.rx (RY.rfl' R0.2.2.1) R0.2.2.2)⟩
        unfold heardA
        rw [qI_t (by simp only [iin]; omega)]
        simp only [cl_i]
        rw [qI_f c2]
        rw [(hc_iff hWf y4 (by omega) c2).mp c3, show nI 100 * nI 1 = nI 100 by decide]
    · have c2 : ((w (178 + 4 * i9))) = ((-1)) := c2
      refine wn_ic (pc' := 30) (w := -1) rfl rfl (by decide) ?_
      try simp only [Int32.lt_iff_toInt_lt, Int32.le_iff_toInt_le, i2l_int, Int32.toInt_zero, iin] at c1
      refine wn_iret rfl rfl rfl ⟨congrArg (fun z => some (Value.int z)) ?_, (RY.rx (RY.rfl' R0.2.2.1) R0.2.2.2)⟩
      unfold heardA
      rw [qI_t (by simp only [iin]; omega)]
      simp only [cl_i]
      exact (qI_t c2).symm
  · have c1 : ¬ (iin i (ntW w)) := c1
    refine wn_bp (pc' := 10) (w := -2) rfl rfl (by decide) ?_
    try simp only [Int32.lt_iff_toInt_lt, Int32.le_iff_toInt_le, i2l_int, Int32.toInt_zero, iin] at c1
    refine wn_iret rfl rfl rfl ⟨congrArg (fun z => some (Value.int z)) ?_, (RY.rx (RY.rfl' R0.2.2.1) R0.2.2.2)⟩
    unfold heardA
    rw [qI_f (by simp only [iin]; omega)]

theorem case_20 (i : Int32) : CaseI Rp 96 208 [.int i] := case_q (fun h ls w hWf V R => ⟨_, x_heard 698 h ls w hWf V R i, fun h1 HQ => m_heard 697 h1 w hWf HQ i⟩)
theorem x_village (d : Nat) (h : aH) (ls : Nat) (w : Nat → Int32) (hWf : WfW w) (V : XV h ls w) (R0 : RX h h ls w) (v t : Int32) : Sp (Rn (d + 2)) 125 [.ref (0), .int (v), .int (t)] h (fun r9 h9 => r9 = some (.int (villageA w v t)) ∧ RX h h9 ls w) := by
  obtain ⟨⟨e1, e2⟩, ⟨e3, e4⟩, ⟨e5, e6⟩⟩ := Wf_n hWf
  obtain ⟨⟨e7, e8⟩, ⟨e9, e10⟩⟩ := Wf_m hWf
  obtain ⟨v0, ⟨x9, v1⟩, ⟨v2, ⟨sz, rf, rt, rv, ag, vr, sd, tl, l0, l1, l2, l3, l4, l5, l6, l7, l8, g1, g2, g3, g4, g5⟩, ⟨sec, it, fi, se, sg, lst, rs, rp, pj, pk, pv, k0, k1, k2, k3, k4, k5, k6, k7, k8, k9, k10, k11, k12, k13⟩, ⟨hv, hc, y0, y1, y2, y3, y4⟩, ⟨an, wk, n0, n1, n2, n3, n4⟩⟩, v3⟩ := id V
  rw [e1, e3, e5] at l0
  rw [e7, e9] at k1
  refine Sp_of (by decide) (Nat.le_of_ble_eq_true rfl) ?_
  show Wn _ _ 0 [(0, .ref (0)), (1, .int (v)), (2, .int (t))] [] _ _
  refine wn_ld (pc' := 1) (q := 0) (kin := 2) (v := .ref (0)) rfl (fun _ _ _ => rfl) rfl rfl ?_
  refine wn_ld (pc' := 2) (q := 1) (kin := 0) (v := .int (v)) rfl (fun _ _ _ => rfl) rfl rfl ?_
  refine wn_virI (pc' := 5) rfl rfl (by decide) rfl rfl v1 (Nat.le_of_ble_eq_true rfl) (x_hasVillage _ _ ls w hWf V _) ?_
  refine wn_ifneB (t := 12) (f := 8) rfl rfl rfl (fun c1 => ?_) (fun c1 => ?_)
  · have c1 : (iin v (nvW w)) := c1
    obtain ⟨v9, hv9, rfl⟩ := iin_of c1
    have ti_v := nI_toInt (n := v9) (show v9 < 2 ^ 31 by omega)
    have cl_v := nI_clamp (n := v9) (show v9 < 2 ^ 31 by omega)
    refine wn_ld (pc' := 13) (q := 2) (kin := 0) (v := .int (t)) rfl (fun _ _ _ => rfl) rfl rfl ?_
    by_cases c2 : (t) = nI 0
    · rw [c2]
      refine wn_sw (off := 27) (pc' := 40) rfl rfl (by decide) rfl ?_
      refine wn_ld (pc' := 41) (q := 0) (kin := 2) (v := .ref (0)) rfl (fun _ _ _ => rfl) rfl rfl ?_
      refine wn_get (pc' := 44) (v := .ref (23)) rfl rfl v1 rfl ?_
      refine wn_get (pc' := 47) (v := .ref (ls)) rfl rfl v2 rfl ?_
      refine wn_get (pc' := 50) (v := .ref (ls + 1)) rfl rfl l0 rfl ?_
      refine wn_ld (pc' := 51) (q := 1) (kin := 0) (v := .int (nI (v9))) rfl (fun _ _ _ => rfl) rfl rfl ?_
      have := wf_szb hWf (show v9 < nvW w by omega)
      refine wn_ialdv (pc' := 52) (j := v9) (v := (nI (szW w v9))) rfl rfl l1 rfl (by omega) (by decide) ((g1 v9 (by omega)).trans (wf_sz hWf (by omega))) ?_
      refine wn_iret rfl rfl rfl ⟨congrArg (fun z => some (Value.int z)) ?_, (RY.rx (RY.rfl' R0.2.2.1) R0.2.2.2)⟩
      unfold villageA
      rw [qI_t ⟨iin_nI (by omega) (by omega), iin_nI (by omega) (by omega)⟩, cl_v]
      rw [if_neg (by decide), nI_clamp (by decide)]
      exact (wf_sz hWf (by omega)).symm
    by_cases c3 : (t) = nI 1
    · rw [c3]
      refine wn_sw (off := 40) (pc' := 53) rfl rfl (by decide) rfl ?_
      refine wn_ld (pc' := 54) (q := 0) (kin := 2) (v := .ref (0)) rfl (fun _ _ _ => rfl) rfl rfl ?_
      refine wn_get (pc' := 57) (v := .ref (23)) rfl rfl v1 rfl ?_
      refine wn_get (pc' := 60) (v := .ref (ls)) rfl rfl v2 rfl ?_
      refine wn_ld (pc' := 61) (q := 1) (kin := 0) (v := .int (nI (v9))) rfl (fun _ _ _ => rfl) rfl rfl ?_
      refine wn_virI (pc' := 64) rfl rfl (by decide) rfl rfl l0 (Nat.le_of_ble_eq_true rfl) (x_countRoadsAt _ _ ls w hWf V v9 (by omega)) ?_
      refine wn_iret rfl rfl rfl ⟨congrArg (fun z => some (Value.int z)) ?_, (RY.rx (RY.rfl' R0.2.2.1) R0.2.2.2)⟩
      unfold villageA
      rw [qI_t ⟨iin_nI (by omega) (by omega), iin_nI (by omega) (by omega)⟩, cl_v]
      exact (if_pos rfl).symm
    by_cases c4 : (t) = nI 2
    · rw [c4]
      refine wn_sw (off := 52) (pc' := 65) rfl rfl (by decide) rfl ?_
      refine wn_ld (pc' := 66) (q := 0) (kin := 2) (v := .ref (0)) rfl (fun _ _ _ => rfl) rfl rfl ?_
      refine wn_get (pc' := 69) (v := .ref (23)) rfl rfl v1 rfl ?_
      refine wn_get (pc' := 72) (v := .ref (47)) rfl rfl v2 rfl ?_
      refine wn_get (pc' := 75) (v := .ref (49)) rfl rfl n0 rfl ?_
      refine wn_ld (pc' := 76) (q := 1) (kin := 0) (v := .int (nI (v9))) rfl (fun _ _ _ => rfl) rfl rfl ?_
      refine wn_ialdv (pc' := 77) (j := v9) (v := (w (9 + 2 * v9))) rfl rfl n2 rfl (by omega) (by decide) ((n4 v9 (by omega)).trans (if_pos (by omega))) ?_
      refine wn_iret rfl rfl rfl ⟨congrArg (fun z => some (Value.int z)) ?_, (RY.rx (RY.rfl' R0.2.2.1) R0.2.2.2)⟩
      unfold villageA
      rw [qI_t ⟨iin_nI (by omega) (by omega), iin_nI (by omega) (by omega)⟩, cl_v]
      rw [if_neg (by decide), nI_clamp (by decide)]
      exact congrArg w (by omega)
    refine wn_sw (off := 65) (pc' := 78) rfl (sw_df 2 (by decide) (fun k hk => by rcases (show k = 0 ∨ k = 1 ∨ k = 2 by omega) with rfl | rfl | rfl <;> first | exact c2 | exact c3 | exact c4) (by rfl)) (by decide) rfl ?_
    refine wn_go (pc' := 81) (lv' := [(0, .ref (0)), (1, .int (nI (v9))), (2, .int (t))]) (st' := [.int (-2000000000)]) rfl (fun _ _ _ k9 => k9) ?_
    refine wn_iret rfl rfl rfl ⟨congrArg (fun z => some (Value.int z)) ?_, (RY.rx (RY.rfl' R0.2.2.1) R0.2.2.2)⟩
    unfold villageA
    rw [qI_f (fun q => by obtain ⟨j9, hj9, e9⟩ := iin_of q.2; rcases (show j9 = 0 ∨ j9 = 1 ∨ j9 = 2 by omega) with rfl | rfl | rfl <;> first | exact c2 e9 | exact c3 e9 | exact c4 e9)]
  · have c1 : ¬ (iin v (nvW w)) := c1
    refine wn_go (pc' := 11) (lv' := [(0, .ref (0)), (1, .int (v)), (2, .int (t))]) (st' := [.int (-2000000000)]) rfl (fun _ _ _ k9 => k9) ?_
    refine wn_iret rfl rfl rfl ⟨congrArg (fun z => some (Value.int z)) ?_, (RY.rx (RY.rfl' R0.2.2.1) R0.2.2.2)⟩
    unfold villageA
    rw [qI_f (fun q => c1 q.1)]

theorem case_37 (v : Int32) (t : Int32) : CaseI Rp 125 236 [.int v, .int t] := case_q (fun h ls w hWf V R => ⟨_, x_village 698 h ls w hWf V R v t, fun h1 HQ => m_village 697 h1 w hWf HQ v t⟩)
theorem m_notedQ (d : Nat) (h : aH) (w : Nat → Int32) (hWf : WfW w) (HQ : MQs h w) (v i a : Int32) : Sp (Rn (d + 4)) 221 [.ref 71, .int v, .int i, .int a] h (fun r9 h9 => r9 = some (.int (ntdA w v i a)) ∧ RQ h h9 w) := ⟨_, _, m_noted d h w HQ.mh hWf v i a, rfl, RQ.rfl' HQ⟩
theorem x_noted (d : Nat) (h : aH) (ls : Nat) (w : Nat → Int32) (hWf : WfW w) (V : XV h ls w) (R0 : RX h h ls w) (v i a : Int32) : Sp (Rn (d + 3)) 110 [.ref (0), .int (v), .int (i), .int (a)] h (fun r9 h9 => r9 = some (.int (ntdA w v i a)) ∧ RX h h9 ls w) := by
  obtain ⟨⟨e1, e2⟩, ⟨e3, e4⟩, ⟨e5, e6⟩⟩ := Wf_n hWf
  obtain ⟨⟨e7, e8⟩, ⟨e9, e10⟩⟩ := Wf_m hWf
  obtain ⟨v0, ⟨x9, v1⟩, ⟨v2, ⟨sz, rf, rt, rv, ag, vr, sd, tl, l0, l1, l2, l3, l4, l5, l6, l7, l8, g1, g2, g3, g4, g5⟩, ⟨sec, it, fi, se, sg, lst, rs, rp, pj, pk, pv, k0, k1, k2, k3, k4, k5, k6, k7, k8, k9, k10, k11, k12, k13⟩, ⟨hv, hc, y0, y1, y2, y3, y4⟩, ⟨an, wk, n0, n1, n2, n3, n4⟩⟩, v3⟩ := id V
  rw [e1, e3, e5] at l0
  rw [e7, e9] at k1
  refine Sp_of (by decide) (Nat.le_of_ble_eq_true rfl) ?_
  show Wn _ _ 0 [(0, .ref (0)), (1, .int (v)), (2, .int (i)), (3, .int (a))] [] _ _
  refine wn_ld (pc' := 1) (q := 0) (kin := 2) (v := .ref (0)) rfl (fun _ _ _ => rfl) rfl rfl ?_
  refine wn_ld (pc' := 2) (q := 1) (kin := 0) (v := .int (v)) rfl (fun _ _ _ => rfl) rfl rfl ?_
  refine wn_virI (pc' := 5) rfl rfl (by decide) rfl rfl v1 (Nat.le_of_ble_eq_true rfl) (x_hasVillage _ _ ls w hWf V _) ?_
  refine wn_ifeqB (t := 17) (f := 8) rfl rfl rfl (fun c1 => ?_) (fun c1 => ?_)
  · have c1 : ¬ (iin v (nvW w)) := c1
    refine wn_ic (pc' := 18) (w := -1) rfl rfl (by decide) ?_
    refine wn_iret rfl rfl rfl ⟨congrArg (fun z => some (Value.int z)) ?_, (RY.rx (RY.rfl' R0.2.2.1) R0.2.2.2)⟩
    exact (if_neg (fun q => c1 q.1)).symm
  · have c1 : (iin v (nvW w)) := c1
    obtain ⟨v9, hv9, rfl⟩ := iin_of c1
    have ti_v := nI_toInt (n := v9) (show v9 < 2 ^ 31 by omega)
    have cl_v := nI_clamp (n := v9) (show v9 < 2 ^ 31 by omega)
    refine wn_ld (pc' := 9) (q := 0) (kin := 2) (v := .ref (0)) rfl (fun _ _ _ => rfl) rfl rfl ?_
    refine wn_ld (pc' := 10) (q := 2) (kin := 0) (v := .int (i)) rfl (fun _ _ _ => rfl) rfl rfl ?_
    refine wn_ld (pc' := 11) (q := 3) (kin := 0) (v := .int (a)) rfl (fun _ _ _ => rfl) rfl rfl ?_
    refine wn_virI (pc' := 14) rfl rfl (by decide) rfl rfl v1 (Nat.le_of_ble_eq_true rfl) (x_hasVariant _ _ ls w hWf V _ _) ?_
    refine wn_ifneB (t := 19) (f := 17) rfl rfl rfl (fun c2 => ?_) (fun c2 => ?_)
    · have c2 : (iin i (ntW w) ∧ iin a (vaW w i.toNatClampNeg)) := c2
      obtain ⟨i9, hi9, rfl⟩ := iin_of c2.1
      have ti_i := nI_toInt (n := i9) (show i9 < 2 ^ 31 by omega)
      have cl_i := nI_clamp (n := i9) (show i9 < 2 ^ 31 by omega)
      have hva_i := wf_vab hWf hi9
      obtain ⟨a9, ha9, rfl⟩ := iin_of (by simpa only [cl_i] using c2.2)
      have ti_a := nI_toInt (n := a9) (show a9 < 2 ^ 31 by omega)
      have cl_a := nI_clamp (n := a9) (show a9 < 2 ^ 31 by omega)
      refine wn_ld (pc' := 20) (q := 0) (kin := 2) (v := .ref (0)) rfl (fun _ _ _ => rfl) rfl rfl ?_
      refine wn_get (pc' := 23) (v := .ref (23)) rfl rfl v1 rfl ?_
      refine wn_get (pc' := 26) (v := .ref (47)) rfl rfl v2 rfl ?_
      refine wn_get (pc' := 29) (v := .ref (48)) rfl rfl n0 rfl ?_
      refine wn_ld (pc' := 30) (q := 1) (kin := 0) (v := .int (nI (v9))) rfl (fun _ _ _ => rfl) rfl rfl ?_
      refine wn_ld (pc' := 31) (q := 2) (kin := 0) (v := .int (nI (i9))) rfl (fun _ _ _ => rfl) rfl rfl ?_
      refine wn_ld (pc' := 32) (q := 3) (kin := 0) (v := .int (nI (a9))) rfl (fun _ _ _ => rfl) rfl rfl ?_
      refine wn_staI (pc' := 35) rfl rfl (by decide) rfl rfl (Nat.le_of_ble_eq_true rfl) (x_place _ _ v9 i9 a9) ?_
      have := wf_nsb hWf (show ((v9 * 10 + i9) * 5 + a9) < 1200 by omega)
      refine wn_ialdv (pc' := 36) (j := (v9 * 10 + i9) * 5 + a9) (v := (nI (nsW w ((v9 * 10 + i9) * 5 + a9)))) rfl rfl n1 rfl (by omega) (by decide) ((n3 ((v9 * 10 + i9) * 5 + a9) (by omega)).trans (wf_ns hWf (by omega))) ?_
      refine wn_iret rfl rfl rfl ⟨congrArg (fun z => some (Value.int z)) ?_, (RY.rx (RY.rfl' R0.2.2.1) R0.2.2.2)⟩
      refine Eq.trans ?_ (if_pos ⟨iin_nI (by omega) (by omega), iin_nI (by omega) (by omega), by rw [cl_i]; exact iin_nI (by omega) (by omega)⟩).symm
      rw [cl_v, cl_i, cl_a, ← wf_ns hWf (by omega)]
      exact congrArg w (by omega)
    · have c2 : ¬ (iin i (ntW w) ∧ iin a (vaW w i.toNatClampNeg)) := c2
      refine wn_ic (pc' := 18) (w := -1) rfl rfl (by decide) ?_
      refine wn_iret rfl rfl rfl ⟨congrArg (fun z => some (Value.int z)) ?_, (RY.rx (RY.rfl' R0.2.2.1) R0.2.2.2)⟩
      exact (if_neg (fun q => c2 q.2)).symm

theorem case_28 (v i a : Int32) : CaseI Rp 110 221 [.int v, .int i, .int a] := case_q (fun h ls w hWf V R => ⟨_, x_noted 697 h ls w hWf V R v i a, fun h1 HQ => m_notedQ 696 h1 w hWf HQ v i a⟩)
