/-! THE CLASS'S questions, first part: the map; their cases -/
theorem RX.s58 {h g g' : aH} {ls : Nat} {w f : Nat → Int32} (R : RX h g ls w) (F : Fr [58] g g') (H : isI g' 58 40 f) : RX h g' ls w := by
  obtain ⟨r1, r2, r3, bu, lb, ft, ta, un, a58, a59, a60, a61, a62⟩ := R
  exact ⟨F.1.trans r1, fun q hq => (F.2 q (by simp only [List.mem_cons, List.not_mem_nil, or_false]; omega)).trans (r2 q hq), r3.kp (fun q h1 h2 => F.2 q (by simp only [List.mem_cons, List.not_mem_nil, or_false]; omega)), _, lb, ft, ta, un, H, a59.kp (F.2 _ (by decide)), a60.kp (F.2 _ (by decide)), a61.kp (F.2 _ (by decide)), a62.kp (F.2 _ (by decide))⟩
theorem RX.s59 {h g g' : aH} {ls : Nat} {w f : Nat → Int32} (R : RX h g ls w) (F : Fr [59] g g') (H : isI g' 59 24 f) : RX h g' ls w := by
  obtain ⟨r1, r2, r3, bu, lb, ft, ta, un, a58, a59, a60, a61, a62⟩ := R
  exact ⟨F.1.trans r1, fun q hq => (F.2 q (by simp only [List.mem_cons, List.not_mem_nil, or_false]; omega)).trans (r2 q hq), r3.kp (fun q h1 h2 => F.2 q (by simp only [List.mem_cons, List.not_mem_nil, or_false]; omega)), bu, _, ft, ta, un, a58.kp (F.2 _ (by decide)), H, a60.kp (F.2 _ (by decide)), a61.kp (F.2 _ (by decide)), a62.kp (F.2 _ (by decide))⟩
theorem RX.s60 {h g g' : aH} {ls : Nat} {w f : Nat → Int32} (R : RX h g ls w) (F : Fr [60] g g') (H : isI g' 60 24 f) : RX h g' ls w := by
  obtain ⟨r1, r2, r3, bu, lb, ft, ta, un, a58, a59, a60, a61, a62⟩ := R
  exact ⟨F.1.trans r1, fun q hq => (F.2 q (by simp only [List.mem_cons, List.not_mem_nil, or_false]; omega)).trans (r2 q hq), r3.kp (fun q h1 h2 => F.2 q (by simp only [List.mem_cons, List.not_mem_nil, or_false]; omega)), bu, lb, _, ta, un, a58.kp (F.2 _ (by decide)), a59.kp (F.2 _ (by decide)), H, a61.kp (F.2 _ (by decide)), a62.kp (F.2 _ (by decide))⟩
theorem RX.s61 {h g g' : aH} {ls : Nat} {w f : Nat → Int32} (R : RX h g ls w) (F : Fr [61] g g') (H : isI g' 61 5 f) : RX h g' ls w := by
  obtain ⟨r1, r2, r3, bu, lb, ft, ta, un, a58, a59, a60, a61, a62⟩ := R
  exact ⟨F.1.trans r1, fun q hq => (F.2 q (by simp only [List.mem_cons, List.not_mem_nil, or_false]; omega)).trans (r2 q hq), r3.kp (fun q h1 h2 => F.2 q (by simp only [List.mem_cons, List.not_mem_nil, or_false]; omega)), bu, lb, ft, _, un, a58.kp (F.2 _ (by decide)), a59.kp (F.2 _ (by decide)), a60.kp (F.2 _ (by decide)), H, a62.kp (F.2 _ (by decide))⟩
theorem RX.s62 {h g g' : aH} {ls : Nat} {w f : Nat → Int32} (R : RX h g ls w) (F : Fr [62] g g') (H : isZ g' 62 1024 f) : RX h g' ls w := by
  obtain ⟨r1, r2, r3, bu, lb, ft, ta, un, a58, a59, a60, a61, a62⟩ := R
  exact ⟨F.1.trans r1, fun q hq => (F.2 q (by simp only [List.mem_cons, List.not_mem_nil, or_false]; omega)).trans (r2 q hq), r3.kp (fun q h1 h2 => F.2 q (by simp only [List.mem_cons, List.not_mem_nil, or_false]; omega)), bu, lb, ft, ta, _, a58.kp (F.2 _ (by decide)), a59.kp (F.2 _ (by decide)), a60.kp (F.2 _ (by decide)), a61.kp (F.2 _ (by decide)), H⟩
theorem amx_n {f : Nat → Nat} {k : Nat} (h : amx f k = none) : amx f (k + 1) = some k := by
  show (match amx f k with | none => _ | some b => _) = _
  rw [h]
theorem amx_t {f : Nat → Nat} {k b : Nat} (h : amx f k = some b) (q : f b < f k) : amx f (k + 1) = some k := by
  show (match amx f k with | none => _ | some b => _) = _
  rw [h]; exact if_pos q
theorem amx_f {f : Nat → Nat} {k b : Nat} (h : amx f k = some b) (q : f k ≤ f b) : amx f (k + 1) = some b := by
  show (match amx f k with | none => _ | some b => _) = _
  rw [h]; exact if_neg (by omega)
theorem amx_lt {f : Nat → Nat} {k b : Nat} (h : amx f k = some b) : b < k := by
  rcases amx_is f k with ⟨_, e⟩ | ⟨b', e, g⟩
  · rw [e] at h; cases h
  · rw [e] at h; cases h; exact g.2.1
theorem x_says (d : Nat) (h : aH) (ls : Nat) (w : Nat → Int32) (hWf : WfW w) (V : XV h ls w) (R0 : RX h h ls w) (v i y : Int32) : Sp (Rn (d + 7)) 70 [.ref (0), .int (v), .int (i), .int (y)] h (fun r9 h9 => r9 = some (.int (saysA w v i y)) ∧ RX h h9 ls w) := by
  obtain ⟨⟨e1, e2⟩, ⟨e3, e4⟩, ⟨e5, e6⟩⟩ := Wf_n hWf
  obtain ⟨⟨e7, e8⟩, ⟨e9, e10⟩⟩ := Wf_m hWf
  obtain ⟨v0, ⟨x9, v1⟩, ⟨v2, ⟨sz, rf, rt, rv, ag, vr, sd, tl, l0, l1, l2, l3, l4, l5, l6, l7, l8, g1, g2, g3, g4, g5⟩, ⟨sec, it, fi, se, sg, lst, rs, rp, pj, pk, pv, k0, k1, k2, k3, k4, k5, k6, k7, k8, k9, k10, k11, k12, k13⟩, ⟨hv, hc, y0, y1, y2, y3, y4⟩, ⟨an, wk, n0, n1, n2, n3, n4⟩⟩, v3⟩ := id V
  rw [e1, e3, e5] at l0
  rw [e7, e9] at k1
  refine Sp_of (by decide) (Nat.le_of_ble_eq_true rfl) ?_
  show Wn _ _ 0 [(0, .ref (0)), (1, .int (v)), (2, .int (i)), (3, .int (y))] [] _ _
  refine wn_ld (pc' := 1) (q := 0) (kin := 2) (v := .ref (0)) rfl (fun _ _ _ => rfl) rfl rfl ?_
  refine wn_ld (pc' := 2) (q := 1) (kin := 0) (v := .int (v)) rfl (fun _ _ _ => rfl) rfl rfl ?_
  refine wn_virI (pc' := 5) rfl rfl (by decide) rfl rfl v1 (Nat.le_of_ble_eq_true rfl) (x_hasVillage _ _ ls w hWf V _) ?_
  refine wn_ifeqB (t := 17) (f := 8) rfl rfl rfl (fun c1 => ?_) (fun c1 => ?_)
  · have c1 : ¬ (iin v (nvW w)) := c1
    refine wn_ic (pc' := 18) (w := -1) rfl rfl (by decide) ?_
    try simp only [Int32.lt_iff_toInt_lt, Int32.le_iff_toInt_le, i2l_int, Int32.toInt_zero, iin] at c1
    refine wn_iret rfl rfl rfl ⟨congrArg (fun z => some (Value.int z)) ?_, (RY.rx (RY.rfl' R0.2.2.1) R0.2.2.2)⟩
    unfold saysA
    rw [qI_f (by simp only [iin]; omega)]
  · have c1 : (iin v (nvW w)) := c1
    obtain ⟨v9, hv9, rfl⟩ := iin_of c1
    have ti_v := nI_toInt (n := v9) (show v9 < 2 ^ 31 by omega)
    have cl_v := nI_clamp (n := v9) (show v9 < 2 ^ 31 by omega)
    refine wn_ld (pc' := 9) (q := 0) (kin := 2) (v := .ref (0)) rfl (fun _ _ _ => rfl) rfl rfl ?_
    refine wn_ld (pc' := 10) (q := 2) (kin := 0) (v := .int (i)) rfl (fun _ _ _ => rfl) rfl rfl ?_
    refine wn_ld (pc' := 11) (q := 3) (kin := 0) (v := .int (y)) rfl (fun _ _ _ => rfl) rfl rfl ?_
    refine wn_virS (pc' := 14) rfl rfl (by decide) rfl rfl v1 (Nat.le_of_ble_eq_true rfl) (x_reachesItem _ _ ls w hWf V R0.2.2.1 i y) (fun r9 h2 e3 => ?_)
    obtain ⟨rfl, R_h2, Rc_h2⟩ := e3
    have RY_h2 := RY.tr (RY.rfl' R0.2.2.1) R_h2
    have V_h2 := RY_h2.xv V
    obtain ⟨v0_h2, ⟨x9_h2, v1_h2⟩, ⟨v2_h2, ⟨sz_h2, rf_h2, rt_h2, rv_h2, ag_h2, vr_h2, sd_h2, tl_h2, l0_h2, l1_h2, l2_h2, l3_h2, l4_h2, l5_h2, l6_h2, l7_h2, l8_h2, g1_h2, g2_h2, g3_h2, g4_h2, g5_h2⟩, ⟨sec_h2, it_h2, fi_h2, se_h2, sg_h2, lst_h2, rs_h2, rp_h2, pj_h2, pk_h2, pv_h2, k0_h2, k1_h2, k2_h2, k3_h2, k4_h2, k5_h2, k6_h2, k7_h2, k8_h2, k9_h2, k10_h2, k11_h2, k12_h2, k13_h2⟩, ⟨hv_h2, hc_h2, y0_h2, y1_h2, y2_h2, y3_h2, y4_h2⟩, ⟨an_h2, wk_h2, n0_h2, n1_h2, n2_h2, n3_h2, n4_h2⟩⟩, v3_h2⟩ := id V_h2
    rw [e1, e3, e5] at l0_h2
    rw [e7, e9] at k1_h2
    show Wn _ _ 14 _ [.int (bI (iin i (ntW w) ∧ iin y 61))] h2 _
    refine wn_ifneB (t := 19) (f := 17) rfl rfl rfl (fun c4 => ?_) (fun c4 => ?_)
    · have c4 : (iin i (ntW w) ∧ iin y 61) := c4
      obtain ⟨i9, hi9, rfl⟩ := iin_of c4.1
      have ti_i := nI_toInt (n := i9) (show i9 < 2 ^ 31 by omega)
      have cl_i := nI_clamp (n := i9) (show i9 < 2 ^ 31 by omega)
      obtain ⟨y9, hy9, rfl⟩ := iin_of c4.2
      have ti_y := nI_toInt (n := y9) (show y9 < 2 ^ 31 by omega)
      have cl_y := nI_clamp (n := y9) (show y9 < 2 ^ 31 by omega)
      have Rd_h2 : Rch h2 w i9 y9 ∧ StR h2 w i9 y9 := by have q := Rc_h2 c4; rw [cl_i, cl_y] at q; exact q
      refine wn_ld (pc' := 20) (q := 0) (kin := 2) (v := .ref (0)) rfl (fun _ _ _ => rfl) rfl rfl ?_
      refine wn_get (pc' := 23) (v := .ref (52)) rfl rfl v1_h2 rfl ?_
      refine wn_ld (pc' := 24) (q := 2) (kin := 0) (v := .int (nI (i9))) rfl (fun _ _ _ => rfl) rfl rfl ?_
      refine wn_ld (pc' := 25) (q := 3) (kin := 0) (v := .int (nI (y9))) rfl (fun _ _ _ => rfl) rfl rfl ?_
      refine wn_ld (pc' := 26) (q := 1) (kin := 0) (v := .int (nI (v9))) rfl (fun _ _ _ => rfl) rfl rfl ?_
      have := sdW_5 hWf (y := y9) (show v9 < nvW w by omega) (show i9 < ntW w by omega)
      refine wn_virI (pc' := 29) rfl rfl (by decide) rfl rfl v3_h2 (Nat.le_of_ble_eq_true rfl) (x_variantAt _ _ ls w hWf V_h2 i9 y9 v9 (by omega) (by omega) (by omega) Rd_h2.1) ?_
      try simp only [Int32.lt_iff_toInt_lt, Int32.le_iff_toInt_le, i2l_int, Int32.toInt_zero, iin] at c1
      try simp only [Int32.lt_iff_toInt_lt, Int32.le_iff_toInt_le, i2l_int, Int32.toInt_zero, iin] at c4
      refine wn_iret rfl rfl rfl ⟨congrArg (fun z => some (Value.int z)) ?_, (RY.rx RY_h2 R0.2.2.2)⟩
      unfold saysA
      rw [qI_t (by simp only [iin]; omega)]
      first | rfl | (simp only [cl_v, cl_i, cl_y]; done) | (simp only [cl_v, cl_i, cl_y]; rfl)
    · have c4 : ¬ (iin i (ntW w) ∧ iin y 61) := c4
      refine wn_ic (pc' := 18) (w := -1) rfl rfl (by decide) ?_
      try simp only [Int32.lt_iff_toInt_lt, Int32.le_iff_toInt_le, i2l_int, Int32.toInt_zero, iin] at c1
      try simp only [Int32.lt_iff_toInt_lt, Int32.le_iff_toInt_le, i2l_int, Int32.toInt_zero, iin] at c4
      refine wn_iret rfl rfl rfl ⟨congrArg (fun z => some (Value.int z)) ?_, (RY.rx RY_h2 R0.2.2.2)⟩
      unfold saysA
      rw [qI_f (by simp only [iin]; omega)]

theorem case_4 (v : Int32) (i : Int32) (y : Int32) : CaseI Rp 70 182 [.int v, .int i, .int y] := case_q (fun h ls w hWf V R => ⟨_, x_says 693 h ls w hWf V R v i y, fun h1 HQ => m_says 691 h1 w hWf HQ v i y⟩)
theorem SpreadR.i56 {h : aH} {ls : Nat} {w : Nat → Int32} (S : SpreadR h ls w) : ∃ ne, isI h 56 120 ne := by
  obtain ⟨re, stl, vr, ne, ms, s0, s1, s2, s3, s4, s5, s6⟩ := S
  exact ⟨ne, s4⟩
theorem SpreadR.i57 {h : aH} {ls : Nat} {w : Nat → Int32} (S : SpreadR h ls w) : ∃ ms, isI h 57 120 ms := by
  obtain ⟨re, stl, vr, ne, ms, s0, s1, s2, s3, s4, s5, s6⟩ := S
  exact ⟨ms, s5⟩
theorem RX.nb {h g g' : aH} {ls i : Nat} {w : Nat → Int32} {S : Nat → Nat → Nat} (R : RX h g ls w) (F : Fr [56, 57] g g') (H : NbY g' w S i) : RX h g' ls w := by
  obtain ⟨r1, r2, ⟨re, stl, vr, ne, ms, s0, s1, s2, s3, s4, s5, s6⟩, bu, lb, ft, ta, un, a58, a59, a60, a61, a62⟩ := R
  obtain ⟨ne', ms', n1, n2, _⟩ := H
  exact ⟨F.1.trans r1, fun q hq => (F.2 q (by simp only [List.mem_cons, List.not_mem_nil, or_false]; omega)).trans (r2 q hq), ⟨re, stl, vr, ne', ms', s0.kp (F.2 _ (by decide)), s1.kp (F.2 _ (by decide)), s2.kp (F.2 _ (by decide)), s3.kp (F.2 _ (by decide)), n1, n2, s6⟩, bu, lb, ft, ta, un, a58.kp (F.2 _ (by decide)), a59.kp (F.2 _ (by decide)), a60.kp (F.2 _ (by decide)), a61.kp (F.2 _ (by decide)), a62.kp (F.2 _ (by decide))⟩
theorem x_turned (d : Nat) (h : aH) (ls : Nat) (w : Nat → Int32) (hWf : WfW w) (V : XV h ls w) (R0 : RX h h ls w) (v i y : Int32) : Sp (Rn (d + 7)) 71 [.ref (0), .int (v), .int (i), .int (y)] h (fun r9 h9 => r9 = some (.int (turnedA w v i y)) ∧ RX h h9 ls w) := by
  obtain ⟨⟨e1, e2⟩, ⟨e3, e4⟩, ⟨e5, e6⟩⟩ := Wf_n hWf
  obtain ⟨⟨e7, e8⟩, ⟨e9, e10⟩⟩ := Wf_m hWf
  obtain ⟨v0, ⟨x9, v1⟩, ⟨v2, ⟨sz, rf, rt, rv, ag, vr, sd, tl, l0, l1, l2, l3, l4, l5, l6, l7, l8, g1, g2, g3, g4, g5⟩, ⟨sec, it, fi, se, sg, lst, rs, rp, pj, pk, pv, k0, k1, k2, k3, k4, k5, k6, k7, k8, k9, k10, k11, k12, k13⟩, ⟨hv, hc, y0, y1, y2, y3, y4⟩, ⟨an, wk, n0, n1, n2, n3, n4⟩⟩, v3⟩ := id V
  rw [e1, e3, e5] at l0
  rw [e7, e9] at k1
  have e60 : (nI 60).toInt = 60 := by decide
  refine Sp_of (by decide) (Nat.le_of_ble_eq_true rfl) ?_
  show Wn _ _ 0 [(0, .ref (0)), (1, .int (v)), (2, .int (i)), (3, .int (y))] [] _ _
  refine wn_ld (pc' := 1) (q := 0) (kin := 2) (v := .ref (0)) rfl (fun _ _ _ => rfl) rfl rfl ?_
  refine wn_ld (pc' := 2) (q := 1) (kin := 0) (v := .int (v)) rfl (fun _ _ _ => rfl) rfl rfl ?_
  refine wn_virI (pc' := 5) rfl rfl (by decide) rfl rfl v1 (Nat.le_of_ble_eq_true rfl) (x_hasVillage _ _ ls w hWf V _) ?_
  refine wn_ifeqB (t := 23) (f := 8) rfl rfl rfl (fun c1 => ?_) (fun c1 => ?_)
  · have c1 : ¬ (iin v (nvW w)) := c1
    refine wn_bp (pc' := 25) (w := -2) rfl rfl (by decide) ?_
    try simp only [Int32.lt_iff_toInt_lt, Int32.le_iff_toInt_le, i2l_int, Int32.toInt_zero, iin] at c1
    refine wn_iret rfl rfl rfl ⟨congrArg (fun z => some (Value.int z)) ?_, (RY.rx (RY.rfl' R0.2.2.1) R0.2.2.2)⟩
    unfold turnedA
    rw [qI_f (by simp only [iin]; omega)]
  · have c1 : (iin v (nvW w)) := c1
    obtain ⟨v9, hv9, rfl⟩ := iin_of c1
    have ti_v := nI_toInt (n := v9) (show v9 < 2 ^ 31 by omega)
    have cl_v := nI_clamp (n := v9) (show v9 < 2 ^ 31 by omega)
    refine wn_ld (pc' := 9) (q := 3) (kin := 0) (v := .int (y)) rfl (fun _ _ _ => rfl) rfl rfl ?_
    refine wn_bp (pc' := 11) (w := nI 60) rfl rfl (by decide) ?_
    refine wn_icmp (t := 23) (f := 14) rfl rfl rfl (fun c2 => ?_) (fun c2 => ?_)
    · have c2 : ((y)) = ((nI (60))) := c2
      refine wn_bp (pc' := 25) (w := -2) rfl rfl (by decide) ?_
      have en60 : (nI 60).toInt = 60 := by decide
      try simp only [Int32.lt_iff_toInt_lt, Int32.le_iff_toInt_le, i2l_int, Int32.toInt_zero, iin] at c1
      try have c2i := congrArg Int32.toInt c2
      try simp only [Int32.lt_iff_toInt_lt, Int32.le_iff_toInt_le, i2l_int, Int32.toInt_zero, iin] at c2
      refine wn_iret rfl rfl rfl ⟨congrArg (fun z => some (Value.int z)) ?_, (RY.rx (RY.rfl' R0.2.2.1) R0.2.2.2)⟩
      unfold turnedA
      rw [qI_f (by simp only [iin]; omega)]
    · have c2 : ¬ ((y)) = ((nI (60))) := c2
      refine wn_ld (pc' := 15) (q := 0) (kin := 2) (v := .ref (0)) rfl (fun _ _ _ => rfl) rfl rfl ?_
      refine wn_ld (pc' := 16) (q := 2) (kin := 0) (v := .int (i)) rfl (fun _ _ _ => rfl) rfl rfl ?_
      refine wn_ld (pc' := 17) (q := 3) (kin := 0) (v := .int (y)) rfl (fun _ _ _ => rfl) rfl rfl ?_
      refine wn_virS (pc' := 20) rfl rfl (by decide) rfl rfl v1 (Nat.le_of_ble_eq_true rfl) (x_reachesItem _ _ ls w hWf V R0.2.2.1 i y) (fun r9 h3 e4 => ?_)
      obtain ⟨rfl, R_h3, Rc_h3⟩ := e4
      have RY_h3 := RY.tr (RY.rfl' R0.2.2.1) R_h3
      have V_h3 := RY_h3.xv V
      obtain ⟨v0_h3, ⟨x9_h3, v1_h3⟩, ⟨v2_h3, ⟨sz_h3, rf_h3, rt_h3, rv_h3, ag_h3, vr_h3, sd_h3, tl_h3, l0_h3, l1_h3, l2_h3, l3_h3, l4_h3, l5_h3, l6_h3, l7_h3, l8_h3, g1_h3, g2_h3, g3_h3, g4_h3, g5_h3⟩, ⟨sec_h3, it_h3, fi_h3, se_h3, sg_h3, lst_h3, rs_h3, rp_h3, pj_h3, pk_h3, pv_h3, k0_h3, k1_h3, k2_h3, k3_h3, k4_h3, k5_h3, k6_h3, k7_h3, k8_h3, k9_h3, k10_h3, k11_h3, k12_h3, k13_h3⟩, ⟨hv_h3, hc_h3, y0_h3, y1_h3, y2_h3, y3_h3, y4_h3⟩, ⟨an_h3, wk_h3, n0_h3, n1_h3, n2_h3, n3_h3, n4_h3⟩⟩, v3_h3⟩ := id V_h3
      rw [e1, e3, e5] at l0_h3
      rw [e7, e9] at k1_h3
      show Wn _ _ 20 _ [.int (bI (iin i (ntW w) ∧ iin y 61))] h3 _
      refine wn_ifneB (t := 26) (f := 23) rfl rfl rfl (fun c5 => ?_) (fun c5 => ?_)
      · have c5 : (iin i (ntW w) ∧ iin y 61) := c5
        obtain ⟨i9, hi9, rfl⟩ := iin_of c5.1
        have ti_i := nI_toInt (n := i9) (show i9 < 2 ^ 31 by omega)
        have cl_i := nI_clamp (n := i9) (show i9 < 2 ^ 31 by omega)
        obtain ⟨y9, hy9, rfl⟩ := iin_of c5.2
        have ti_y := nI_toInt (n := y9) (show y9 < 2 ^ 31 by omega)
        have cl_y := nI_clamp (n := y9) (show y9 < 2 ^ 31 by omega)
        have Rd_h3 : Rch h3 w i9 y9 ∧ StR h3 w i9 y9 := by have q := Rc_h3 c5; rw [cl_i, cl_y] at q; exact q
        refine wn_ld (pc' := 27) (q := 0) (kin := 2) (v := .ref (0)) rfl (fun _ _ _ => rfl) rfl rfl ?_
        refine wn_get (pc' := 30) (v := .ref (52)) rfl rfl v1_h3 rfl ?_
        refine wn_ld (pc' := 31) (q := 2) (kin := 0) (v := .int (nI (i9))) rfl (fun _ _ _ => rfl) rfl rfl ?_
        refine wn_ld (pc' := 32) (q := 3) (kin := 0) (v := .int (nI (y9))) rfl (fun _ _ _ => rfl) rfl rfl ?_
        refine wn_virS (pc' := 35) rfl rfl (by decide) rfl rfl v3_h3 (Nat.le_of_ble_eq_true rfl) (x_countNeighbours _ _ ls w hWf V_h3 _ _ (SpreadR.i56 RY_h3.2.1).choose_spec (SpreadR.i57 RY_h3.2.1).choose_spec i9 y9 (by omega) (by omega) Rd_h3.1) (fun r9 h6 e7 => ?_)
        obtain ⟨rfl, f_h6, NB_h6⟩ := e7
        have V_h6 := XV.frl V_h3 f_h6 (by decide)
        have RX_h6 := RX.nb (RY.rx RY_h3 R0.2.2.2) f_h6 NB_h6
        obtain ⟨v0_h6, ⟨x9_h6, v1_h6⟩, ⟨v2_h6, ⟨sz_h6, rf_h6, rt_h6, rv_h6, ag_h6, vr_h6, sd_h6, tl_h6, l0_h6, l1_h6, l2_h6, l3_h6, l4_h6, l5_h6, l6_h6, l7_h6, l8_h6, g1_h6, g2_h6, g3_h6, g4_h6, g5_h6⟩, ⟨sec_h6, it_h6, fi_h6, se_h6, sg_h6, lst_h6, rs_h6, rp_h6, pj_h6, pk_h6, pv_h6, k0_h6, k1_h6, k2_h6, k3_h6, k4_h6, k5_h6, k6_h6, k7_h6, k8_h6, k9_h6, k10_h6, k11_h6, k12_h6, k13_h6⟩, ⟨hv_h6, hc_h6, y0_h6, y1_h6, y2_h6, y3_h6, y4_h6⟩, ⟨an_h6, wk_h6, n0_h6, n1_h6, n2_h6, n3_h6, n4_h6⟩⟩, v3_h6⟩ := id V_h6
        rw [e1, e3, e5] at l0_h6
        rw [e7, e9] at k1_h6
        show Wn _ _ 35 _ [] h6 _
        refine wn_ld (pc' := 36) (q := 0) (kin := 2) (v := .ref (0)) rfl (fun _ _ _ => rfl) rfl rfl ?_
        refine wn_get (pc' := 39) (v := .ref (52)) rfl rfl v1_h6 rfl ?_
        refine wn_ld (pc' := 40) (q := 2) (kin := 0) (v := .int (nI (i9))) rfl (fun _ _ _ => rfl) rfl rfl ?_
        refine wn_ld (pc' := 41) (q := 3) (kin := 0) (v := .int (nI (y9))) rfl (fun _ _ _ => rfl) rfl rfl ?_
        refine wn_ld (pc' := 42) (q := 1) (kin := 0) (v := .int (nI (v9))) rfl (fun _ _ _ => rfl) rfl rfl ?_
        refine wn_virI (pc' := 45) rfl rfl (by decide) rfl rfl v3_h6 (Nat.le_of_ble_eq_true rfl) (x_turningLaw _ _ ls w hWf V_h6 i9 y9 (by omega) (by omega) (Rch.fr Rd_h3.1 f_h6 (by decide)) NB_h6 v9 (by omega)) ?_
        have en60 : (nI 60).toInt = 60 := by decide
        try simp only [Int32.lt_iff_toInt_lt, Int32.le_iff_toInt_le, i2l_int, Int32.toInt_zero, iin] at c1
        try have c2i : ¬ _ := fun q => c2 (Int32.toInt_inj.mp q)
        try simp only [Int32.lt_iff_toInt_lt, Int32.le_iff_toInt_le, i2l_int, Int32.toInt_zero, iin] at c2
        try simp only [Int32.lt_iff_toInt_lt, Int32.le_iff_toInt_le, i2l_int, Int32.toInt_zero, iin] at c5
        refine wn_iret rfl rfl rfl ⟨congrArg (fun z => some (Value.int z)) ?_, RX_h6⟩
        unfold turnedA
        rw [qI_t (by simp only [iin]; omega)]
        first | rfl | (simp only [cl_v, cl_i, cl_y]; done) | (simp only [cl_v, cl_i, cl_y]; rfl)
      · have c5 : ¬ (iin i (ntW w) ∧ iin y 61) := c5
        refine wn_bp (pc' := 25) (w := -2) rfl rfl (by decide) ?_
        have en60 : (nI 60).toInt = 60 := by decide
        try simp only [Int32.lt_iff_toInt_lt, Int32.le_iff_toInt_le, i2l_int, Int32.toInt_zero, iin] at c1
        try have c2i : ¬ _ := fun q => c2 (Int32.toInt_inj.mp q)
        try simp only [Int32.lt_iff_toInt_lt, Int32.le_iff_toInt_le, i2l_int, Int32.toInt_zero, iin] at c2
        try simp only [Int32.lt_iff_toInt_lt, Int32.le_iff_toInt_le, i2l_int, Int32.toInt_zero, iin] at c5
        refine wn_iret rfl rfl rfl ⟨congrArg (fun z => some (Value.int z)) ?_, (RY.rx RY_h3 R0.2.2.2)⟩
        unfold turnedA
        rw [qI_f (by simp only [iin]; omega)]

theorem case_5 (v : Int32) (i : Int32) (y : Int32) : CaseI Rp 71 183 [.int v, .int i, .int y] := case_q (fun h ls w hWf V R => ⟨_, x_turned 693 h ls w hWf V R v i y, fun h1 HQ => m_turned 692 h1 w hWf HQ v i y⟩)
theorem x_lines (d : Nat) (h : aH) (ls : Nat) (w : Nat → Int32) (hWf : WfW w) (V : XV h ls w) (R0 : RX h h ls w) (i y : Int32) : Sp (Rn (d + 7)) 72 [.ref (0), .int (i), .int (y)] h (fun r9 h9 => r9 = some (.int (linesA w i y)) ∧ RX h h9 ls w) := by
  obtain ⟨⟨e1, e2⟩, ⟨e3, e4⟩, ⟨e5, e6⟩⟩ := Wf_n hWf
  obtain ⟨⟨e7, e8⟩, ⟨e9, e10⟩⟩ := Wf_m hWf
  obtain ⟨v0, ⟨x9, v1⟩, ⟨v2, ⟨sz, rf, rt, rv, ag, vr, sd, tl, l0, l1, l2, l3, l4, l5, l6, l7, l8, g1, g2, g3, g4, g5⟩, ⟨sec, it, fi, se, sg, lst, rs, rp, pj, pk, pv, k0, k1, k2, k3, k4, k5, k6, k7, k8, k9, k10, k11, k12, k13⟩, ⟨hv, hc, y0, y1, y2, y3, y4⟩, ⟨an, wk, n0, n1, n2, n3, n4⟩⟩, v3⟩ := id V
  rw [e1, e3, e5] at l0
  rw [e7, e9] at k1
  refine Sp_of (by decide) (Nat.le_of_ble_eq_true rfl) ?_
  show Wn _ _ 0 [(0, .ref (0)), (1, .int (i)), (2, .int (y))] [] _ _
  refine wn_ld (pc' := 1) (q := 0) (kin := 2) (v := .ref (0)) rfl (fun _ _ _ => rfl) rfl rfl ?_
  refine wn_ld (pc' := 2) (q := 1) (kin := 0) (v := .int (i)) rfl (fun _ _ _ => rfl) rfl rfl ?_
  refine wn_ld (pc' := 3) (q := 2) (kin := 0) (v := .int (y)) rfl (fun _ _ _ => rfl) rfl rfl ?_
  refine wn_virS (pc' := 6) rfl rfl (by decide) rfl rfl v1 (Nat.le_of_ble_eq_true rfl) (x_reachesItem _ _ ls w hWf V R0.2.2.1 i y) (fun r9 h1 e2 => ?_)
  obtain ⟨rfl, R_h1, Rc_h1⟩ := e2
  have RY_h1 := RY.tr (RY.rfl' R0.2.2.1) R_h1
  have V_h1 := RY_h1.xv V
  obtain ⟨v0_h1, ⟨x9_h1, v1_h1⟩, ⟨v2_h1, ⟨sz_h1, rf_h1, rt_h1, rv_h1, ag_h1, vr_h1, sd_h1, tl_h1, l0_h1, l1_h1, l2_h1, l3_h1, l4_h1, l5_h1, l6_h1, l7_h1, l8_h1, g1_h1, g2_h1, g3_h1, g4_h1, g5_h1⟩, ⟨sec_h1, it_h1, fi_h1, se_h1, sg_h1, lst_h1, rs_h1, rp_h1, pj_h1, pk_h1, pv_h1, k0_h1, k1_h1, k2_h1, k3_h1, k4_h1, k5_h1, k6_h1, k7_h1, k8_h1, k9_h1, k10_h1, k11_h1, k12_h1, k13_h1⟩, ⟨hv_h1, hc_h1, y0_h1, y1_h1, y2_h1, y3_h1, y4_h1⟩, ⟨an_h1, wk_h1, n0_h1, n1_h1, n2_h1, n3_h1, n4_h1⟩⟩, v3_h1⟩ := id V_h1
  rw [e1, e3, e5] at l0_h1
  rw [e7, e9] at k1_h1
  show Wn _ _ 6 _ [.int (bI (iin i (ntW w) ∧ iin y 61))] h1 _
  refine wn_ifneB (t := 12) (f := 9) rfl rfl rfl (fun c3 => ?_) (fun c3 => ?_)
  · have c3 : (iin i (ntW w) ∧ iin y 61) := c3
    obtain ⟨i9, hi9, rfl⟩ := iin_of c3.1
    have ti_i := nI_toInt (n := i9) (show i9 < 2 ^ 31 by omega)
    have cl_i := nI_clamp (n := i9) (show i9 < 2 ^ 31 by omega)
    obtain ⟨y9, hy9, rfl⟩ := iin_of c3.2
    have ti_y := nI_toInt (n := y9) (show y9 < 2 ^ 31 by omega)
    have cl_y := nI_clamp (n := y9) (show y9 < 2 ^ 31 by omega)
    have Rd_h1 : Rch h1 w i9 y9 ∧ StR h1 w i9 y9 := by have q := Rc_h1 c3; rw [cl_i, cl_y] at q; exact q
    refine wn_ld (pc' := 13) (q := 0) (kin := 2) (v := .ref (0)) rfl (fun _ _ _ => rfl) rfl rfl ?_
    refine wn_ld (pc' := 14) (q := 1) (kin := 0) (v := .int (nI (i9))) rfl (fun _ _ _ => rfl) rfl rfl ?_
    refine wn_ld (pc' := 15) (q := 2) (kin := 0) (v := .int (nI (y9))) rfl (fun _ _ _ => rfl) rfl rfl ?_
    refine wn_ic (pc' := 16) (w := nI 0) rfl rfl (by decide) ?_
    have := cntP_le (fun k => lnW w k i9 y9) (nrW w)
    refine wn_virI (pc' := 19) rfl rfl (by decide) rfl rfl v1_h1 (Nat.le_of_ble_eq_true rfl) (x_countLines0 _ _ ls w hWf V_h1 i9 y9 (by omega) (by omega) Rd_h1.1) ?_
    try simp only [Int32.lt_iff_toInt_lt, Int32.le_iff_toInt_le, i2l_int, Int32.toInt_zero, iin] at c3
    refine wn_iret rfl rfl rfl ⟨congrArg (fun z => some (Value.int z)) ?_, (RY.rx RY_h1 R0.2.2.2)⟩
    unfold linesA
    rw [qI_t (by simp only [iin]; omega)]
    first | rfl | (simp only [cl_i, cl_y]; done) | (simp only [cl_i, cl_y]; rfl)
  · have c3 : ¬ (iin i (ntW w) ∧ iin y 61) := c3
    refine wn_bp (pc' := 11) (w := -2) rfl rfl (by decide) ?_
    try simp only [Int32.lt_iff_toInt_lt, Int32.le_iff_toInt_le, i2l_int, Int32.toInt_zero, iin] at c3
    refine wn_iret rfl rfl rfl ⟨congrArg (fun z => some (Value.int z)) ?_, (RY.rx RY_h1 R0.2.2.2)⟩
    unfold linesA
    rw [qI_f (by simp only [iin]; omega)]

theorem case_6 (i : Int32) (y : Int32) : CaseI Rp 72 186 [.int i, .int y] := case_q (fun h ls w hWf V R => ⟨_, x_lines 693 h ls w hWf V R i y, fun h1 HQ => m_lines 689 h1 w hWf HQ i y⟩)
theorem x_bundle (d : Nat) (h : aH) (ls : Nat) (w : Nat → Int32) (hWf : WfW w) (V : XV h ls w) (R0 : RX h h ls w) (r y : Int32) : Sp (Rn (d + 7)) 75 [.ref (0), .int (r), .int (y)] h (fun r9 h9 => r9 = some (.int (bundleA w r y)) ∧ RX h h9 ls w) := by
  obtain ⟨⟨e1, e2⟩, ⟨e3, e4⟩, ⟨e5, e6⟩⟩ := Wf_n hWf
  obtain ⟨⟨e7, e8⟩, ⟨e9, e10⟩⟩ := Wf_m hWf
  obtain ⟨v0, ⟨x9, v1⟩, ⟨v2, ⟨sz, rf, rt, rv, ag, vr, sd, tl, l0, l1, l2, l3, l4, l5, l6, l7, l8, g1, g2, g3, g4, g5⟩, ⟨sec, it, fi, se, sg, lst, rs, rp, pj, pk, pv, k0, k1, k2, k3, k4, k5, k6, k7, k8, k9, k10, k11, k12, k13⟩, ⟨hv, hc, y0, y1, y2, y3, y4⟩, ⟨an, wk, n0, n1, n2, n3, n4⟩⟩, v3⟩ := id V
  rw [e1, e3, e5] at l0
  rw [e7, e9] at k1
  refine Sp_of (by decide) (Nat.le_of_ble_eq_true rfl) ?_
  show Wn _ _ 0 [(0, .ref (0)), (1, .int (r)), (2, .int (y))] [] _ _
  refine wn_ld (pc' := 1) (q := 1) (kin := 0) (v := .int (r)) rfl (fun _ _ _ => rfl) rfl rfl ?_
  refine wn_ifc (t := 26) (f := 4) rfl rfl rfl (fun c1 => ?_) (fun c1 => ?_)
  · have c1 : ((r)) < 0 := c1
    refine wn_bp (pc' := 28) (w := -2) rfl rfl (by decide) ?_
    try simp only [Int32.lt_iff_toInt_lt, Int32.le_iff_toInt_le, i2l_int, Int32.toInt_zero, iin] at c1
    refine wn_iret rfl rfl rfl ⟨congrArg (fun z => some (Value.int z)) ?_, (RY.rx (RY.rfl' R0.2.2.1) R0.2.2.2)⟩
    unfold bundleA
    rw [qI_f (by simp only [iin]; omega)]
  · have c1 : 0 ≤ ((r)) := c1
    refine wn_ld (pc' := 5) (q := 1) (kin := 0) (v := .int (r)) rfl (fun _ _ _ => rfl) rfl rfl ?_
    refine wn_ld (pc' := 6) (q := 0) (kin := 2) (v := .ref (0)) rfl (fun _ _ _ => rfl) rfl rfl ?_
    refine wn_get (pc' := 9) (v := .ref (23)) rfl rfl v1 rfl ?_
    refine wn_get (pc' := 12) (v := .ref (ls)) rfl rfl v2 rfl ?_
    refine wn_get (pc' := 15) (v := .int (nI (nrW w))) rfl rfl l0 rfl ?_
    refine wn_icmp (t := 26) (f := 18) rfl rfl rfl (fun c2 => ?_) (fun c2 => ?_)
    · have c2 : ((nI (nrW w))) ≤ ((r)) := c2
      refine wn_bp (pc' := 28) (w := -2) rfl rfl (by decide) ?_
      have ennrW : (nI (nrW w)).toInt = ((nrW w : Nat) : Int) := nI_toInt (by omega)
      try simp only [Int32.lt_iff_toInt_lt, Int32.le_iff_toInt_le, i2l_int, Int32.toInt_zero, iin] at c1
      try simp only [Int32.lt_iff_toInt_lt, Int32.le_iff_toInt_le, i2l_int, Int32.toInt_zero, iin] at c2
      refine wn_iret rfl rfl rfl ⟨congrArg (fun z => some (Value.int z)) ?_, (RY.rx (RY.rfl' R0.2.2.1) R0.2.2.2)⟩
      unfold bundleA
      rw [qI_f (by simp only [iin]; omega)]
    · have c2 : ((r)) < ((nI (nrW w))) := c2
      have k9i := iin_p (n := nrW w) c1 c2 (by omega)
      obtain ⟨r9, hr9, rfl⟩ := iin_of k9i
      have ti_r := nI_toInt (n := r9) (show r9 < 2 ^ 31 by omega)
      have cl_r := nI_clamp (n := r9) (show r9 < 2 ^ 31 by omega)
      refine wn_ld (pc' := 19) (q := 0) (kin := 2) (v := .ref (0)) rfl (fun _ _ _ => rfl) rfl rfl ?_
      refine wn_ld (pc' := 20) (q := 2) (kin := 0) (v := .int (y)) rfl (fun _ _ _ => rfl) rfl rfl ?_
      refine wn_virS (pc' := 23) rfl rfl (by decide) rfl rfl v1 (Nat.le_of_ble_eq_true rfl) (x_reachesYear _ _ ls w hWf V R0.2.2.1 y) (fun r9 h3 e4 => ?_)
      obtain ⟨rfl, R_h3, Ra_h3⟩ := e4
      have RY_h3 := RY.tr (RY.rfl' R0.2.2.1) R_h3
      have V_h3 := RY_h3.xv V
      obtain ⟨v0_h3, ⟨x9_h3, v1_h3⟩, ⟨v2_h3, ⟨sz_h3, rf_h3, rt_h3, rv_h3, ag_h3, vr_h3, sd_h3, tl_h3, l0_h3, l1_h3, l2_h3, l3_h3, l4_h3, l5_h3, l6_h3, l7_h3, l8_h3, g1_h3, g2_h3, g3_h3, g4_h3, g5_h3⟩, ⟨sec_h3, it_h3, fi_h3, se_h3, sg_h3, lst_h3, rs_h3, rp_h3, pj_h3, pk_h3, pv_h3, k0_h3, k1_h3, k2_h3, k3_h3, k4_h3, k5_h3, k6_h3, k7_h3, k8_h3, k9_h3, k10_h3, k11_h3, k12_h3, k13_h3⟩, ⟨hv_h3, hc_h3, y0_h3, y1_h3, y2_h3, y3_h3, y4_h3⟩, ⟨an_h3, wk_h3, n0_h3, n1_h3, n2_h3, n3_h3, n4_h3⟩⟩, v3_h3⟩ := id V_h3
      rw [e1, e3, e5] at l0_h3
      rw [e7, e9] at k1_h3
      show Wn _ _ 23 _ [.int (bI (iin y 61))] h3 _
      refine wn_ifneB (t := 29) (f := 26) rfl rfl rfl (fun c5 => ?_) (fun c5 => ?_)
      · have c5 : (iin y 61) := c5
        obtain ⟨y9, hy9, rfl⟩ := iin_of c5
        have ti_y := nI_toInt (n := y9) (show y9 < 2 ^ 31 by omega)
        have cl_y := nI_clamp (n := y9) (show y9 < 2 ^ 31 by omega)
        have Rd_h3 : ∀ i, i < ntW w → Rch h3 w i y9 := by have q := Ra_h3 c5; rw [cl_y] at q; exact q
        refine wn_ld (pc' := 30) (q := 0) (kin := 2) (v := .ref (0)) rfl (fun _ _ _ => rfl) rfl rfl ?_
        refine wn_ld (pc' := 31) (q := 1) (kin := 0) (v := .int (nI (r9))) rfl (fun _ _ _ => rfl) rfl rfl ?_
        refine wn_ld (pc' := 32) (q := 2) (kin := 0) (v := .int (nI (y9))) rfl (fun _ _ _ => rfl) rfl rfl ?_
        have := bnW_le hWf y9 r9
        refine wn_virI (pc' := 35) rfl rfl (by decide) rfl rfl v1_h3 (Nat.le_of_ble_eq_true rfl) (x_bundleOf _ _ ls w hWf V_h3 y9 (by omega) Rd_h3 r9 (by omega)) ?_
        have ennrW : (nI (nrW w)).toInt = ((nrW w : Nat) : Int) := nI_toInt (by omega)
        try simp only [Int32.lt_iff_toInt_lt, Int32.le_iff_toInt_le, i2l_int, Int32.toInt_zero, iin] at c1
        try simp only [Int32.lt_iff_toInt_lt, Int32.le_iff_toInt_le, i2l_int, Int32.toInt_zero, iin] at c2
        try simp only [Int32.lt_iff_toInt_lt, Int32.le_iff_toInt_le, i2l_int, Int32.toInt_zero, iin] at c5
        refine wn_iret rfl rfl rfl ⟨congrArg (fun z => some (Value.int z)) ?_, (RY.rx RY_h3 R0.2.2.2)⟩
        unfold bundleA
        rw [qI_t (by simp only [iin]; omega)]
        first | rfl | (simp only [cl_r, cl_y]; done) | (simp only [cl_r, cl_y]; rfl)
      · have c5 : ¬ (iin y 61) := c5
        refine wn_bp (pc' := 28) (w := -2) rfl rfl (by decide) ?_
        have ennrW : (nI (nrW w)).toInt = ((nrW w : Nat) : Int) := nI_toInt (by omega)
        try simp only [Int32.lt_iff_toInt_lt, Int32.le_iff_toInt_le, i2l_int, Int32.toInt_zero, iin] at c1
        try simp only [Int32.lt_iff_toInt_lt, Int32.le_iff_toInt_le, i2l_int, Int32.toInt_zero, iin] at c2
        try simp only [Int32.lt_iff_toInt_lt, Int32.le_iff_toInt_le, i2l_int, Int32.toInt_zero, iin] at c5
        refine wn_iret rfl rfl rfl ⟨congrArg (fun z => some (Value.int z)) ?_, (RY.rx RY_h3 R0.2.2.2)⟩
        unfold bundleA
        rw [qI_f (by simp only [iin]; omega)]

theorem case_7 (r : Int32) (y : Int32) : CaseI Rp 75 188 [.int r, .int y] := case_q (fun h ls w hWf V R => ⟨_, x_bundle 693 h ls w hWf V R r y, fun h1 HQ => m_bundle 689 h1 w hWf HQ r y⟩)
theorem x_fillBundles (d : Nat) (h : aH) (ls : Nat) (w : Nat → Int32) (hWf : WfW w) (V : XV h ls w) (bu : Nat → Int32) (b0 : isI h 58 40 bu) (y : Nat) (hy : y ≤ 60) (Ra : ∀ i, i < ntW w → Rch h w i y) : Sp (Rn (d + 5)) 77 [.ref (0), .int (nI (y))] h (fun r9 h9 => r9 = none ∧ Fr [58] h h9 ∧ ∃ b1, isI h9 58 40 b1 ∧ ∀ r, r < nrW w → b1 r = nI (bnW w y r)) := by
  obtain ⟨⟨e1, e2⟩, ⟨e3, e4⟩, ⟨e5, e6⟩⟩ := Wf_n hWf
  obtain ⟨⟨e7, e8⟩, ⟨e9, e10⟩⟩ := Wf_m hWf
  obtain ⟨v0, ⟨x9, v1⟩, ⟨v2, ⟨sz, rf, rt, rv, ag, vr, sd, tl, l0, l1, l2, l3, l4, l5, l6, l7, l8, g1, g2, g3, g4, g5⟩, ⟨sec, it, fi, se, sg, lst, rs, rp, pj, pk, pv, k0, k1, k2, k3, k4, k5, k6, k7, k8, k9, k10, k11, k12, k13⟩, ⟨hv, hc, y0, y1, y2, y3, y4⟩, ⟨an, wk, n0, n1, n2, n3, n4⟩⟩, v3⟩ := id V
  rw [e1, e3, e5] at l0
  rw [e7, e9] at k1
  refine Sp_of (by decide) (Nat.le_of_ble_eq_true rfl) ?_
  show Wn _ _ 0 [(0, .ref (0)), (1, .int (nI (y)))] [] _ _
  refine wn_ic (pc' := 1) (w := nI 0) rfl rfl (by decide) ?_
  refine wn_st (pc' := 2) (q := 2) (kin := 0) (lv' := [(0, .ref (0)), (1, .int (nI (y))), (2, .int (nI (0)))]) rfl (fun _ _ _ => rfl) rfl (Nat.le_of_ble_eq_true rfl) rfl ?_
  have lp2 : ∀ (n_lp2 : Nat) (g1 : aH) (b1 : Nat → Int32) (r : Nat), (nrW w) + 1 ≤ r + n_lp2 → Fr [58] h g1 → isI g1 58 40 b1 → r ≤ nrW w → (∀ q, q < r → b1 q = nI (bnW w y q)) → Wn (Rn (d + 4)) 77 2 [(0, .ref (0)), (1, .int (nI (y))), (2, .int (nI (r)))] [] (g1) (fun r9 h9 => r9 = none ∧ Fr [58] h h9 ∧ ∃ b1, isI h9 58 40 b1 ∧ ∀ r, r < nrW w → b1 r = nI (bnW w y r)) := by
    intro n_lp2
    induction n_lp2 with
    | zero => intro g1 b1 r hm_lp2 hf_g1 c_58_g1 hr hB; exfalso; omega
    | succ n_lp2 ih_lp2 =>
      intro g1 b1 r hm_lp2 hf_g1 c_58_g1 hr hB
      have V_g1 : XV g1 ls w := XV.frl V hf_g1 (by decide)
      have Ra_g1 : ∀ i, i < ntW w → Rch g1 w i y := fun i q => Rch.fr (Ra i q) hf_g1 (by decide)
      refine wn_ld (pc' := 3) (q := 2) (kin := 0) (v := .int (nI (r))) rfl (fun _ _ _ => rfl) rfl rfl ?_
      refine wn_ld (pc' := 4) (q := 0) (kin := 2) (v := .ref (0)) rfl (fun _ _ _ => rfl) rfl rfl ?_
      refine wn_get (pc' := 7) (v := .ref (23)) rfl rfl ((hf_g1.2 0 (by decide)).trans v1) rfl ?_
      refine wn_get (pc' := 10) (v := .ref (ls)) rfl rfl ((hf_g1.2 23 (by decide)).trans v2) rfl ?_
      refine wn_get (pc' := 13) (v := .int (nI (nrW w))) rfl rfl ((hf_g1.2 ls (by simp only [List.mem_cons, List.not_mem_nil, or_false]; omega)).trans l0) rfl ?_
      refine wn_icmpN (t := 34) (f := 16) rfl rfl rfl (by omega) (by omega) (fun c3 => ?_) (fun c3 => ?_)
      · have c3 : (nrW w) ≤ r := c3
        obtain rfl : r = nrW w := by omega
        exact wn_vret rfl rfl ⟨rfl, hf_g1, _, c_58_g1, hB⟩
      · have c3 : r < (nrW w) := c3
        refine wn_ld (pc' := 17) (q := 0) (kin := 2) (v := .ref (0)) rfl (fun _ _ _ => rfl) rfl rfl ?_
        refine wn_get (pc' := 20) (v := .ref (58)) rfl rfl ((hf_g1.2 0 (by decide)).trans v1) rfl ?_
        refine wn_ld (pc' := 21) (q := 2) (kin := 0) (v := .int (nI (r))) rfl (fun _ _ _ => rfl) rfl rfl ?_
        refine wn_ld (pc' := 22) (q := 0) (kin := 2) (v := .ref (0)) rfl (fun _ _ _ => rfl) rfl rfl ?_
        refine wn_ld (pc' := 23) (q := 2) (kin := 0) (v := .int (nI (r))) rfl (fun _ _ _ => rfl) rfl rfl ?_
        refine wn_ld (pc' := 24) (q := 1) (kin := 0) (v := .int (nI (y))) rfl (fun _ _ _ => rfl) rfl rfl ?_
        have := bnW_le hWf y r
        refine wn_virI (pc' := 27) rfl rfl (by decide) rfl rfl ((hf_g1.2 0 (by decide)).trans v1) (Nat.le_of_ble_eq_true rfl) (x_bundleOf _ _ ls w hWf V_g1 y (by omega) Ra_g1 r (by omega)) ?_
        refine wn_iast (pc' := 28) (j := r) rfl rfl c_58_g1 rfl (by omega) (by decide) ?_
        refine wn_incN (n := 1) (pc' := 31) (lv' := [(0, .ref (0)), (1, .int (nI (y))), (2, .int (nI (r + 1)))]) rfl rfl rfl (Nat.le_of_ble_eq_true rfl) rfl (by decide) ?_
        refine wn_jp (pc' := 2) rfl rfl ?_
        refine wn_weak (lv' := [(0, .ref (0)), (1, .int (nI (y))), (2, .int (nI (r + 1)))]) (by simp) ?_
        have z9 := ih_lp2 (g1.set 58 (.inl (0, 40, .inl (upd b1 (r) ((nI (bnW w y r))))))) (upd b1 (r) ((nI (bnW w y r)))) (r + 1) (by omega) (Fr.st hf_g1 (by decide)) (gs_self c_58_g1) (by omega) (fun q hq => by by_cases e : q = r; (subst e; exact pk_us); (rw [pk_un (by omega)]; exact hB q (by omega)))
        exact z9
  refine wn_weak (lv' := [(0, .ref (0)), (1, .int (nI (y))), (2, .int (nI (0)))]) (by simp) ?_
  have z9 := lp2 ((nrW w) + 1) h bu 0 (by omega) (Fr.rfl' [58] h) b0 (by omega) (fun _ q => absurd q (by omega))
  exact z9

theorem ScrX.i58 {h : aH} (S : ScrX h) : ∃ f, isI h 58 40 f := by
  obtain ⟨bu, lb, ft, ta, un, a, b, c, d, e⟩ := S
  exact ⟨_, a⟩
theorem ScrX.i59 {h : aH} (S : ScrX h) : ∃ f, isI h 59 24 f := by
  obtain ⟨bu, lb, ft, ta, un, a, b, c, d, e⟩ := S
  exact ⟨_, b⟩
theorem ScrX.i60 {h : aH} (S : ScrX h) : ∃ f, isI h 60 24 f := by
  obtain ⟨bu, lb, ft, ta, un, a, b, c, d, e⟩ := S
  exact ⟨_, c⟩
theorem ScrX.i61 {h : aH} (S : ScrX h) : ∃ f, isI h 61 5 f := by
  obtain ⟨bu, lb, ft, ta, un, a, b, c, d, e⟩ := S
  exact ⟨_, d⟩
theorem ScrX.i62 {h : aH} (S : ScrX h) : ∃ f, isZ h 62 1024 f := by
  obtain ⟨bu, lb, ft, ta, un, a, b, c, d, e⟩ := S
  exact ⟨_, e⟩
theorem x_thick (d : Nat) (h : aH) (ls : Nat) (w : Nat → Int32) (hWf : WfW w) (V : XV h ls w) (R0 : RX h h ls w) (y : Int32) : Sp (Rn (d + 7)) 78 [.ref (0), .int (y)] h (fun r9 h9 => r9 = some (.int (thickA w y)) ∧ RX h h9 ls w) := by
  obtain ⟨⟨e1, e2⟩, ⟨e3, e4⟩, ⟨e5, e6⟩⟩ := Wf_n hWf
  obtain ⟨⟨e7, e8⟩, ⟨e9, e10⟩⟩ := Wf_m hWf
  obtain ⟨v0, ⟨x9, v1⟩, ⟨v2, ⟨sz, rf, rt, rv, ag, vr, sd, tl, l0, l1, l2, l3, l4, l5, l6, l7, l8, g1, g2, g3, g4, g5⟩, ⟨sec, it, fi, se, sg, lst, rs, rp, pj, pk, pv, k0, k1, k2, k3, k4, k5, k6, k7, k8, k9, k10, k11, k12, k13⟩, ⟨hv, hc, y0, y1, y2, y3, y4⟩, ⟨an, wk, n0, n1, n2, n3, n4⟩⟩, v3⟩ := id V
  rw [e1, e3, e5] at l0
  rw [e7, e9] at k1
  refine Sp_of (by decide) (Nat.le_of_ble_eq_true rfl) ?_
  show Wn _ _ 0 [(0, .ref (0)), (1, .int (y))] [] _ _
  refine wn_ld (pc' := 1) (q := 0) (kin := 2) (v := .ref (0)) rfl (fun _ _ _ => rfl) rfl rfl ?_
  refine wn_ld (pc' := 2) (q := 1) (kin := 0) (v := .int (y)) rfl (fun _ _ _ => rfl) rfl rfl ?_
  refine wn_virS (pc' := 5) rfl rfl (by decide) rfl rfl v1 (Nat.le_of_ble_eq_true rfl) (x_reachesYear _ _ ls w hWf V R0.2.2.1 y) (fun r9 h1 e2 => ?_)
  obtain ⟨rfl, R_h1, Ra_h1⟩ := e2
  have RY_h1 := RY.tr (RY.rfl' R0.2.2.1) R_h1
  have V_h1 := RY_h1.xv V
  obtain ⟨v0_h1, ⟨x9_h1, v1_h1⟩, ⟨v2_h1, ⟨sz_h1, rf_h1, rt_h1, rv_h1, ag_h1, vr_h1, sd_h1, tl_h1, l0_h1, l1_h1, l2_h1, l3_h1, l4_h1, l5_h1, l6_h1, l7_h1, l8_h1, g1_h1, g2_h1, g3_h1, g4_h1, g5_h1⟩, ⟨sec_h1, it_h1, fi_h1, se_h1, sg_h1, lst_h1, rs_h1, rp_h1, pj_h1, pk_h1, pv_h1, k0_h1, k1_h1, k2_h1, k3_h1, k4_h1, k5_h1, k6_h1, k7_h1, k8_h1, k9_h1, k10_h1, k11_h1, k12_h1, k13_h1⟩, ⟨hv_h1, hc_h1, y0_h1, y1_h1, y2_h1, y3_h1, y4_h1⟩, ⟨an_h1, wk_h1, n0_h1, n1_h1, n2_h1, n3_h1, n4_h1⟩⟩, v3_h1⟩ := id V_h1
  rw [e1, e3, e5] at l0_h1
  rw [e7, e9] at k1_h1
  show Wn _ _ 5 _ [.int (bI (iin y 61))] h1 _
  refine wn_ifneB (t := 11) (f := 8) rfl rfl rfl (fun c3 => ?_) (fun c3 => ?_)
  · have c3 : (iin y 61) := c3
    obtain ⟨y9, hy9, rfl⟩ := iin_of c3
    have ti_y := nI_toInt (n := y9) (show y9 < 2 ^ 31 by omega)
    have cl_y := nI_clamp (n := y9) (show y9 < 2 ^ 31 by omega)
    have Rd_h1 : ∀ i, i < ntW w → Rch h1 w i y9 := by have q := Ra_h1 c3; rw [cl_y] at q; exact q
    refine wn_ld (pc' := 12) (q := 0) (kin := 2) (v := .ref (0)) rfl (fun _ _ _ => rfl) rfl rfl ?_
    refine wn_ld (pc' := 13) (q := 1) (kin := 0) (v := .int (nI (y9))) rfl (fun _ _ _ => rfl) rfl rfl ?_
    refine wn_virS (pc' := 16) rfl rfl (by decide) rfl rfl v1_h1 (Nat.le_of_ble_eq_true rfl) (x_fillBundles _ _ ls w hWf V_h1 _ (ScrX.i58 (RY.rx RY_h1 R0.2.2.2).2.2.2).choose_spec y9 (by omega) Rd_h1) (fun r9 h4 e5 => ?_)
    obtain ⟨rfl, f_h4, b_h4, i_h4, bv_h4⟩ := e5
    have RX_h4 := RX.s58 (RY.rx RY_h1 R0.2.2.2) f_h4 i_h4
    have V_h4 := RX_h4.xv V
    obtain ⟨v0_h4, ⟨x9_h4, v1_h4⟩, ⟨v2_h4, ⟨sz_h4, rf_h4, rt_h4, rv_h4, ag_h4, vr_h4, sd_h4, tl_h4, l0_h4, l1_h4, l2_h4, l3_h4, l4_h4, l5_h4, l6_h4, l7_h4, l8_h4, g1_h4, g2_h4, g3_h4, g4_h4, g5_h4⟩, ⟨sec_h4, it_h4, fi_h4, se_h4, sg_h4, lst_h4, rs_h4, rp_h4, pj_h4, pk_h4, pv_h4, k0_h4, k1_h4, k2_h4, k3_h4, k4_h4, k5_h4, k6_h4, k7_h4, k8_h4, k9_h4, k10_h4, k11_h4, k12_h4, k13_h4⟩, ⟨hv_h4, hc_h4, y0_h4, y1_h4, y2_h4, y3_h4, y4_h4⟩, ⟨an_h4, wk_h4, n0_h4, n1_h4, n2_h4, n3_h4, n4_h4⟩⟩, v3_h4⟩ := id V_h4
    rw [e1, e3, e5] at l0_h4
    rw [e7, e9] at k1_h4
    have Rb_h4 : ∀ i, i < ntW w → Rch h4 w i y9 := fun i q => Rch.fr (Rd_h1 i q) f_h4 (by decide)
    show Wn _ _ 16 _ [] h4 _
    refine wn_ic (pc' := 17) (w := -1) rfl rfl (by decide) ?_
    refine wn_st (pc' := 18) (q := 2) (kin := 0) (lv' := [(0, .ref (0)), (1, .int (nI (y9))), (2, .int (-1))]) rfl (fun _ _ _ => rfl) rfl (Nat.le_of_ble_eq_true rfl) rfl ?_
    refine wn_ic (pc' := 19) (w := nI 0) rfl rfl (by decide) ?_
    refine wn_st (pc' := 20) (q := 3) (kin := 0) (lv' := [(0, .ref (0)), (1, .int (nI (y9))), (2, .int (-1)), (3, .int (nI (0)))]) rfl (fun _ _ _ => rfl) rfl (Nat.le_of_ble_eq_true rfl) rfl ?_
    have lp6 : ∀ (n_lp6 : Nat) (k : Nat), (nrW w) + 1 ≤ k + n_lp6 → k ≤ nrW w → Wn (Rn (d + 6)) 78 20 [(0, .ref (0)), (1, .int (nI (y9))), (2, .int (oI (amx (bnW w y9) k))), (3, .int (nI (k)))] [] (h4) (fun r9 h9 => r9 = some (.int (thickA w (nI y9))) ∧ RX h h9 ls w) := by
      intro n_lp6
      induction n_lp6 with
      | zero => intro k hm_lp6 hk; exfalso; omega
      | succ n_lp6 ih_lp6 =>
        intro k hm_lp6 hk
        refine wn_ld (pc' := 21) (q := 3) (kin := 0) (v := .int (nI (k))) rfl (fun _ _ _ => rfl) rfl rfl ?_
        refine wn_ld (pc' := 22) (q := 0) (kin := 2) (v := .ref (0)) rfl (fun _ _ _ => rfl) rfl rfl ?_
        refine wn_get (pc' := 25) (v := .ref (23)) rfl rfl v1_h4 rfl ?_
        refine wn_get (pc' := 28) (v := .ref (ls)) rfl rfl v2_h4 rfl ?_
        refine wn_get (pc' := 31) (v := .int (nI (nrW w))) rfl rfl l0_h4 rfl ?_
        refine wn_icmpN (t := 62) (f := 34) rfl rfl rfl (by omega) (by omega) (fun c7 => ?_) (fun c7 => ?_)
        · have c7 : (nrW w) ≤ k := c7
          obtain rfl : k = nrW w := by omega
          refine wn_ld (pc' := 63) (q := 2) (kin := 0) (v := .int (oI (amx (bnW w y9) (nrW w)))) rfl (fun _ _ _ => rfl) rfl rfl ?_
          try simp only [Int32.lt_iff_toInt_lt, Int32.le_iff_toInt_le, i2l_int, Int32.toInt_zero, iin] at c3
          refine wn_iret rfl rfl rfl ⟨congrArg (fun z => some (Value.int z)) ?_, RX_h4⟩
          unfold thickA
          rw [qI_t (by simp only [iin]; omega)]
          first | rfl | (simp only [cl_y]; done) | (simp only [cl_y]; rfl)
        · have c7 : k < (nrW w) := c7
          cases ho9 : amx (bnW w y9) k with
          | none =>
            show Wn _ _ 34 [(0, .ref (0)), (1, .int (nI (y9))), (2, .int (-1)), (3, .int (nI (k)))] _ _ _
            refine wn_ld (pc' := 35) (q := 2) (kin := 0) (v := .int (-1)) rfl (fun _ _ _ => rfl) rfl rfl ?_
            refine wn_ic (pc' := 36) (w := -1) rfl rfl (by decide) ?_
            refine wn_icmp (t := 54) (f := 39) rfl rfl rfl (fun c8 => ?_) (fun c8 => ?_)
            · have c8 : ((-1) : Int32) = ((-1)) := c8
              refine wn_ld (pc' := 55) (q := 3) (kin := 0) (v := .int (nI (k))) rfl (fun _ _ _ => rfl) rfl rfl ?_
              refine wn_st (pc' := 56) (q := 2) (kin := 0) (lv' := [(0, .ref (0)), (1, .int (nI (y9))), (2, .int (nI (k))), (3, .int (nI (k)))]) rfl (fun _ _ _ => rfl) rfl (Nat.le_of_ble_eq_true rfl) rfl ?_
              refine wn_incN (n := 1) (pc' := 59) (lv' := [(0, .ref (0)), (1, .int (nI (y9))), (2, .int (nI (k))), (3, .int (nI (k + 1)))]) rfl rfl rfl (Nat.le_of_ble_eq_true rfl) rfl (by decide) ?_
              refine wn_jp (pc' := 20) rfl rfl ?_
              refine wn_weak (lv' := [(0, .ref (0)), (1, .int (nI (y9))), (2, .int (nI (k))), (3, .int (nI (k + 1)))]) (by simp) ?_
              have z9 := ih_lp6 (k + 1) (by omega) (by omega)
              rw [show (oI (amx (bnW w y9) (k + 1))) = (nI (k)) from (by exact congrArg oI (amx_n ho9))] at z9
              exact z9
            · have c8 : ¬ ((-1) : Int32) = ((-1)) := c8
              exact absurd rfl c8
          | some b =>
            have hb9 := amx_lt ho9
            show Wn _ _ 34 [(0, .ref (0)), (1, .int (nI (y9))), (2, .int (nI (b))), (3, .int (nI (k)))] _ _ _
            refine wn_ld (pc' := 35) (q := 2) (kin := 0) (v := .int (nI (b))) rfl (fun _ _ _ => rfl) rfl rfl ?_
            refine wn_ic (pc' := 36) (w := -1) rfl rfl (by decide) ?_
            refine wn_icmp (t := 54) (f := 39) rfl rfl rfl (fun c9 => ?_) (fun c9 => ?_)
            · have c9 : ((nI (b))) = ((-1)) := c9
              exact absurd c9 (nI_m1 (by omega))
            · have c9 : ¬ ((nI (b))) = ((-1)) := c9
              refine wn_ld (pc' := 40) (q := 0) (kin := 2) (v := .ref (0)) rfl (fun _ _ _ => rfl) rfl rfl ?_
              refine wn_get (pc' := 43) (v := .ref (58)) rfl rfl v1_h4 rfl ?_
              refine wn_ld (pc' := 44) (q := 3) (kin := 0) (v := .int (nI (k))) rfl (fun _ _ _ => rfl) rfl rfl ?_
              have := bnW_le hWf y9 k
              refine wn_ialdv (pc' := 45) (j := k) (v := (nI (bnW w y9 k))) rfl rfl i_h4 rfl (by omega) (by decide) (bv_h4 k (by omega)) ?_
              refine wn_ld (pc' := 46) (q := 0) (kin := 2) (v := .ref (0)) rfl (fun _ _ _ => rfl) rfl rfl ?_
              refine wn_get (pc' := 49) (v := .ref (58)) rfl rfl v1_h4 rfl ?_
              refine wn_ld (pc' := 50) (q := 2) (kin := 0) (v := .int (nI (b))) rfl (fun _ _ _ => rfl) rfl rfl ?_
              have := bnW_le hWf y9 b
              refine wn_ialdv (pc' := 51) (j := b) (v := (nI (bnW w y9 b))) rfl rfl i_h4 rfl (by omega) (by decide) (bv_h4 b (by omega)) ?_
              refine wn_icmpN (t := 56) (f := 54) rfl rfl rfl (by omega) (by omega) (fun c10 => ?_) (fun c10 => ?_)
              · have c10 : (bnW w y9 k) ≤ (bnW w y9 b) := c10
                refine wn_incN (n := 1) (pc' := 59) (lv' := [(0, .ref (0)), (1, .int (nI (y9))), (2, .int (nI (b))), (3, .int (nI (k + 1)))]) rfl rfl rfl (Nat.le_of_ble_eq_true rfl) rfl (by decide) ?_
                refine wn_jp (pc' := 20) rfl rfl ?_
                refine wn_weak (lv' := [(0, .ref (0)), (1, .int (nI (y9))), (2, .int (nI (b))), (3, .int (nI (k + 1)))]) (by simp) ?_
                have z9 := ih_lp6 (k + 1) (by omega) (by omega)
                rw [show (oI (amx (bnW w y9) (k + 1))) = (nI (b)) from (by exact congrArg oI (amx_f ho9 (by omega)))] at z9
                exact z9
              · have c10 : (bnW w y9 b) < (bnW w y9 k) := c10
                refine wn_ld (pc' := 55) (q := 3) (kin := 0) (v := .int (nI (k))) rfl (fun _ _ _ => rfl) rfl rfl ?_
                refine wn_st (pc' := 56) (q := 2) (kin := 0) (lv' := [(0, .ref (0)), (1, .int (nI (y9))), (2, .int (nI (k))), (3, .int (nI (k)))]) rfl (fun _ _ _ => rfl) rfl (Nat.le_of_ble_eq_true rfl) rfl ?_
                refine wn_incN (n := 1) (pc' := 59) (lv' := [(0, .ref (0)), (1, .int (nI (y9))), (2, .int (nI (k))), (3, .int (nI (k + 1)))]) rfl rfl rfl (Nat.le_of_ble_eq_true rfl) rfl (by decide) ?_
                refine wn_jp (pc' := 20) rfl rfl ?_
                refine wn_weak (lv' := [(0, .ref (0)), (1, .int (nI (y9))), (2, .int (nI (k))), (3, .int (nI (k + 1)))]) (by simp) ?_
                have z9 := ih_lp6 (k + 1) (by omega) (by omega)
                rw [show (oI (amx (bnW w y9) (k + 1))) = (nI (k)) from (by exact congrArg oI (amx_t ho9 (by omega)))] at z9
                exact z9
    refine wn_weak (lv' := [(0, .ref (0)), (1, .int (nI (y9))), (2, .int (-1)), (3, .int (nI (0)))]) (by simp) ?_
    have z9 := lp6 ((nrW w) + 1) 0 (by omega) (by omega)
    rw [show (oI (amx (bnW w y9) 0)) = (-1) from (by rfl)] at z9
    exact z9
  · have c3 : ¬ (iin y 61) := c3
    refine wn_bp (pc' := 10) (w := -2) rfl rfl (by decide) ?_
    try simp only [Int32.lt_iff_toInt_lt, Int32.le_iff_toInt_le, i2l_int, Int32.toInt_zero, iin] at c3
    refine wn_iret rfl rfl rfl ⟨congrArg (fun z => some (Value.int z)) ?_, (RY.rx RY_h1 R0.2.2.2)⟩
    unfold thickA
    rw [qI_f (by simp only [iin]; omega)]

theorem case_8 (y : Int32) : CaseI Rp 78 189 [.int y] := case_q (fun h ls w hWf V R => ⟨_, x_thick 693 h ls w hWf V R y, fun h1 HQ => m_thick 689 h1 w hWf HQ y⟩)
theorem x_crossed (d : Nat) (h : aH) (ls : Nat) (w : Nat → Int32) (hWf : WfW w) (V : XV h ls w) (R0 : RX h h ls w) (k y : Int32) : Sp (Rn (d + 7)) 79 [.ref (0), .int (k), .int (y)] h (fun r9 h9 => r9 = some (.int (crossedA w k y)) ∧ RX h h9 ls w) := by
  obtain ⟨⟨e1, e2⟩, ⟨e3, e4⟩, ⟨e5, e6⟩⟩ := Wf_n hWf
  obtain ⟨⟨e7, e8⟩, ⟨e9, e10⟩⟩ := Wf_m hWf
  obtain ⟨v0, ⟨x9, v1⟩, ⟨v2, ⟨sz, rf, rt, rv, ag, vr, sd, tl, l0, l1, l2, l3, l4, l5, l6, l7, l8, g1, g2, g3, g4, g5⟩, ⟨sec, it, fi, se, sg, lst, rs, rp, pj, pk, pv, k0, k1, k2, k3, k4, k5, k6, k7, k8, k9, k10, k11, k12, k13⟩, ⟨hv, hc, y0, y1, y2, y3, y4⟩, ⟨an, wk, n0, n1, n2, n3, n4⟩⟩, v3⟩ := id V
  rw [e1, e3, e5] at l0
  rw [e7, e9] at k1
  refine Sp_of (by decide) (Nat.le_of_ble_eq_true rfl) ?_
  show Wn _ _ 0 [(0, .ref (0)), (1, .int (k)), (2, .int (y))] [] _ _
  refine wn_ld (pc' := 1) (q := 1) (kin := 0) (v := .int (k)) rfl (fun _ _ _ => rfl) rfl rfl ?_
  refine wn_ifc (t := 18) (f := 4) rfl rfl rfl (fun c1 => ?_) (fun c1 => ?_)
  · have c1 : ((k)) < 0 := c1
    refine wn_bp (pc' := 20) (w := -2) rfl rfl (by decide) ?_
    try simp only [Int32.lt_iff_toInt_lt, Int32.le_iff_toInt_le, i2l_int, Int32.toInt_zero, iin] at c1
    refine wn_iret rfl rfl rfl ⟨congrArg (fun z => some (Value.int z)) ?_, (RY.rx (RY.rfl' R0.2.2.1) R0.2.2.2)⟩
    unfold crossedA
    rw [qI_f (by simp only [iin]; omega)]
  · have c1 : 0 ≤ ((k)) := c1
    refine wn_ld (pc' := 5) (q := 1) (kin := 0) (v := .int (k)) rfl (fun _ _ _ => rfl) rfl rfl ?_
    refine wn_bp (pc' := 7) (w := nI 10) rfl rfl (by decide) ?_
    refine wn_icmp (t := 18) (f := 10) rfl rfl rfl (fun c2 => ?_) (fun c2 => ?_)
    · have c2 : ((nI (10))) < ((k)) := c2
      refine wn_bp (pc' := 20) (w := -2) rfl rfl (by decide) ?_
      have en10 : (nI 10).toInt = 10 := by decide
      try simp only [Int32.lt_iff_toInt_lt, Int32.le_iff_toInt_le, i2l_int, Int32.toInt_zero, iin] at c1
      try simp only [Int32.lt_iff_toInt_lt, Int32.le_iff_toInt_le, i2l_int, Int32.toInt_zero, iin] at c2
      refine wn_iret rfl rfl rfl ⟨congrArg (fun z => some (Value.int z)) ?_, (RY.rx (RY.rfl' R0.2.2.1) R0.2.2.2)⟩
      unfold crossedA
      rw [qI_f (by simp only [iin]; omega)]
    · have c2 : ((k)) ≤ ((nI (10))) := c2
      have k9i := iin_q (n := 10) c1 c2 (by decide)
      obtain ⟨k9, hk9, rfl⟩ := iin_of k9i
      have ti_k := nI_toInt (n := k9) (show k9 < 2 ^ 31 by omega)
      have cl_k := nI_clamp (n := k9) (show k9 < 2 ^ 31 by omega)
      refine wn_ld (pc' := 11) (q := 0) (kin := 2) (v := .ref (0)) rfl (fun _ _ _ => rfl) rfl rfl ?_
      refine wn_ld (pc' := 12) (q := 2) (kin := 0) (v := .int (y)) rfl (fun _ _ _ => rfl) rfl rfl ?_
      refine wn_virS (pc' := 15) rfl rfl (by decide) rfl rfl v1 (Nat.le_of_ble_eq_true rfl) (x_reachesYear _ _ ls w hWf V R0.2.2.1 y) (fun r9 h3 e4 => ?_)
      obtain ⟨rfl, R_h3, Ra_h3⟩ := e4
      have RY_h3 := RY.tr (RY.rfl' R0.2.2.1) R_h3
      have V_h3 := RY_h3.xv V
      obtain ⟨v0_h3, ⟨x9_h3, v1_h3⟩, ⟨v2_h3, ⟨sz_h3, rf_h3, rt_h3, rv_h3, ag_h3, vr_h3, sd_h3, tl_h3, l0_h3, l1_h3, l2_h3, l3_h3, l4_h3, l5_h3, l6_h3, l7_h3, l8_h3, g1_h3, g2_h3, g3_h3, g4_h3, g5_h3⟩, ⟨sec_h3, it_h3, fi_h3, se_h3, sg_h3, lst_h3, rs_h3, rp_h3, pj_h3, pk_h3, pv_h3, k0_h3, k1_h3, k2_h3, k3_h3, k4_h3, k5_h3, k6_h3, k7_h3, k8_h3, k9_h3, k10_h3, k11_h3, k12_h3, k13_h3⟩, ⟨hv_h3, hc_h3, y0_h3, y1_h3, y2_h3, y3_h3, y4_h3⟩, ⟨an_h3, wk_h3, n0_h3, n1_h3, n2_h3, n3_h3, n4_h3⟩⟩, v3_h3⟩ := id V_h3
      rw [e1, e3, e5] at l0_h3
      rw [e7, e9] at k1_h3
      show Wn _ _ 15 _ [.int (bI (iin y 61))] h3 _
      refine wn_ifneB (t := 21) (f := 18) rfl rfl rfl (fun c5 => ?_) (fun c5 => ?_)
      · have c5 : (iin y 61) := c5
        obtain ⟨y9, hy9, rfl⟩ := iin_of c5
        have ti_y := nI_toInt (n := y9) (show y9 < 2 ^ 31 by omega)
        have cl_y := nI_clamp (n := y9) (show y9 < 2 ^ 31 by omega)
        have Rd_h3 : ∀ i, i < ntW w → Rch h3 w i y9 := by have q := Ra_h3 c5; rw [cl_y] at q; exact q
        refine wn_ld (pc' := 22) (q := 0) (kin := 2) (v := .ref (0)) rfl (fun _ _ _ => rfl) rfl rfl ?_
        refine wn_ld (pc' := 23) (q := 2) (kin := 0) (v := .int (nI (y9))) rfl (fun _ _ _ => rfl) rfl rfl ?_
        refine wn_virS (pc' := 26) rfl rfl (by decide) rfl rfl v1_h3 (Nat.le_of_ble_eq_true rfl) (x_fillBundles _ _ ls w hWf V_h3 _ (ScrX.i58 (RY.rx RY_h3 R0.2.2.2).2.2.2).choose_spec y9 (by omega) Rd_h3) (fun r9 h6 e7 => ?_)
        obtain ⟨rfl, f_h6, b_h6, i_h6, bv_h6⟩ := e7
        have RX_h6 := RX.s58 (RY.rx RY_h3 R0.2.2.2) f_h6 i_h6
        have V_h6 := RX_h6.xv V
        obtain ⟨v0_h6, ⟨x9_h6, v1_h6⟩, ⟨v2_h6, ⟨sz_h6, rf_h6, rt_h6, rv_h6, ag_h6, vr_h6, sd_h6, tl_h6, l0_h6, l1_h6, l2_h6, l3_h6, l4_h6, l5_h6, l6_h6, l7_h6, l8_h6, g1_h6, g2_h6, g3_h6, g4_h6, g5_h6⟩, ⟨sec_h6, it_h6, fi_h6, se_h6, sg_h6, lst_h6, rs_h6, rp_h6, pj_h6, pk_h6, pv_h6, k0_h6, k1_h6, k2_h6, k3_h6, k4_h6, k5_h6, k6_h6, k7_h6, k8_h6, k9_h6, k10_h6, k11_h6, k12_h6, k13_h6⟩, ⟨hv_h6, hc_h6, y0_h6, y1_h6, y2_h6, y3_h6, y4_h6⟩, ⟨an_h6, wk_h6, n0_h6, n1_h6, n2_h6, n3_h6, n4_h6⟩⟩, v3_h6⟩ := id V_h6
        rw [e1, e3, e5] at l0_h6
        rw [e7, e9] at k1_h6
        have Rb_h6 : ∀ i, i < ntW w → Rch h6 w i y9 := fun i q => Rch.fr (Rd_h3 i q) f_h6 (by decide)
        show Wn _ _ 26 _ [] h6 _
        refine wn_ic (pc' := 27) (w := nI 0) rfl rfl (by decide) ?_
        refine wn_st (pc' := 28) (q := 3) (kin := 0) (lv' := [(0, .ref (0)), (1, .int (nI (k9))), (2, .int (nI (y9))), (3, .int (nI (0)))]) rfl (fun _ _ _ => rfl) rfl (Nat.le_of_ble_eq_true rfl) rfl ?_
        refine wn_ic (pc' := 29) (w := nI 0) rfl rfl (by decide) ?_
        refine wn_st (pc' := 31) (q := 4) (kin := 0) (lv' := [(0, .ref (0)), (1, .int (nI (k9))), (2, .int (nI (y9))), (3, .int (nI (0))), (4, .int (nI (0)))]) rfl (fun _ _ _ => rfl) rfl (Nat.le_of_ble_eq_true rfl) rfl ?_
        have lp8 : ∀ (n_lp8 : Nat) (r : Nat), (nrW w) + 1 ≤ r + n_lp8 → r ≤ nrW w → Wn (Rn (d + 6)) 79 31 [(0, .ref (0)), (1, .int (nI (k9))), (2, .int (nI (y9))), (3, .int (nI (cntP (fun x7 => k9 ≤ bnW w y9 x7) r))), (4, .int (nI (r)))] [] (h6) (fun r9 h9 => r9 = some (.int (crossedA w (nI k9) (nI y9))) ∧ RX h h9 ls w) := by
          intro n_lp8
          induction n_lp8 with
          | zero => intro r hm_lp8 hk_r; exfalso; omega
          | succ n_lp8 ih_lp8 =>
            intro r hm_lp8 hk_r
            have := cntP_le (fun x7 => k9 ≤ bnW w y9 x7) r
            refine wn_ld (pc' := 33) (q := 4) (kin := 0) (v := .int (nI (r))) rfl (fun _ _ _ => rfl) rfl rfl ?_
            refine wn_ld (pc' := 34) (q := 0) (kin := 2) (v := .ref (0)) rfl (fun _ _ _ => rfl) rfl rfl ?_
            refine wn_get (pc' := 37) (v := .ref (23)) rfl rfl v1_h6 rfl ?_
            refine wn_get (pc' := 40) (v := .ref (ls)) rfl rfl v2_h6 rfl ?_
            refine wn_get (pc' := 43) (v := .int (nI (nrW w))) rfl rfl l0_h6 rfl ?_
            refine wn_icmpN (t := 66) (f := 46) rfl rfl rfl (by omega) (by omega) (fun c9 => ?_) (fun c9 => ?_)
            · have c9 : (nrW w) ≤ r := c9
              obtain rfl : r = nrW w := by omega
              refine wn_ld (pc' := 67) (q := 3) (kin := 0) (v := .int (nI (cntP (fun x7 => k9 ≤ bnW w y9 x7) (nrW w)))) rfl (fun _ _ _ => rfl) rfl rfl ?_
              have en10 : (nI 10).toInt = 10 := by decide
              try simp only [Int32.lt_iff_toInt_lt, Int32.le_iff_toInt_le, i2l_int, Int32.toInt_zero, iin] at c1
              try simp only [Int32.lt_iff_toInt_lt, Int32.le_iff_toInt_le, i2l_int, Int32.toInt_zero, iin] at c2
              try simp only [Int32.lt_iff_toInt_lt, Int32.le_iff_toInt_le, i2l_int, Int32.toInt_zero, iin] at c5
              refine wn_iret rfl rfl rfl ⟨congrArg (fun z => some (Value.int z)) ?_, RX_h6⟩
              unfold crossedA
              rw [qI_t (by simp only [iin]; omega)]
              first | rfl | (simp only [cl_k, cl_y]; done) | (simp only [cl_k, cl_y]; rfl)
            · have c9 : r < (nrW w) := c9
              refine wn_ld (pc' := 47) (q := 0) (kin := 2) (v := .ref (0)) rfl (fun _ _ _ => rfl) rfl rfl ?_
              refine wn_get (pc' := 50) (v := .ref (58)) rfl rfl v1_h6 rfl ?_
              refine wn_ld (pc' := 52) (q := 4) (kin := 0) (v := .int (nI (r))) rfl (fun _ _ _ => rfl) rfl rfl ?_
              have := bnW_le hWf y9 r
              refine wn_ialdv (pc' := 53) (j := r) (v := (nI (bnW w y9 r))) rfl rfl i_h6 rfl (by omega) (by decide) (bv_h6 r (by omega)) ?_
              refine wn_ld (pc' := 54) (q := 1) (kin := 0) (v := .int (nI (k9))) rfl (fun _ _ _ => rfl) rfl rfl ?_
              refine wn_icmpN (t := 60) (f := 57) rfl rfl rfl (by omega) (by omega) (fun c10 => ?_) (fun c10 => ?_)
              · have c10 : (bnW w y9 r) < k9 := c10
                refine wn_incN (n := 1) (pc' := 63) (lv' := [(0, .ref (0)), (1, .int (nI (k9))), (2, .int (nI (y9))), (3, .int (nI (cntP (fun x7 => k9 ≤ bnW w y9 x7) r))), (4, .int (nI (r + 1)))]) rfl rfl rfl (Nat.le_of_ble_eq_true rfl) rfl (by decide) ?_
                refine wn_jp (pc' := 31) rfl rfl ?_
                refine wn_weak (lv' := [(0, .ref (0)), (1, .int (nI (k9))), (2, .int (nI (y9))), (3, .int (nI (cntP (fun x7 => k9 ≤ bnW w y9 x7) r))), (4, .int (nI (r + 1)))]) (by simp) ?_
                have z9 := ih_lp8 (r + 1) (by omega) (by omega)
                rw [show (nI (cntP (fun x7 => k9 ≤ bnW w y9 x7) (r + 1))) = (nI (cntP (fun x7 => k9 ≤ bnW w y9 x7) r)) from (by exact congrArg nI (cntP_f (p := fun x7 => k9 ≤ bnW w y9 x7) (by omega)))] at z9
                exact z9
              · have c10 : k9 ≤ (bnW w y9 r) := c10
                refine wn_incN (n := 1) (pc' := 60) (lv' := [(0, .ref (0)), (1, .int (nI (k9))), (2, .int (nI (y9))), (3, .int (nI (cntP (fun x7 => k9 ≤ bnW w y9 x7) r + 1))), (4, .int (nI (r)))]) rfl rfl rfl (Nat.le_of_ble_eq_true rfl) rfl (by decide) ?_
                refine wn_incN (n := 1) (pc' := 63) (lv' := [(0, .ref (0)), (1, .int (nI (k9))), (2, .int (nI (y9))), (3, .int (nI (cntP (fun x7 => k9 ≤ bnW w y9 x7) r + 1))), (4, .int (nI (r + 1)))]) rfl rfl rfl (Nat.le_of_ble_eq_true rfl) rfl (by decide) ?_
                refine wn_jp (pc' := 31) rfl rfl ?_
                refine wn_weak (lv' := [(0, .ref (0)), (1, .int (nI (k9))), (2, .int (nI (y9))), (3, .int (nI (cntP (fun x7 => k9 ≤ bnW w y9 x7) r + 1))), (4, .int (nI (r + 1)))]) (by simp) ?_
                have z9 := ih_lp8 (r + 1) (by omega) (by omega)
                rw [show (nI (cntP (fun x7 => k9 ≤ bnW w y9 x7) (r + 1))) = (nI (cntP (fun x7 => k9 ≤ bnW w y9 x7) r + 1)) from (by exact congrArg nI (cntP_t (p := fun x7 => k9 ≤ bnW w y9 x7) c10))] at z9
                exact z9
        refine wn_weak (lv' := [(0, .ref (0)), (1, .int (nI (k9))), (2, .int (nI (y9))), (3, .int (nI (0))), (4, .int (nI (0)))]) (by simp) ?_
        have z9 := lp8 ((nrW w) + 1) 0 (by omega) (by omega)
        rw [show (nI (cntP (fun x7 => k9 ≤ bnW w y9 x7) 0)) = (nI (0)) from (by rfl)] at z9
        exact z9
      · have c5 : ¬ (iin y 61) := c5
        refine wn_bp (pc' := 20) (w := -2) rfl rfl (by decide) ?_
        have en10 : (nI 10).toInt = 10 := by decide
        try simp only [Int32.lt_iff_toInt_lt, Int32.le_iff_toInt_le, i2l_int, Int32.toInt_zero, iin] at c1
        try simp only [Int32.lt_iff_toInt_lt, Int32.le_iff_toInt_le, i2l_int, Int32.toInt_zero, iin] at c2
        try simp only [Int32.lt_iff_toInt_lt, Int32.le_iff_toInt_le, i2l_int, Int32.toInt_zero, iin] at c5
        refine wn_iret rfl rfl rfl ⟨congrArg (fun z => some (Value.int z)) ?_, (RY.rx RY_h3 R0.2.2.2)⟩
        unfold crossedA
        rw [qI_f (by simp only [iin]; omega)]

theorem case_9 (k : Int32) (y : Int32) : CaseI Rp 79 190 [.int k, .int y] := case_q (fun h ls w hWf V R => ⟨_, x_crossed 693 h ls w hWf V R k y, fun h1 HQ => m_crossed 689 h1 w hWf HQ k y⟩)
theorem x_moved (d : Nat) (h : aH) (ls : Nat) (w : Nat → Int32) (hWf : WfW w) (V : XV h ls w) (R0 : RX h h ls w) (i a b : Int32) : Sp (Rn (d + 7)) 83 [.ref (0), .int (i), .int (a), .int (b)] h (fun r9 h9 => r9 = some (.int (movedA w i a b)) ∧ RX h h9 ls w) := by
  obtain ⟨⟨e1, e2⟩, ⟨e3, e4⟩, ⟨e5, e6⟩⟩ := Wf_n hWf
  obtain ⟨⟨e7, e8⟩, ⟨e9, e10⟩⟩ := Wf_m hWf
  obtain ⟨v0, ⟨x9, v1⟩, ⟨v2, ⟨sz, rf, rt, rv, ag, vr, sd, tl, l0, l1, l2, l3, l4, l5, l6, l7, l8, g1, g2, g3, g4, g5⟩, ⟨sec, it, fi, se, sg, lst, rs, rp, pj, pk, pv, k0, k1, k2, k3, k4, k5, k6, k7, k8, k9, k10, k11, k12, k13⟩, ⟨hv, hc, y0, y1, y2, y3, y4⟩, ⟨an, wk, n0, n1, n2, n3, n4⟩⟩, v3⟩ := id V
  rw [e1, e3, e5] at l0
  rw [e7, e9] at k1
  refine Sp_of (by decide) (Nat.le_of_ble_eq_true rfl) ?_
  show Wn _ _ 0 [(0, .ref (0)), (1, .int (i)), (2, .int (a)), (3, .int (b))] [] _ _
  refine wn_ld (pc' := 1) (q := 0) (kin := 2) (v := .ref (0)) rfl (fun _ _ _ => rfl) rfl rfl ?_
  refine wn_ld (pc' := 2) (q := 1) (kin := 0) (v := .int (i)) rfl (fun _ _ _ => rfl) rfl rfl ?_
  refine wn_ld (pc' := 3) (q := 2) (kin := 0) (v := .int (a)) rfl (fun _ _ _ => rfl) rfl rfl ?_
  refine wn_virS (pc' := 6) rfl rfl (by decide) rfl rfl v1 (Nat.le_of_ble_eq_true rfl) (x_reachesItem _ _ ls w hWf V R0.2.2.1 i a) (fun r9 h1 e2 => ?_)
  obtain ⟨rfl, R_h1, Rc_h1⟩ := e2
  have RY_h1 := RY.tr (RY.rfl' R0.2.2.1) R_h1
  have V_h1 := RY_h1.xv V
  obtain ⟨v0_h1, ⟨x9_h1, v1_h1⟩, ⟨v2_h1, ⟨sz_h1, rf_h1, rt_h1, rv_h1, ag_h1, vr_h1, sd_h1, tl_h1, l0_h1, l1_h1, l2_h1, l3_h1, l4_h1, l5_h1, l6_h1, l7_h1, l8_h1, g1_h1, g2_h1, g3_h1, g4_h1, g5_h1⟩, ⟨sec_h1, it_h1, fi_h1, se_h1, sg_h1, lst_h1, rs_h1, rp_h1, pj_h1, pk_h1, pv_h1, k0_h1, k1_h1, k2_h1, k3_h1, k4_h1, k5_h1, k6_h1, k7_h1, k8_h1, k9_h1, k10_h1, k11_h1, k12_h1, k13_h1⟩, ⟨hv_h1, hc_h1, y0_h1, y1_h1, y2_h1, y3_h1, y4_h1⟩, ⟨an_h1, wk_h1, n0_h1, n1_h1, n2_h1, n3_h1, n4_h1⟩⟩, v3_h1⟩ := id V_h1
  rw [e1, e3, e5] at l0_h1
  rw [e7, e9] at k1_h1
  show Wn _ _ 6 _ [.int (bI (iin i (ntW w) ∧ iin a 61))] h1 _
  refine wn_ifeqB (t := 18) (f := 9) rfl rfl rfl (fun c3 => ?_) (fun c3 => ?_)
  · have c3 : ¬ (iin i (ntW w) ∧ iin a 61) := c3
    refine wn_bp (pc' := 20) (w := -2) rfl rfl (by decide) ?_
    try simp only [Int32.lt_iff_toInt_lt, Int32.le_iff_toInt_le, i2l_int, Int32.toInt_zero, iin] at c3
    refine wn_iret rfl rfl rfl ⟨congrArg (fun z => some (Value.int z)) ?_, (RY.rx RY_h1 R0.2.2.2)⟩
    unfold movedA
    rw [qI_f (by simp only [iin]; omega)]
  · have c3 : (iin i (ntW w) ∧ iin a 61) := c3
    obtain ⟨i9, hi9, rfl⟩ := iin_of c3.1
    have ti_i := nI_toInt (n := i9) (show i9 < 2 ^ 31 by omega)
    have cl_i := nI_clamp (n := i9) (show i9 < 2 ^ 31 by omega)
    obtain ⟨a9, ha9, rfl⟩ := iin_of c3.2
    have ti_a := nI_toInt (n := a9) (show a9 < 2 ^ 31 by omega)
    have cl_a := nI_clamp (n := a9) (show a9 < 2 ^ 31 by omega)
    have Rd_h1 : Rch h1 w i9 a9 ∧ StR h1 w i9 a9 := by have q := Rc_h1 c3; rw [cl_i, cl_a] at q; exact q
    refine wn_ld (pc' := 10) (q := 0) (kin := 2) (v := .ref (0)) rfl (fun _ _ _ => rfl) rfl rfl ?_
    refine wn_ld (pc' := 11) (q := 1) (kin := 0) (v := .int (nI (i9))) rfl (fun _ _ _ => rfl) rfl rfl ?_
    refine wn_ld (pc' := 12) (q := 3) (kin := 0) (v := .int (b)) rfl (fun _ _ _ => rfl) rfl rfl ?_
    refine wn_virS (pc' := 15) rfl rfl (by decide) rfl rfl v1_h1 (Nat.le_of_ble_eq_true rfl) (x_reachesItem _ _ ls w hWf V_h1 RY_h1.2.1 (nI (i9)) b) (fun r9 h4 e5 => ?_)
    obtain ⟨rfl, R_h4, Rc_h4⟩ := e5
    have RY_h4 := RY.tr RY_h1 R_h4
    have V_h4 := RY_h4.xv V
    obtain ⟨v0_h4, ⟨x9_h4, v1_h4⟩, ⟨v2_h4, ⟨sz_h4, rf_h4, rt_h4, rv_h4, ag_h4, vr_h4, sd_h4, tl_h4, l0_h4, l1_h4, l2_h4, l3_h4, l4_h4, l5_h4, l6_h4, l7_h4, l8_h4, g1_h4, g2_h4, g3_h4, g4_h4, g5_h4⟩, ⟨sec_h4, it_h4, fi_h4, se_h4, sg_h4, lst_h4, rs_h4, rp_h4, pj_h4, pk_h4, pv_h4, k0_h4, k1_h4, k2_h4, k3_h4, k4_h4, k5_h4, k6_h4, k7_h4, k8_h4, k9_h4, k10_h4, k11_h4, k12_h4, k13_h4⟩, ⟨hv_h4, hc_h4, y0_h4, y1_h4, y2_h4, y3_h4, y4_h4⟩, ⟨an_h4, wk_h4, n0_h4, n1_h4, n2_h4, n3_h4, n4_h4⟩⟩, v3_h4⟩ := id V_h4
    rw [e1, e3, e5] at l0_h4
    rw [e7, e9] at k1_h4
    show Wn _ _ 15 _ [.int (bI (iin (nI (i9)) (ntW w) ∧ iin b 61))] h4 _
    refine wn_ifneB (t := 21) (f := 18) rfl rfl rfl (fun c6 => ?_) (fun c6 => ?_)
    · have c6 : (iin (nI (i9)) (ntW w) ∧ iin b 61) := c6
      obtain ⟨b9, hb9, rfl⟩ := iin_of c6.2
      have ti_b := nI_toInt (n := b9) (show b9 < 2 ^ 31 by omega)
      have cl_b := nI_clamp (n := b9) (show b9 < 2 ^ 31 by omega)
      have Rd_h4 : Rch h4 w i9 b9 ∧ StR h4 w i9 b9 := by have q := Rc_h4 c6; rw [cl_i, cl_b] at q; exact q
      refine wn_ic (pc' := 22) (w := nI 0) rfl rfl (by decide) ?_
      refine wn_st (pc' := 24) (q := 4) (kin := 0) (lv' := [(0, .ref (0)), (1, .int (nI (i9))), (2, .int (nI (a9))), (3, .int (nI (b9))), (4, .int (nI (0)))]) rfl (fun _ _ _ => rfl) rfl (Nat.le_of_ble_eq_true rfl) rfl ?_
      refine wn_ic (pc' := 25) (w := nI 0) rfl rfl (by decide) ?_
      refine wn_st (pc' := 27) (q := 5) (kin := 0) (lv' := [(0, .ref (0)), (1, .int (nI (i9))), (2, .int (nI (a9))), (3, .int (nI (b9))), (4, .int (nI (0))), (5, .int (nI (0)))]) rfl (fun _ _ _ => rfl) rfl (Nat.le_of_ble_eq_true rfl) rfl ?_
      have lp7 : ∀ (n_lp7 : Nat) (v : Nat), (nvW w) + 1 ≤ v + n_lp7 → v ≤ nvW w → Wn (Rn (d + 6)) 83 27 [(0, .ref (0)), (1, .int (nI (i9))), (2, .int (nI (a9))), (3, .int (nI (b9))), (4, .int (bitP (fun x7 => ¬ (sdW w a9 x7 i9 = sdW w b9 x7 i9)) v)), (5, .int (nI (v)))] [] (h4) (fun r9 h9 => r9 = some (.int (movedA w (nI i9) (nI a9) (nI b9))) ∧ RX h h9 ls w) := by
        intro n_lp7
        induction n_lp7 with
        | zero => intro v hm_lp7 hk_v; exfalso; omega
        | succ n_lp7 ih_lp7 =>
          intro v hm_lp7 hk_v
          refine wn_ld (pc' := 29) (q := 5) (kin := 0) (v := .int (nI (v))) rfl (fun _ _ _ => rfl) rfl rfl ?_
          refine wn_ld (pc' := 30) (q := 0) (kin := 2) (v := .ref (0)) rfl (fun _ _ _ => rfl) rfl rfl ?_
          refine wn_get (pc' := 33) (v := .ref (23)) rfl rfl v1_h4 rfl ?_
          refine wn_get (pc' := 36) (v := .ref (ls)) rfl rfl v2_h4 rfl ?_
          refine wn_get (pc' := 39) (v := .int (nI (nvW w))) rfl rfl l0_h4 rfl ?_
          refine wn_icmpN (t := 82) (f := 42) rfl rfl rfl (by omega) (by omega) (fun c8 => ?_) (fun c8 => ?_)
          · have c8 : (nvW w) ≤ v := c8
            obtain rfl : v = nvW w := by omega
            refine wn_ld (pc' := 84) (q := 4) (kin := 0) (v := .int (bitP (fun x7 => ¬ (sdW w a9 x7 i9 = sdW w b9 x7 i9)) (nvW w))) rfl (fun _ _ _ => rfl) rfl rfl ?_
            try simp only [Int32.lt_iff_toInt_lt, Int32.le_iff_toInt_le, i2l_int, Int32.toInt_zero, iin] at c3
            try simp only [Int32.lt_iff_toInt_lt, Int32.le_iff_toInt_le, i2l_int, Int32.toInt_zero, iin] at c6
            refine wn_iret rfl rfl rfl ⟨congrArg (fun z => some (Value.int z)) ?_, (RY.rx RY_h4 R0.2.2.2)⟩
            unfold movedA
            rw [qI_t (by simp only [iin]; omega)]
            first | rfl | (simp only [cl_i, cl_a, cl_b]; done) | (simp only [cl_i, cl_a, cl_b]; rfl)
          · have c8 : v < (nvW w) := c8
            refine wn_ld (pc' := 43) (q := 0) (kin := 2) (v := .ref (0)) rfl (fun _ _ _ => rfl) rfl rfl ?_
            refine wn_get (pc' := 46) (v := .ref (52)) rfl rfl v1_h4 rfl ?_
            refine wn_ld (pc' := 47) (q := 1) (kin := 0) (v := .int (nI (i9))) rfl (fun _ _ _ => rfl) rfl rfl ?_
            refine wn_ld (pc' := 48) (q := 2) (kin := 0) (v := .int (nI (a9))) rfl (fun _ _ _ => rfl) rfl rfl ?_
            refine wn_ld (pc' := 50) (q := 5) (kin := 0) (v := .int (nI (v))) rfl (fun _ _ _ => rfl) rfl rfl ?_
            have := sdW_5 hWf (y := a9) (show v < nvW w by omega) (show i9 < ntW w by omega)
            refine wn_virI (pc' := 53) rfl rfl (by decide) rfl rfl v3_h4 (Nat.le_of_ble_eq_true rfl) (x_variantAt _ _ ls w hWf V_h4 i9 a9 v (by omega) (by omega) (by omega) (R_h4.2.2 i9 a9 (by omega) (by omega) Rd_h1.1)) ?_
            refine wn_ld (pc' := 54) (q := 0) (kin := 2) (v := .ref (0)) rfl (fun _ _ _ => rfl) rfl rfl ?_
            refine wn_get (pc' := 57) (v := .ref (52)) rfl rfl v1_h4 rfl ?_
            refine wn_ld (pc' := 58) (q := 1) (kin := 0) (v := .int (nI (i9))) rfl (fun _ _ _ => rfl) rfl rfl ?_
            refine wn_ld (pc' := 59) (q := 3) (kin := 0) (v := .int (nI (b9))) rfl (fun _ _ _ => rfl) rfl rfl ?_
            refine wn_ld (pc' := 61) (q := 5) (kin := 0) (v := .int (nI (v))) rfl (fun _ _ _ => rfl) rfl rfl ?_
            have := sdW_5 hWf (y := b9) (show v < nvW w by omega) (show i9 < ntW w by omega)
            refine wn_virI (pc' := 64) rfl rfl (by decide) rfl rfl v3_h4 (Nat.le_of_ble_eq_true rfl) (x_variantAt _ _ ls w hWf V_h4 i9 b9 v (by omega) (by omega) (by omega) Rd_h4.1) ?_
            refine wn_icmpN (t := 76) (f := 67) rfl rfl rfl (by omega) (by omega) (fun c9 => ?_) (fun c9 => ?_)
            · have c9 : (sdW w a9 v i9) = (sdW w b9 v i9) := c9
              refine wn_incN (n := 1) (pc' := 79) (lv' := [(0, .ref (0)), (1, .int (nI (i9))), (2, .int (nI (a9))), (3, .int (nI (b9))), (4, .int (bitP (fun x7 => ¬ (sdW w a9 x7 i9 = sdW w b9 x7 i9)) v)), (5, .int (nI (v + 1)))]) rfl rfl rfl (Nat.le_of_ble_eq_true rfl) rfl (by decide) ?_
              refine wn_jp (pc' := 27) rfl rfl ?_
              refine wn_weak (lv' := [(0, .ref (0)), (1, .int (nI (i9))), (2, .int (nI (a9))), (3, .int (nI (b9))), (4, .int (bitP (fun x7 => ¬ (sdW w a9 x7 i9 = sdW w b9 x7 i9)) v)), (5, .int (nI (v + 1)))]) (by simp) ?_
              have z9 := ih_lp7 (v + 1) (by omega) (by omega)
              rw [show (bitP (fun x7 => ¬ (sdW w a9 x7 i9 = sdW w b9 x7 i9)) (v + 1)) = (bitP (fun x7 => ¬ (sdW w a9 x7 i9 = sdW w b9 x7 i9)) v) from (by exact bitP_f (p := fun x7 => ¬ (sdW w a9 x7 i9 = sdW w b9 x7 i9)) (fun q9 => q9 c9))] at z9
              exact z9
            · have c9 : ¬ (sdW w a9 v i9) = (sdW w b9 v i9) := c9
              refine wn_ld (pc' := 69) (q := 4) (kin := 0) (v := .int (bitP (fun x7 => ¬ (sdW w a9 x7 i9 = sdW w b9 x7 i9)) v)) rfl (fun _ _ _ => rfl) rfl rfl ?_
              refine wn_ic (pc' := 70) (w := nI 1) rfl rfl (by decide) ?_
              refine wn_ld (pc' := 72) (q := 5) (kin := 0) (v := .int (nI (v))) rfl (fun _ _ _ => rfl) rfl rfl ?_
              refine wn_pu (pc' := 73) (st' := [.int ((nI (1)) <<< ((nI (v)) &&& 31)), .int (bitP (fun x7 => ¬ (sdW w a9 x7 i9 = sdW w b9 x7 i9)) v)]) rfl (fun _ _ _ => rfl) rfl rfl ?_
              refine wn_pu (pc' := 74) (st' := [.int ((bitP (fun x7 => ¬ (sdW w a9 x7 i9 = sdW w b9 x7 i9)) v) ||| ((nI (1)) <<< ((nI (v)) &&& 31)))]) rfl (fun _ _ _ => rfl) rfl rfl ?_
              refine wn_st (pc' := 76) (q := 4) (kin := 0) (lv' := [(0, .ref (0)), (1, .int (nI (i9))), (2, .int (nI (a9))), (3, .int (nI (b9))), (4, .int ((bitP (fun x7 => ¬ (sdW w a9 x7 i9 = sdW w b9 x7 i9)) v) ||| ((nI (1)) <<< ((nI (v)) &&& 31)))), (5, .int (nI (v)))]) rfl (fun _ _ _ => rfl) rfl (Nat.le_of_ble_eq_true rfl) rfl ?_
              refine wn_incN (n := 1) (pc' := 79) (lv' := [(0, .ref (0)), (1, .int (nI (i9))), (2, .int (nI (a9))), (3, .int (nI (b9))), (4, .int ((bitP (fun x7 => ¬ (sdW w a9 x7 i9 = sdW w b9 x7 i9)) v) ||| ((nI (1)) <<< ((nI (v)) &&& 31)))), (5, .int (nI (v + 1)))]) rfl rfl rfl (Nat.le_of_ble_eq_true rfl) rfl (by decide) ?_
              refine wn_jp (pc' := 27) rfl rfl ?_
              refine wn_weak (lv' := [(0, .ref (0)), (1, .int (nI (i9))), (2, .int (nI (a9))), (3, .int (nI (b9))), (4, .int ((bitP (fun x7 => ¬ (sdW w a9 x7 i9 = sdW w b9 x7 i9)) v) ||| ((nI (1)) <<< ((nI (v)) &&& 31)))), (5, .int (nI (v + 1)))]) (by simp) ?_
              have z9 := ih_lp7 (v + 1) (by omega) (by omega)
              rw [show (bitP (fun x7 => ¬ (sdW w a9 x7 i9 = sdW w b9 x7 i9)) (v + 1)) = ((bitP (fun x7 => ¬ (sdW w a9 x7 i9 = sdW w b9 x7 i9)) v) ||| ((nI (1)) <<< ((nI (v)) &&& 31))) from (by exact bitP_t (p := fun x7 => ¬ (sdW w a9 x7 i9 = sdW w b9 x7 i9)) c9)] at z9
              exact z9
      refine wn_weak (lv' := [(0, .ref (0)), (1, .int (nI (i9))), (2, .int (nI (a9))), (3, .int (nI (b9))), (4, .int (nI (0))), (5, .int (nI (0)))]) (by simp) ?_
      have z9 := lp7 ((nvW w) + 1) 0 (by omega) (by omega)
      rw [show (bitP (fun x7 => ¬ (sdW w a9 x7 i9 = sdW w b9 x7 i9)) 0) = (nI (0)) from (by rfl)] at z9
      exact z9
    · have c6 : ¬ (iin (nI (i9)) (ntW w) ∧ iin b 61) := c6
      refine wn_bp (pc' := 20) (w := -2) rfl rfl (by decide) ?_
      try simp only [Int32.lt_iff_toInt_lt, Int32.le_iff_toInt_le, i2l_int, Int32.toInt_zero, iin] at c3
      try simp only [Int32.lt_iff_toInt_lt, Int32.le_iff_toInt_le, i2l_int, Int32.toInt_zero, iin] at c6
      refine wn_iret rfl rfl rfl ⟨congrArg (fun z => some (Value.int z)) ?_, (RY.rx RY_h4 R0.2.2.2)⟩
      unfold movedA
      rw [qI_f (by simp only [iin]; omega)]

theorem case_12 (i : Int32) (a : Int32) (b : Int32) : CaseI Rp 83 194 [.int i, .int a, .int b] := case_q (fun h ls w hWf V R => ⟨_, x_moved 693 h ls w hWf V R i a b, fun h1 HQ => m_moved 691 h1 w hWf HQ i a b⟩)
theorem x_still (d : Nat) (h : aH) (ls : Nat) (w : Nat → Int32) (hWf : WfW w) (V : XV h ls w) (R0 : RX h h ls w) (i : Int32) : Sp (Rn (d + 7)) 84 [.ref (0), .int (i)] h (fun r9 h9 => r9 = some (.int (stillA w i)) ∧ RX h h9 ls w) := by
  obtain ⟨⟨e1, e2⟩, ⟨e3, e4⟩, ⟨e5, e6⟩⟩ := Wf_n hWf
  obtain ⟨⟨e7, e8⟩, ⟨e9, e10⟩⟩ := Wf_m hWf
  obtain ⟨v0, ⟨x9, v1⟩, ⟨v2, ⟨sz, rf, rt, rv, ag, vr, sd, tl, l0, l1, l2, l3, l4, l5, l6, l7, l8, g1, g2, g3, g4, g5⟩, ⟨sec, it, fi, se, sg, lst, rs, rp, pj, pk, pv, k0, k1, k2, k3, k4, k5, k6, k7, k8, k9, k10, k11, k12, k13⟩, ⟨hv, hc, y0, y1, y2, y3, y4⟩, ⟨an, wk, n0, n1, n2, n3, n4⟩⟩, v3⟩ := id V
  rw [e1, e3, e5] at l0
  rw [e7, e9] at k1
  refine Sp_of (by decide) (Nat.le_of_ble_eq_true rfl) ?_
  show Wn _ _ 0 [(0, .ref (0)), (1, .int (i))] [] _ _
  refine wn_ld (pc' := 1) (q := 0) (kin := 2) (v := .ref (0)) rfl (fun _ _ _ => rfl) rfl rfl ?_
  refine wn_ld (pc' := 2) (q := 1) (kin := 0) (v := .int (i)) rfl (fun _ _ _ => rfl) rfl rfl ?_
  refine wn_bp (pc' := 4) (w := nI 60) rfl rfl (by decide) ?_
  refine wn_virS (pc' := 7) rfl rfl (by decide) rfl rfl v1 (Nat.le_of_ble_eq_true rfl) (x_reachesItem _ _ ls w hWf V R0.2.2.1 i (nI (60))) (fun r9 h1 e2 => ?_)
  obtain ⟨rfl, R_h1, Rc_h1⟩ := e2
  have RY_h1 := RY.tr (RY.rfl' R0.2.2.1) R_h1
  have V_h1 := RY_h1.xv V
  obtain ⟨v0_h1, ⟨x9_h1, v1_h1⟩, ⟨v2_h1, ⟨sz_h1, rf_h1, rt_h1, rv_h1, ag_h1, vr_h1, sd_h1, tl_h1, l0_h1, l1_h1, l2_h1, l3_h1, l4_h1, l5_h1, l6_h1, l7_h1, l8_h1, g1_h1, g2_h1, g3_h1, g4_h1, g5_h1⟩, ⟨sec_h1, it_h1, fi_h1, se_h1, sg_h1, lst_h1, rs_h1, rp_h1, pj_h1, pk_h1, pv_h1, k0_h1, k1_h1, k2_h1, k3_h1, k4_h1, k5_h1, k6_h1, k7_h1, k8_h1, k9_h1, k10_h1, k11_h1, k12_h1, k13_h1⟩, ⟨hv_h1, hc_h1, y0_h1, y1_h1, y2_h1, y3_h1, y4_h1⟩, ⟨an_h1, wk_h1, n0_h1, n1_h1, n2_h1, n3_h1, n4_h1⟩⟩, v3_h1⟩ := id V_h1
  rw [e1, e3, e5] at l0_h1
  rw [e7, e9] at k1_h1
  show Wn _ _ 7 _ [.int (bI (iin i (ntW w) ∧ iin (nI (60)) 61))] h1 _
  refine wn_ifneB (t := 13) (f := 10) rfl rfl rfl (fun c3 => ?_) (fun c3 => ?_)
  · have c3 : (iin i (ntW w) ∧ iin (nI (60)) 61) := c3
    obtain ⟨i9, hi9, rfl⟩ := iin_of c3.1
    have ti_i := nI_toInt (n := i9) (show i9 < 2 ^ 31 by omega)
    have cl_i := nI_clamp (n := i9) (show i9 < 2 ^ 31 by omega)
    have Rd_h1 : Rch h1 w i9 60 ∧ StR h1 w i9 60 := by have q := Rc_h1 c3; rw [cl_i, nI_clamp (by decide)] at q; exact q
    obtain ⟨stq, rq, st1, st2, st3, st4⟩ := Rd_h1.2
    obtain rfl : rq = 60 := by omega
    refine wn_ld (pc' := 14) (q := 0) (kin := 2) (v := .ref (0)) rfl (fun _ _ _ => rfl) rfl rfl ?_
    refine wn_get (pc' := 17) (v := .ref (52)) rfl rfl v1_h1 rfl ?_
    refine wn_get (pc' := 20) (v := .ref (54)) rfl rfl v3_h1 rfl ?_
    refine wn_ld (pc' := 21) (q := 1) (kin := 0) (v := .int (nI (i9))) rfl (fun _ _ _ => rfl) rfl rfl ?_
    refine wn_ialdv (pc' := 22) (j := i9) (v := (nI (stW w i9 60))) rfl rfl st1 rfl (by omega) (by decide) (st4) ?_
    have en60 : (nI 60).toInt = 60 := by decide
    try simp only [Int32.lt_iff_toInt_lt, Int32.le_iff_toInt_le, i2l_int, Int32.toInt_zero, iin] at c3
    refine wn_iret rfl rfl rfl ⟨congrArg (fun z => some (Value.int z)) ?_, (RY.rx RY_h1 R0.2.2.2)⟩
    unfold stillA
    rw [qI_t (by simp only [iin]; omega)]
    first | rfl | (simp only [cl_i]; done) | (simp only [cl_i]; rfl)
  · have c3 : ¬ (iin i (ntW w) ∧ iin (nI (60)) 61) := c3
    refine wn_bp (pc' := 12) (w := -2) rfl rfl (by decide) ?_
    have en60 : (nI 60).toInt = 60 := by decide
    try simp only [Int32.lt_iff_toInt_lt, Int32.le_iff_toInt_le, i2l_int, Int32.toInt_zero, iin] at c3
    refine wn_iret rfl rfl rfl ⟨congrArg (fun z => some (Value.int z)) ?_, (RY.rx RY_h1 R0.2.2.2)⟩
    unfold stillA
    rw [qI_f (by simp only [iin]; omega)]

theorem case_13 (i : Int32) : CaseI Rp 84 195 [.int i] := case_q (fun h ls w hWf V R => ⟨_, x_still 693 h ls w hWf V R i, fun h1 HQ => m_still 692 h1 w hWf HQ i⟩)
theorem x_ways (d : Nat) (h : aH) (n k : Nat) (hn : n ≤ 40) (hk : k ≤ 100) : Rn (d + 1) 86 [.int (nI (n)), .int (nI (k))] h (some (.long (lN (chs n k)))) h 0 0 := by
  refine Rn_of (by decide) (Nat.le_of_ble_eq_true rfl) ?_
  show Wn _ _ 0 [(0, .int (nI (n))), (1, .int (nI (k)))] [] _ _
  refine wn_ld (pc' := 1) (q := 1) (kin := 0) (v := .int (nI (k))) rfl (fun _ _ _ => rfl) rfl rfl ?_
  refine wn_ifN (t := 9) (f := 4) rfl rfl rfl (by omega) (fun c1 => ?_) (fun c1 => ?_)
  · have c1 : k < 0 := c1
    refine wn_pu (pc' := 10) (st' := .long (lN 0) :: []) rfl (fun _ _ _ => rfl) rfl rfl ?_
    refine wn_lret rfl rfl ⟨congrArg (fun z => some (Value.long z)) ?_, rfl⟩
    rw [chs_gt n k (by omega)]
  · have c1 : 0 ≤ k := c1
    refine wn_ld (pc' := 5) (q := 1) (kin := 0) (v := .int (nI (k))) rfl (fun _ _ _ => rfl) rfl rfl ?_
    refine wn_ld (pc' := 6) (q := 0) (kin := 0) (v := .int (nI (n))) rfl (fun _ _ _ => rfl) rfl rfl ?_
    refine wn_icmpN (t := 11) (f := 9) rfl rfl rfl (by omega) (by omega) (fun c2 => ?_) (fun c2 => ?_)
    · have c2 : k ≤ n := c2
      refine wn_pu (pc' := 12) (st' := .long (lN 1) :: []) rfl (fun _ _ _ => rfl) rfl rfl ?_
      refine wn_st (pc' := 13) (q := 2) (kin := 1) (lv' := [(0, .int (nI (n))), (1, .int (nI (k))), (2, .long (lN 1))]) rfl (fun _ _ _ => rfl) rfl (Nat.le_of_ble_eq_true rfl) rfl ?_
      refine wn_ic (pc' := 14) (w := nI 0) rfl rfl (by decide) ?_
      refine wn_st (pc' := 16) (q := 4) (kin := 0) (lv' := [(0, .int (nI (n))), (1, .int (nI (k))), (2, .long (lN 1)), (4, .int (nI (0)))]) rfl (fun _ _ _ => rfl) rfl (Nat.le_of_ble_eq_true rfl) rfl ?_
      have lp3 : ∀ (n_lp3 : Nat) (i : Nat), k + 1 ≤ i + n_lp3 → i ≤ k → Wn (Rn (d + 0)) 86 16 [(0, .int (nI (n))), (1, .int (nI (k))), (2, .long (lN (chs n i))), (4, .int (nI (i)))] [] (h) (fun r9 h9 => r9 = (some (.long (lN (chs n k)))) ∧ h9 = h) := by
        intro n_lp3
        induction n_lp3 with
        | zero => intro i hm_lp3 hi; exfalso; omega
        | succ n_lp3 ih_lp3 =>
          intro i hm_lp3 hi
          refine wn_ld (pc' := 18) (q := 4) (kin := 0) (v := .int (nI (i))) rfl (fun _ _ _ => rfl) rfl rfl ?_
          refine wn_ld (pc' := 19) (q := 1) (kin := 0) (v := .int (nI (k))) rfl (fun _ _ _ => rfl) rfl rfl ?_
          refine wn_icmpN (t := 42) (f := 22) rfl rfl rfl (by omega) (by omega) (fun c4 => ?_) (fun c4 => ?_)
          · have c4 : k ≤ i := c4
            refine wn_ld (pc' := 43) (q := 2) (kin := 1) (v := .long (lN (chs n i))) rfl (fun _ _ _ => rfl) rfl rfl ?_
            refine wn_lret rfl rfl ⟨congrArg (fun z => some (Value.long z)) ?_, rfl⟩
            obtain rfl : i = k := by omega
            rfl
          · have c4 : i < k := c4
            refine wn_ld (pc' := 23) (q := 2) (kin := 1) (v := .long (lN (chs n i))) rfl (fun _ _ _ => rfl) rfl rfl ?_
            refine wn_ld (pc' := 24) (q := 0) (kin := 0) (v := .int (nI (n))) rfl (fun _ _ _ => rfl) rfl rfl ?_
            refine wn_ld (pc' := 26) (q := 4) (kin := 0) (v := .int (nI (i))) rfl (fun _ _ _ => rfl) rfl rfl ?_
            refine wn_subN (pc' := 27) rfl rfl (by omega) ?_
            refine wn_i2lN (pc' := 28) rfl rfl (by omega) ?_
            refine wn_lmulN (pc' := 29) rfl rfl ?_
            refine wn_ld (pc' := 31) (q := 4) (kin := 0) (v := .int (nI (i))) rfl (fun _ _ _ => rfl) rfl rfl ?_
            refine wn_ic (pc' := 32) (w := nI 1) rfl rfl (by decide) ?_
            refine wn_addN (pc' := 33) rfl rfl ?_
            refine wn_i2lN (pc' := 34) rfl rfl (by omega) ?_
            refine wn_ldivN (pc' := 35) rfl rfl (Nat.lt_of_le_of_lt (chs_mb i (by omega) (by omega)) (by decide)) (by omega) (by omega) ?_
            refine wn_st (pc' := 36) (q := 2) (kin := 1) (lv' := [(0, .int (nI (n))), (1, .int (nI (k))), (2, .long (lN (((((chs n i)) * ((n - i)))) / ((i + 1))))), (4, .int (nI (i)))]) rfl (fun _ _ _ => rfl) rfl (Nat.le_of_ble_eq_true rfl) rfl ?_
            refine wn_incN (n := 1) (pc' := 39) (lv' := [(0, .int (nI (n))), (1, .int (nI (k))), (2, .long (lN (((((chs n i)) * ((n - i)))) / ((i + 1))))), (4, .int (nI (i + 1)))]) rfl rfl rfl (Nat.le_of_ble_eq_true rfl) rfl (by decide) ?_
            refine wn_jp (pc' := 16) rfl rfl ?_
            refine wn_weak (lv' := [(0, .int (nI (n))), (1, .int (nI (k))), (2, .long (lN (((((chs n i)) * ((n - i)))) / ((i + 1))))), (4, .int (nI (i + 1)))]) (by simp) ?_
            have z9 := ih_lp3 (i + 1) (by omega) (by omega)
            rw [show (lN (chs n (i + 1))) = (lN (((((chs n i)) * ((n - i)))) / ((i + 1)))) from (by rw [chs_q1])] at z9
            exact z9
      refine wn_weak (lv' := [(0, .int (nI (n))), (1, .int (nI (k))), (2, .long (lN 1)), (4, .int (nI (0)))]) (by simp) ?_
      have z9 := lp3 (k + 1) 0 (by omega) (by omega)
      rw [show (lN (chs n 0)) = (lN 1) from (by rw [chs_0])] at z9
      exact z9
    · have c2 : n < k := c2
      refine wn_pu (pc' := 10) (st' := .long (lN 0) :: []) rfl (fun _ _ _ => rfl) rfl rfl ?_
      refine wn_lret rfl rfl ⟨congrArg (fun z => some (Value.long z)) ?_, rfl⟩
      rw [chs_gt n k (by omega)]

theorem x_river (d : Nat) (h : aH) (ls : Nat) (w : Nat → Int32) (hWf : WfW w) (V : XV h ls w) (R0 : RX h h ls w) (i y t : Int32) : Sp (Rn (d + 7)) 85 [.ref (0), .int (i), .int (y), .int (t)] h (fun r9 h9 => r9 = some (.long (riverA w i y t)) ∧ RX h h9 ls w) := by
  obtain ⟨⟨e1, e2⟩, ⟨e3, e4⟩, ⟨e5, e6⟩⟩ := Wf_n hWf
  obtain ⟨⟨e7, e8⟩, ⟨e9, e10⟩⟩ := Wf_m hWf
  obtain ⟨v0, ⟨x9, v1⟩, ⟨v2, ⟨sz, rf, rt, rv, ag, vr, sd, tl, l0, l1, l2, l3, l4, l5, l6, l7, l8, g1, g2, g3, g4, g5⟩, ⟨sec, it, fi, se, sg, lst, rs, rp, pj, pk, pv, k0, k1, k2, k3, k4, k5, k6, k7, k8, k9, k10, k11, k12, k13⟩, ⟨hv, hc, y0, y1, y2, y3, y4⟩, ⟨an, wk, n0, n1, n2, n3, n4⟩⟩, v3⟩ := id V
  rw [e1, e3, e5] at l0
  rw [e7, e9] at k1
  refine Sp_of (by decide) (Nat.le_of_ble_eq_true rfl) ?_
  show Wn _ _ 0 [(0, .ref (0)), (1, .int (i)), (2, .int (y)), (3, .int (t))] [] _ _
  refine wn_ld (pc' := 1) (q := 3) (kin := 0) (v := .int (t)) rfl (fun _ _ _ => rfl) rfl rfl ?_
  refine wn_ifc (t := 18) (f := 4) rfl rfl rfl (fun c1 => ?_) (fun c1 => ?_)
  · have c1 : ((t)) < 0 := c1
    refine wn_go (pc' := 21) (lv' := [(0, .ref (0)), (1, .int (i)), (2, .int (y)), (3, .int (t))]) (st' := [.long ((-2 : Int64))]) rfl (fun _ _ _ k9 => k9) ?_
    try simp only [Int32.lt_iff_toInt_lt, Int32.le_iff_toInt_le, i2l_int, Int32.toInt_zero, iin] at c1
    refine wn_lret rfl rfl ⟨congrArg (fun z => some (Value.long z)) ?_, (RY.rx (RY.rfl' R0.2.2.1) R0.2.2.2)⟩
    unfold riverA
    rw [qL_f (by simp only [iin]; omega)]
  · have c1 : 0 ≤ ((t)) := c1
    refine wn_ld (pc' := 5) (q := 3) (kin := 0) (v := .int (t)) rfl (fun _ _ _ => rfl) rfl rfl ?_
    refine wn_ic (pc' := 6) (w := nI 2) rfl rfl (by decide) ?_
    refine wn_icmp (t := 18) (f := 9) rfl rfl rfl (fun c2 => ?_) (fun c2 => ?_)
    · have c2 : ((nI (2))) < ((t)) := c2
      refine wn_go (pc' := 21) (lv' := [(0, .ref (0)), (1, .int (i)), (2, .int (y)), (3, .int (t))]) (st' := [.long ((-2 : Int64))]) rfl (fun _ _ _ k9 => k9) ?_
      have en2 : (nI 2).toInt = 2 := by decide
      try simp only [Int32.lt_iff_toInt_lt, Int32.le_iff_toInt_le, i2l_int, Int32.toInt_zero, iin] at c1
      try simp only [Int32.lt_iff_toInt_lt, Int32.le_iff_toInt_le, i2l_int, Int32.toInt_zero, iin] at c2
      refine wn_lret rfl rfl ⟨congrArg (fun z => some (Value.long z)) ?_, (RY.rx (RY.rfl' R0.2.2.1) R0.2.2.2)⟩
      unfold riverA
      rw [qL_f (by simp only [iin]; omega)]
    · have c2 : ((t)) ≤ ((nI (2))) := c2
      refine wn_ld (pc' := 10) (q := 0) (kin := 2) (v := .ref (0)) rfl (fun _ _ _ => rfl) rfl rfl ?_
      refine wn_ld (pc' := 11) (q := 1) (kin := 0) (v := .int (i)) rfl (fun _ _ _ => rfl) rfl rfl ?_
      refine wn_ld (pc' := 12) (q := 2) (kin := 0) (v := .int (y)) rfl (fun _ _ _ => rfl) rfl rfl ?_
      refine wn_virS (pc' := 15) rfl rfl (by decide) rfl rfl v1 (Nat.le_of_ble_eq_true rfl) (x_reachesItem _ _ ls w hWf V R0.2.2.1 i y) (fun r9 h3 e4 => ?_)
      obtain ⟨rfl, R_h3, Rc_h3⟩ := e4
      have RY_h3 := RY.tr (RY.rfl' R0.2.2.1) R_h3
      have V_h3 := RY_h3.xv V
      obtain ⟨v0_h3, ⟨x9_h3, v1_h3⟩, ⟨v2_h3, ⟨sz_h3, rf_h3, rt_h3, rv_h3, ag_h3, vr_h3, sd_h3, tl_h3, l0_h3, l1_h3, l2_h3, l3_h3, l4_h3, l5_h3, l6_h3, l7_h3, l8_h3, g1_h3, g2_h3, g3_h3, g4_h3, g5_h3⟩, ⟨sec_h3, it_h3, fi_h3, se_h3, sg_h3, lst_h3, rs_h3, rp_h3, pj_h3, pk_h3, pv_h3, k0_h3, k1_h3, k2_h3, k3_h3, k4_h3, k5_h3, k6_h3, k7_h3, k8_h3, k9_h3, k10_h3, k11_h3, k12_h3, k13_h3⟩, ⟨hv_h3, hc_h3, y0_h3, y1_h3, y2_h3, y3_h3, y4_h3⟩, ⟨an_h3, wk_h3, n0_h3, n1_h3, n2_h3, n3_h3, n4_h3⟩⟩, v3_h3⟩ := id V_h3
      rw [e1, e3, e5] at l0_h3
      rw [e7, e9] at k1_h3
      show Wn _ _ 15 _ [.int (bI (iin i (ntW w) ∧ iin y 61))] h3 _
      refine wn_ifneB (t := 22) (f := 18) rfl rfl rfl (fun c5 => ?_) (fun c5 => ?_)
      · have c5 : (iin i (ntW w) ∧ iin y 61) := c5
        obtain ⟨i9, hi9, rfl⟩ := iin_of c5.1
        have ti_i := nI_toInt (n := i9) (show i9 < 2 ^ 31 by omega)
        have cl_i := nI_clamp (n := i9) (show i9 < 2 ^ 31 by omega)
        obtain ⟨y9, hy9, rfl⟩ := iin_of c5.2
        have ti_y := nI_toInt (n := y9) (show y9 < 2 ^ 31 by omega)
        have cl_y := nI_clamp (n := y9) (show y9 < 2 ^ 31 by omega)
        have Rd_h3 : Rch h3 w i9 y9 ∧ StR h3 w i9 y9 := by have q := Rc_h3 c5; rw [cl_i, cl_y] at q; exact q
        refine wn_ld (pc' := 23) (q := 0) (kin := 2) (v := .ref (0)) rfl (fun _ _ _ => rfl) rfl rfl ?_
        refine wn_ld (pc' := 24) (q := 1) (kin := 0) (v := .int (nI (i9))) rfl (fun _ _ _ => rfl) rfl rfl ?_
        refine wn_ld (pc' := 25) (q := 2) (kin := 0) (v := .int (nI (y9))) rfl (fun _ _ _ => rfl) rfl rfl ?_
        refine wn_ic (pc' := 26) (w := nI 1) rfl rfl (by decide) ?_
        have b3 : boN w i9 y9 ≤ lnN w i9 y9 := cntP_im _ (fun k _ q => q.1)
        have b4 : boN w i9 y9 ≤ nrW w := cntP_le _ _
        refine wn_virI (pc' := 29) rfl rfl (by decide) rfl rfl v1_h3 (Nat.le_of_ble_eq_true rfl) (x_countLines1 _ _ ls w hWf V_h3 i9 y9 (by omega) (by omega) Rd_h3.1) ?_
        show Wn _ _ _ _ (.int (nI (boN w i9 y9)) :: _) _ _
        refine wn_st (pc' := 31) (q := 4) (kin := 0) (lv' := [(0, .ref (0)), (1, .int (nI (i9))), (2, .int (nI (y9))), (3, .int (t)), (4, .int (nI (boN w i9 y9)))]) rfl (fun _ _ _ => rfl) rfl (Nat.le_of_ble_eq_true rfl) rfl ?_
        refine wn_ld (pc' := 32) (q := 3) (kin := 0) (v := .int (t)) rfl (fun _ _ _ => rfl) rfl rfl ?_
        refine wn_ifc (t := 39) (f := 35) rfl rfl rfl (fun c6 => ?_) (fun c6 => ?_)
        · have c6 : ¬ ((t)) = 0 := c6
          refine wn_ld (pc' := 40) (q := 0) (kin := 2) (v := .ref (0)) rfl (fun _ _ _ => rfl) rfl rfl ?_
          refine wn_ld (pc' := 41) (q := 1) (kin := 0) (v := .int (nI (i9))) rfl (fun _ _ _ => rfl) rfl rfl ?_
          refine wn_ld (pc' := 42) (q := 2) (kin := 0) (v := .int (nI (y9))) rfl (fun _ _ _ => rfl) rfl rfl ?_
          refine wn_ic (pc' := 43) (w := nI 0) rfl rfl (by decide) ?_
          have b2 : lnN w i9 y9 ≤ nrW w := cntP_le _ _
          have b3 : boN w i9 y9 ≤ lnN w i9 y9 := cntP_im _ (fun k _ q => q.1)
          have b4 : boN w i9 y9 ≤ nrW w := cntP_le _ _
          refine wn_virI (pc' := 46) rfl rfl (by decide) rfl rfl v1_h3 (Nat.le_of_ble_eq_true rfl) (x_countLines0 _ _ ls w hWf V_h3 i9 y9 (by omega) (by omega) Rd_h3.1) ?_
          show Wn _ _ _ _ (.int (nI (lnN w i9 y9)) :: _) _ _
          refine wn_st (pc' := 48) (q := 5) (kin := 0) (lv' := [(0, .ref (0)), (1, .int (nI (i9))), (2, .int (nI (y9))), (3, .int (t)), (4, .int (nI (boN w i9 y9))), (5, .int (nI (lnN w i9 y9)))]) rfl (fun _ _ _ => rfl) rfl (Nat.le_of_ble_eq_true rfl) rfl ?_
          refine wn_ld (pc' := 49) (q := 0) (kin := 2) (v := .ref (0)) rfl (fun _ _ _ => rfl) rfl rfl ?_
          refine wn_get (pc' := 52) (v := .ref (23)) rfl rfl v1_h3 rfl ?_
          refine wn_get (pc' := 55) (v := .ref (ls)) rfl rfl v2_h3 rfl ?_
          refine wn_get (pc' := 58) (v := .int (nI (nrW w))) rfl rfl l0_h3 rfl ?_
          refine wn_st (pc' := 60) (q := 6) (kin := 0) (lv' := [(0, .ref (0)), (1, .int (nI (i9))), (2, .int (nI (y9))), (3, .int (t)), (4, .int (nI (boN w i9 y9))), (5, .int (nI (lnN w i9 y9))), (6, .int (nI (nrW w)))]) rfl (fun _ _ _ => rfl) rfl (Nat.le_of_ble_eq_true rfl) rfl ?_
          refine wn_ld (pc' := 61) (q := 3) (kin := 0) (v := .int (t)) rfl (fun _ _ _ => rfl) rfl rfl ?_
          refine wn_ic (pc' := 62) (w := nI 2) rfl rfl (by decide) ?_
          refine wn_icmp (t := 73) (f := 65) rfl rfl rfl (fun c7 => ?_) (fun c7 => ?_)
          · have c7 : ¬ ((t)) = ((nI (2))) := c7
            refine wn_ld (pc' := 74) (q := 0) (kin := 2) (v := .ref (0)) rfl (fun _ _ _ => rfl) rfl rfl ?_
            refine wn_get (pc' := 77) (v := .ref (23)) rfl rfl v1_h3 rfl ?_
            refine wn_get (pc' := 80) (v := .ref (ls)) rfl rfl v2_h3 rfl ?_
            have b1 : rvW w ≤ nrW w := cntP_le _ _
            refine wn_virI (pc' := 83) rfl rfl (by decide) rfl rfl l0_h3 (Nat.le_of_ble_eq_true rfl) (x_countRivers _ _ ls w hWf V_h3) ?_
            show Wn _ _ _ _ (.int (nI (rvW w)) :: _) _ _
            refine wn_st (pc' := 85) (q := 7) (kin := 0) (lv' := [(0, .ref (0)), (1, .int (nI (i9))), (2, .int (nI (y9))), (3, .int (t)), (4, .int (nI (boN w i9 y9))), (5, .int (nI (lnN w i9 y9))), (6, .int (nI (nrW w))), (7, .int (nI (rvW w)))]) rfl (fun _ _ _ => rfl) rfl (Nat.le_of_ble_eq_true rfl) rfl ?_
            refine wn_pu (pc' := 86) (st' := .long (lN 0) :: []) rfl (fun _ _ _ => rfl) rfl rfl ?_
            refine wn_st (pc' := 88) (q := 8) (kin := 1) (lv' := [(0, .ref (0)), (1, .int (nI (i9))), (2, .int (nI (y9))), (3, .int (t)), (4, .int (nI (boN w i9 y9))), (5, .int (nI (lnN w i9 y9))), (6, .int (nI (nrW w))), (7, .int (nI (rvW w))), (8, .long (lN 0))]) rfl (fun _ _ _ => rfl) rfl (Nat.le_of_ble_eq_true rfl) rfl ?_
            refine wn_ld (pc' := 90) (q := 4) (kin := 0) (v := .int (nI (boN w i9 y9))) rfl (fun _ _ _ => rfl) rfl rfl ?_
            refine wn_st (pc' := 92) (q := 10) (kin := 0) (lv' := [(0, .ref (0)), (1, .int (nI (i9))), (2, .int (nI (y9))), (3, .int (t)), (4, .int (nI (boN w i9 y9))), (5, .int (nI (lnN w i9 y9))), (6, .int (nI (nrW w))), (7, .int (nI (rvW w))), (8, .long (lN 0)), (10, .int (nI (boN w i9 y9)))]) rfl (fun _ _ _ => rfl) rfl (Nat.le_of_ble_eq_true rfl) rfl ?_
            have lp8 : ∀ (n_lp8 : Nat) (k : Nat), (lnN w i9 y9 + 1) + 1 ≤ (boN w i9 y9 + k) + n_lp8 → boN w i9 y9 + k ≤ lnN w i9 y9 + 1 → Wn (Rn (d + 6)) 85 92 [(0, .ref (0)), (1, .int (nI (i9))), (2, .int (nI (y9))), (3, .int (t)), (4, .int (nI (boN w i9 y9))), (5, .int (nI (lnN w i9 y9))), (6, .int (nI (nrW w))), (7, .int (nI (rvW w))), (8, .long (lN (rvS (rvW w) (nrW w) (lnN w i9 y9) (boN w i9 y9) k))), (10, .int (nI (boN w i9 y9 + k)))] [] (h3) (fun r9 h9 => r9 = some (.long (riverA w (nI i9) (nI y9) t)) ∧ RX h h9 ls w) := by
              intro n_lp8
              induction n_lp8 with
              | zero => intro k hm_lp8 hk; exfalso; omega
              | succ n_lp8 ih_lp8 =>
                intro k hm_lp8 hk
                refine wn_ld (pc' := 94) (q := 10) (kin := 0) (v := .int (nI (boN w i9 y9 + k))) rfl (fun _ _ _ => rfl) rfl rfl ?_
                refine wn_ld (pc' := 96) (q := 5) (kin := 0) (v := .int (nI (lnN w i9 y9))) rfl (fun _ _ _ => rfl) rfl rfl ?_
                refine wn_icmpN (t := 138) (f := 99) rfl rfl rfl (by omega) (by omega) (fun c9 => ?_) (fun c9 => ?_)
                · have c9 : (lnN w i9 y9) < (boN w i9 y9 + k) := c9
                  refine wn_ld (pc' := 140) (q := 8) (kin := 1) (v := .long (lN (rvS (rvW w) (nrW w) (lnN w i9 y9) (boN w i9 y9) k))) rfl (fun _ _ _ => rfl) rfl rfl ?_
                  have en2 : (nI 2).toInt = 2 := by decide
                  try simp only [Int32.lt_iff_toInt_lt, Int32.le_iff_toInt_le, i2l_int, Int32.toInt_zero, iin] at c1
                  try simp only [Int32.lt_iff_toInt_lt, Int32.le_iff_toInt_le, i2l_int, Int32.toInt_zero, iin] at c2
                  try simp only [Int32.lt_iff_toInt_lt, Int32.le_iff_toInt_le, i2l_int, Int32.toInt_zero, iin] at c5
                  try have c6i : ¬ _ := fun q => c6 (Int32.toInt_inj.mp q)
                  try have c7i : ¬ _ := fun q => c7 (Int32.toInt_inj.mp q)
                  try simp only [Int32.lt_iff_toInt_lt, Int32.le_iff_toInt_le, i2l_int, Int32.toInt_zero, iin] at c7
                  try simp only [Int32.lt_iff_toInt_lt, Int32.le_iff_toInt_le, i2l_int, Int32.toInt_zero, iin] at c9
                  refine wn_lret rfl rfl ⟨congrArg (fun z => some (Value.long z)) ?_, (RY.rx RY_h3 R0.2.2.2)⟩
                  unfold riverA
                  rw [qL_t ⟨by simp only [iin]; omega, by simp only [iin]; omega, by simp only [iin]; omega⟩]
                  simp only [cl_i, cl_y]
                  rw [if_neg c6, if_neg c7]
                  rw [show k = lnN w i9 y9 + 1 - boN w i9 y9 by omega]
                · have c9 : (boN w i9 y9 + k) ≤ (lnN w i9 y9) := c9
                  refine wn_ld (pc' := 101) (q := 10) (kin := 0) (v := .int (nI (boN w i9 y9 + k))) rfl (fun _ _ _ => rfl) rfl rfl ?_
                  refine wn_ld (pc' := 103) (q := 7) (kin := 0) (v := .int (nI (rvW w))) rfl (fun _ _ _ => rfl) rfl rfl ?_
                  refine wn_icmpN (t := 138) (f := 106) rfl rfl rfl (by omega) (by omega) (fun c10 => ?_) (fun c10 => ?_)
                  · have c10 : (rvW w) < (boN w i9 y9 + k) := c10
                    refine wn_ld (pc' := 140) (q := 8) (kin := 1) (v := .long (lN (rvS (rvW w) (nrW w) (lnN w i9 y9) (boN w i9 y9) k))) rfl (fun _ _ _ => rfl) rfl rfl ?_
                    have en2 : (nI 2).toInt = 2 := by decide
                    try simp only [Int32.lt_iff_toInt_lt, Int32.le_iff_toInt_le, i2l_int, Int32.toInt_zero, iin] at c1
                    try simp only [Int32.lt_iff_toInt_lt, Int32.le_iff_toInt_le, i2l_int, Int32.toInt_zero, iin] at c2
                    try simp only [Int32.lt_iff_toInt_lt, Int32.le_iff_toInt_le, i2l_int, Int32.toInt_zero, iin] at c5
                    try have c6i : ¬ _ := fun q => c6 (Int32.toInt_inj.mp q)
                    try have c7i : ¬ _ := fun q => c7 (Int32.toInt_inj.mp q)
                    try simp only [Int32.lt_iff_toInt_lt, Int32.le_iff_toInt_le, i2l_int, Int32.toInt_zero, iin] at c7
                    try simp only [Int32.lt_iff_toInt_lt, Int32.le_iff_toInt_le, i2l_int, Int32.toInt_zero, iin] at c9
                    try simp only [Int32.lt_iff_toInt_lt, Int32.le_iff_toInt_le, i2l_int, Int32.toInt_zero, iin] at c10
                    refine wn_lret rfl rfl ⟨congrArg (fun z => some (Value.long z)) ?_, (RY.rx RY_h3 R0.2.2.2)⟩
                    unfold riverA
                    rw [qL_t ⟨by simp only [iin]; omega, by simp only [iin]; omega, by simp only [iin]; omega⟩]
                    simp only [cl_i, cl_y]
                    rw [if_neg c6, if_neg c7]
                    rw [show lnN w i9 y9 + 1 - boN w i9 y9 = k + (lnN w i9 y9 + 1 - boN w i9 y9 - k) by omega, rvS_z (by omega)]
                  · have c10 : (boN w i9 y9 + k) ≤ (rvW w) := c10
                    refine wn_ld (pc' := 108) (q := 8) (kin := 1) (v := .long (lN (rvS (rvW w) (nrW w) (lnN w i9 y9) (boN w i9 y9) k))) rfl (fun _ _ _ => rfl) rfl rfl ?_
                    refine wn_ld (pc' := 110) (q := 7) (kin := 0) (v := .int (nI (rvW w))) rfl (fun _ _ _ => rfl) rfl rfl ?_
                    refine wn_ld (pc' := 112) (q := 10) (kin := 0) (v := .int (nI (boN w i9 y9 + k))) rfl (fun _ _ _ => rfl) rfl rfl ?_
                    refine wn_staL (pc' := 115) rfl rfl (by decide) rfl rfl (Nat.le_of_ble_eq_true rfl) (x_ways _ _ (rvW w) (boN w i9 y9 + k) (by omega) (by omega)) ?_
                    refine wn_ld (pc' := 117) (q := 6) (kin := 0) (v := .int (nI (nrW w))) rfl (fun _ _ _ => rfl) rfl rfl ?_
                    refine wn_ld (pc' := 119) (q := 7) (kin := 0) (v := .int (nI (rvW w))) rfl (fun _ _ _ => rfl) rfl rfl ?_
                    refine wn_subN (pc' := 120) rfl rfl (by omega) ?_
                    refine wn_ld (pc' := 122) (q := 5) (kin := 0) (v := .int (nI (lnN w i9 y9))) rfl (fun _ _ _ => rfl) rfl rfl ?_
                    refine wn_ld (pc' := 124) (q := 10) (kin := 0) (v := .int (nI (boN w i9 y9 + k))) rfl (fun _ _ _ => rfl) rfl rfl ?_
                    refine wn_subN (pc' := 125) rfl rfl (by omega) ?_
                    refine wn_staL (pc' := 128) rfl rfl (by decide) rfl rfl (Nat.le_of_ble_eq_true rfl) (x_ways _ _ ((nrW w) - (rvW w)) ((lnN w i9 y9) - (boN w i9 y9 + k)) (by omega) (by omega)) ?_
                    refine wn_lmulN (pc' := 129) rfl rfl ?_
                    refine wn_laddN (pc' := 130) rfl rfl ?_
                    refine wn_st (pc' := 132) (q := 8) (kin := 1) (lv' := [(0, .ref (0)), (1, .int (nI (i9))), (2, .int (nI (y9))), (3, .int (t)), (4, .int (nI (boN w i9 y9))), (5, .int (nI (lnN w i9 y9))), (6, .int (nI (nrW w))), (7, .int (nI (rvW w))), (8, .long (lN (((rvS (rvW w) (nrW w) (lnN w i9 y9) (boN w i9 y9) k)) + ((((chs (rvW w) (boN w i9 y9 + k))) * ((chs ((nrW w) - (rvW w)) ((lnN w i9 y9) - (boN w i9 y9 + k))))))))), (10, .int (nI (boN w i9 y9 + k)))]) rfl (fun _ _ _ => rfl) rfl (Nat.le_of_ble_eq_true rfl) rfl ?_
                    refine wn_incN (n := 1) (pc' := 135) (lv' := [(0, .ref (0)), (1, .int (nI (i9))), (2, .int (nI (y9))), (3, .int (t)), (4, .int (nI (boN w i9 y9))), (5, .int (nI (lnN w i9 y9))), (6, .int (nI (nrW w))), (7, .int (nI (rvW w))), (8, .long (lN (((rvS (rvW w) (nrW w) (lnN w i9 y9) (boN w i9 y9) k)) + ((((chs (rvW w) (boN w i9 y9 + k))) * ((chs ((nrW w) - (rvW w)) ((lnN w i9 y9) - (boN w i9 y9 + k))))))))), (10, .int (nI (boN w i9 y9 + k + 1)))]) rfl rfl rfl (Nat.le_of_ble_eq_true rfl) rfl (by decide) ?_
                    refine wn_jp (pc' := 92) rfl rfl ?_
                    refine wn_weak (lv' := [(0, .ref (0)), (1, .int (nI (i9))), (2, .int (nI (y9))), (3, .int (t)), (4, .int (nI (boN w i9 y9))), (5, .int (nI (lnN w i9 y9))), (6, .int (nI (nrW w))), (7, .int (nI (rvW w))), (8, .long (lN (((rvS (rvW w) (nrW w) (lnN w i9 y9) (boN w i9 y9) k)) + ((((chs (rvW w) (boN w i9 y9 + k))) * ((chs ((nrW w) - (rvW w)) ((lnN w i9 y9) - (boN w i9 y9 + k))))))))), (10, .int (nI (boN w i9 y9 + k + 1)))]) (by simp) ?_
                    have z9 := ih_lp8 (k + 1) (by omega) (by omega)
                    rw [show (lN (rvS (rvW w) (nrW w) (lnN w i9 y9) (boN w i9 y9) (k + 1))) = (lN (((rvS (rvW w) (nrW w) (lnN w i9 y9) (boN w i9 y9) k)) + ((((chs (rvW w) (boN w i9 y9 + k))) * ((chs ((nrW w) - (rvW w)) ((lnN w i9 y9) - (boN w i9 y9 + k)))))))) from (by rfl)] at z9
                    rw [show (nI (boN w i9 y9 + (k + 1))) = (nI (boN w i9 y9 + k + 1)) from (by rfl)] at z9
                    exact z9
            refine wn_weak (lv' := [(0, .ref (0)), (1, .int (nI (i9))), (2, .int (nI (y9))), (3, .int (t)), (4, .int (nI (boN w i9 y9))), (5, .int (nI (lnN w i9 y9))), (6, .int (nI (nrW w))), (7, .int (nI (rvW w))), (8, .long (lN 0)), (10, .int (nI (boN w i9 y9)))]) (by simp) ?_
            have z9 := lp8 ((lnN w i9 y9 + 1) + 1) 0 (by omega) (by omega)
            rw [show (lN (rvS (rvW w) (nrW w) (lnN w i9 y9) (boN w i9 y9) 0)) = (lN 0) from (by rfl)] at z9
            rw [show (nI (boN w i9 y9 + 0)) = (nI (boN w i9 y9)) from (by rfl)] at z9
            exact z9
          · have c7 : ((t)) = ((nI (2))) := c7
            refine wn_ld (pc' := 67) (q := 6) (kin := 0) (v := .int (nI (nrW w))) rfl (fun _ _ _ => rfl) rfl rfl ?_
            refine wn_ld (pc' := 69) (q := 5) (kin := 0) (v := .int (nI (lnN w i9 y9))) rfl (fun _ _ _ => rfl) rfl rfl ?_
            refine wn_staL (pc' := 72) rfl rfl (by decide) rfl rfl (Nat.le_of_ble_eq_true rfl) (x_ways _ _ (nrW w) (lnN w i9 y9) (by omega) (by omega)) ?_
            have en2 : (nI 2).toInt = 2 := by decide
            try simp only [Int32.lt_iff_toInt_lt, Int32.le_iff_toInt_le, i2l_int, Int32.toInt_zero, iin] at c1
            try simp only [Int32.lt_iff_toInt_lt, Int32.le_iff_toInt_le, i2l_int, Int32.toInt_zero, iin] at c2
            try simp only [Int32.lt_iff_toInt_lt, Int32.le_iff_toInt_le, i2l_int, Int32.toInt_zero, iin] at c5
            try have c6i : ¬ _ := fun q => c6 (Int32.toInt_inj.mp q)
            try have c7i := congrArg Int32.toInt c7
            try simp only [Int32.lt_iff_toInt_lt, Int32.le_iff_toInt_le, i2l_int, Int32.toInt_zero, iin] at c7
            refine wn_lret rfl rfl ⟨congrArg (fun z => some (Value.long z)) ?_, (RY.rx RY_h3 R0.2.2.2)⟩
            unfold riverA
            rw [qL_t ⟨by simp only [iin]; omega, by simp only [iin]; omega, by simp only [iin]; omega⟩]
            simp only [cl_i, cl_y]
            rw [if_neg c6, if_pos c7]
        · have c6 : ((t)) = 0 := c6
          refine wn_ld (pc' := 37) (q := 4) (kin := 0) (v := .int (nI (boN w i9 y9))) rfl (fun _ _ _ => rfl) rfl rfl ?_
          refine wn_i2lN (pc' := 38) rfl rfl (by omega) ?_
          have en2 : (nI 2).toInt = 2 := by decide
          try simp only [Int32.lt_iff_toInt_lt, Int32.le_iff_toInt_le, i2l_int, Int32.toInt_zero, iin] at c1
          try simp only [Int32.lt_iff_toInt_lt, Int32.le_iff_toInt_le, i2l_int, Int32.toInt_zero, iin] at c2
          try simp only [Int32.lt_iff_toInt_lt, Int32.le_iff_toInt_le, i2l_int, Int32.toInt_zero, iin] at c5
          try have c6i := congrArg Int32.toInt c6
          refine wn_lret rfl rfl ⟨congrArg (fun z => some (Value.long z)) ?_, (RY.rx RY_h3 R0.2.2.2)⟩
          unfold riverA
          rw [qL_t ⟨by simp only [iin]; omega, by simp only [iin]; omega, by simp only [iin]; omega⟩]
          simp only [cl_i, cl_y]
          rw [if_pos c6]
      · have c5 : ¬ (iin i (ntW w) ∧ iin y 61) := c5
        refine wn_go (pc' := 21) (lv' := [(0, .ref (0)), (1, .int (i)), (2, .int (y)), (3, .int (t))]) (st' := [.long ((-2 : Int64))]) rfl (fun _ _ _ k9 => k9) ?_
        have en2 : (nI 2).toInt = 2 := by decide
        try simp only [Int32.lt_iff_toInt_lt, Int32.le_iff_toInt_le, i2l_int, Int32.toInt_zero, iin] at c1
        try simp only [Int32.lt_iff_toInt_lt, Int32.le_iff_toInt_le, i2l_int, Int32.toInt_zero, iin] at c2
        try simp only [Int32.lt_iff_toInt_lt, Int32.le_iff_toInt_le, i2l_int, Int32.toInt_zero, iin] at c5
        refine wn_lret rfl rfl ⟨congrArg (fun z => some (Value.long z)) ?_, (RY.rx RY_h3 R0.2.2.2)⟩
        unfold riverA
        rw [qL_f (by simp only [iin]; omega)]

theorem case_14 (i : Int32) (y : Int32) (t : Int32) : CaseL Rp 85 197 [.int i, .int y, .int t] := case_qL (fun h ls w hWf V R => ⟨_, x_river 693 h ls w hWf V R i y t, fun h1 HQ => m_river 690 h1 w hWf HQ i y t⟩)
