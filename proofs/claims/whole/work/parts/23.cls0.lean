/-! the class: its small methods that only look -/
theorem Wf_m {w : Nat → Int32} (hWf : WfW w) : (w 4 = nI (nlW w) ∧ nlW w ≤ 20) ∧ (w 5 = nI (npW w) ∧ npW w ≤ 240) := hWf.1.2.2.2.2
theorem wf_sz {w : Nat → Int32} (hWf : WfW w) {v : Nat} (hv : v < nvW w) : w (8 + 2 * v) = nI (szW w v) := by
  obtain ⟨⟨n, h1, h2, h3⟩, _⟩ := hWf.2.1 v hv
  unfold szW
  rw [h3, nI_clamp (by omega)]
theorem wf_szb {w : Nat → Int32} (hWf : WfW w) {v : Nat} (hv : v < nvW w) : 1 ≤ szW w v ∧ szW w v ≤ 99 := by
  obtain ⟨⟨n, h1, h2, h3⟩, _⟩ := hWf.2.1 v hv
  unfold szW
  rw [h3, nI_clamp (by omega)]
  exact ⟨h1, h2⟩
theorem wf_rda {w : Nat → Int32} (hWf : WfW w) {r : Nat} (hr : r < nrW w) : w (56 + 3 * r) = nI (rdA w r) := (hWf.2.2.1 r hr).1.1
theorem wf_rdB {w : Nat → Int32} (hWf : WfW w) {r : Nat} (hr : r < nrW w) : w (57 + 3 * r) = nI (rdB w r) := (hWf.2.2.1 r hr).2.1.1
theorem wf_rdb {w : Nat → Int32} (hWf : WfW w) {r : Nat} (hr : r < nrW w) : rdA w r < nvW w ∧ rdB w r < nvW w ∧ rdA w r ≠ rdB w r ∧ nvW w ≤ 24 := ⟨(hWf.2.2.1 r hr).1.2, (hWf.2.2.1 r hr).2.1.2, (hWf.2.2.1 r hr).2.2.1, hWf.1.2.1.2⟩
theorem bI_01 {x : Int32} (h : b01 x) : x = bI (x = 1) := by
  rcases h with rfl | rfl
  · exact (bI_f (by decide)).symm
  · exact (bI_t rfl).symm
theorem wf_rv {w : Nat → Int32} (hWf : WfW w) {r : Nat} (hr : r < nrW w) : w (58 + 3 * r) = bI (w (58 + 3 * r) = 1) := bI_01 (hWf.2.2.1 r hr).2.2.2
def agW (w : Nat → Int32) (r : Nat) : Prop := ∃ r', r' < r ∧ ((rdA w r' = rdA w r ∧ rdB w r' = rdB w r) ∨ (rdA w r' = rdB w r ∧ rdB w r' = rdA w r))
theorem wf_va {w : Nat → Int32} (hWf : WfW w) {i : Nat} (hi : i < ntW w) : w (176 + 4 * i) = nI (vaW w i) := (hWf.2.2.2.1 i hi).1.1
theorem wf_vab {w : Nat → Int32} (hWf : WfW w) {i : Nat} (hi : i < ntW w) : 2 ≤ vaW w i ∧ vaW w i ≤ 5 := (hWf.2.2.2.1 i hi).1.2
theorem wf_lw {w : Nat → Int32} (hWf : WfW w) {l : Nat} (hl : l < nlW w) : w (456 + 6 * l) = nI (lwI w l) := by
  obtain ⟨sec, h⟩ := hWf.2.2.2.2.2.1
  exact (h l hl).1.1
def nsW (w : Nat → Int32) (p : Nat) : Nat := (w (1476 + p)).toNatClampNeg
theorem wf_ns {w : Nat → Int32} (hWf : WfW w) {p : Nat} (hp : p < 1200) : w (1476 + p) = nI (nsW w p) := by
  obtain ⟨a, h1, h2⟩ := hWf.2.2.2.2.1.2 p hp
  unfold nsW
  rw [h2, nI_clamp (by omega)]
theorem wf_nsb {w : Nat → Int32} (hWf : WfW w) {p : Nat} (hp : p < 1200) : nsW w p ≤ 9 := by
  obtain ⟨a, h1, h2⟩ := hWf.2.2.2.2.1.2 p hp
  unfold nsW
  rw [h2, nI_clamp (by omega)]
  exact h1
theorem iin_c {x : Int32} {n : Nat} (h0 : ¬ x < 0) (h1 : x < nI n) (hn : n < 2 ^ 31) : iin x n := by
  have a := Int32.lt_iff_toInt_lt.mp h1
  rw [nI_toInt hn] at a
  have b : ¬ x.toInt < 0 := fun q => h0 (Int32.lt_iff_toInt_lt.mpr q)
  exact ⟨by omega, a⟩
theorem iin_n {x : Int32} {n : Nat} (h1 : nI n ≤ x) (hn : n < 2 ^ 31) : ¬ iin x n := by
  have a := Int32.le_iff_toInt_le.mp h1
  rw [nI_toInt hn] at a
  exact fun q => by have := q.2; omega
theorem iin_0 {x : Int32} {n : Nat} (h1 : x < 0) : ¬ iin x n := by
  have a := Int32.lt_iff_toInt_lt.mp h1
  exact fun q => by have := q.1; have e : (0 : Int32).toInt = 0 := by decide
                    omega
theorem iin_p {x : Int32} {n : Nat} (h0 : 0 ≤ x) (h1 : x < nI n) (hn : n < 2 ^ 31) : iin x n := iin_c (Int32.not_lt.mpr h0) h1 hn
theorem iin_q {x : Int32} {n : Nat} (h0 : 0 ≤ x) (h1 : x ≤ nI n) (hn : n < 2 ^ 30) : iin x (n + 1) := by
  have a := Int32.le_iff_toInt_le.mp h1
  rw [nI_toInt (by omega)] at a
  have b := Int32.le_iff_toInt_le.mp h0
  have e : (0 : Int32).toInt = 0 := by decide
  exact ⟨by omega, by omega⟩
theorem iin_r {x : Int32} {n : Nat} (h1 : nI n < x) (hn : n < 2 ^ 31) : ¬ iin x (n + 1) := by
  have a := Int32.lt_iff_toInt_lt.mp h1
  rw [nI_toInt hn] at a
  exact fun q => by have := q.2; omega

theorem x_hasVillage (d : Nat) (h : aH) (ls : Nat) (w : Nat → Int32) (hWf : WfW w) (V : XV h ls w) (v : Int32) : Rn (d + 1) 133 [.ref (0), .int (v)] h (some (.int (bI (iin v (nvW w))))) h 0 0 := by
  obtain ⟨⟨e1, e2⟩, ⟨e3, e4⟩, ⟨e5, e6⟩⟩ := Wf_n hWf
  obtain ⟨⟨e7, e8⟩, ⟨e9, e10⟩⟩ := Wf_m hWf
  obtain ⟨v0, ⟨x9, v1⟩, ⟨v2, ⟨sz, rf, rt, rv, ag, vr, sd, tl, l0, l1, l2, l3, l4, l5, l6, l7, l8, g1, g2, g3, g4, g5⟩, ⟨sec, it, fi, se, sg, lst, rs, rp, pj, pk, pv, k0, k1, k2, k3, k4, k5, k6, k7, k8, k9, k10, k11, k12, k13⟩, ⟨hv, hc, y0, y1, y2, y3, y4⟩, ⟨an, wk, n0, n1, n2, n3, n4⟩⟩, v3⟩ := id V
  rw [e1, e3, e5] at l0
  rw [e7, e9] at k1
  refine Rn_of (by decide) (Nat.le_of_ble_eq_true rfl) ?_
  show Wn _ _ 0 [(0, .ref (0)), (1, .int (v))] [] _ _
  refine wn_ld (pc' := 1) (q := 1) (kin := 0) (v := .int (v)) rfl (fun _ _ _ => rfl) rfl rfl ?_
  refine wn_ifc (t := 22) (f := 4) rfl rfl rfl (fun c1 => ?_) (fun c1 => ?_)
  · have c1 : ((v)) < 0 := c1
    refine wn_ic (pc' := 23) (w := nI 0) rfl rfl (by decide) ?_
    refine wn_iret rfl rfl (by decide) ⟨?_, rfl⟩
    exact congrArg (fun z => some (Value.int z)) (bI_f0 (iin_0 c1))
  · have c1 : 0 ≤ ((v)) := c1
    refine wn_ld (pc' := 5) (q := 1) (kin := 0) (v := .int (v)) rfl (fun _ _ _ => rfl) rfl rfl ?_
    refine wn_ld (pc' := 6) (q := 0) (kin := 2) (v := .ref (0)) rfl (fun _ _ _ => rfl) rfl rfl ?_
    refine wn_get (pc' := 9) (v := .ref (23)) rfl rfl v1 rfl ?_
    refine wn_get (pc' := 12) (v := .ref (ls)) rfl rfl v2 rfl ?_
    refine wn_get (pc' := 15) (v := .int (nI (nvW w))) rfl rfl l0 rfl ?_
    refine wn_icmp (t := 22) (f := 18) rfl rfl rfl (fun c2 => ?_) (fun c2 => ?_)
    · have c2 : ((nI (nvW w))) ≤ ((v)) := c2
      refine wn_ic (pc' := 23) (w := nI 0) rfl rfl (by decide) ?_
      refine wn_iret rfl rfl (by decide) ⟨?_, rfl⟩
      exact congrArg (fun z => some (Value.int z)) (bI_f0 (iin_n c2 (by omega)))
    · have c2 : ((v)) < ((nI (nvW w))) := c2
      refine wn_ic (pc' := 19) (w := nI 1) rfl rfl (by decide) ?_
      refine wn_jp (pc' := 23) rfl rfl ?_
      refine wn_iret rfl rfl (by decide) ⟨?_, rfl⟩
      exact congrArg (fun z => some (Value.int z)) (bI_t1 (iin_p c1 c2 (by omega)))

theorem x_hasItem (d : Nat) (h : aH) (ls : Nat) (w : Nat → Int32) (hWf : WfW w) (V : XV h ls w) (v : Int32) : Rn (d + 1) 134 [.ref (0), .int (v)] h (some (.int (bI (iin v (ntW w))))) h 0 0 := by
  obtain ⟨⟨e1, e2⟩, ⟨e3, e4⟩, ⟨e5, e6⟩⟩ := Wf_n hWf
  obtain ⟨⟨e7, e8⟩, ⟨e9, e10⟩⟩ := Wf_m hWf
  obtain ⟨v0, ⟨x9, v1⟩, ⟨v2, ⟨sz, rf, rt, rv, ag, vr, sd, tl, l0, l1, l2, l3, l4, l5, l6, l7, l8, g1, g2, g3, g4, g5⟩, ⟨sec, it, fi, se, sg, lst, rs, rp, pj, pk, pv, k0, k1, k2, k3, k4, k5, k6, k7, k8, k9, k10, k11, k12, k13⟩, ⟨hv, hc, y0, y1, y2, y3, y4⟩, ⟨an, wk, n0, n1, n2, n3, n4⟩⟩, v3⟩ := id V
  rw [e1, e3, e5] at l0
  rw [e7, e9] at k1
  refine Rn_of (by decide) (Nat.le_of_ble_eq_true rfl) ?_
  show Wn _ _ 0 [(0, .ref (0)), (1, .int (v))] [] _ _
  refine wn_ld (pc' := 1) (q := 1) (kin := 0) (v := .int (v)) rfl (fun _ _ _ => rfl) rfl rfl ?_
  refine wn_ifc (t := 22) (f := 4) rfl rfl rfl (fun c1 => ?_) (fun c1 => ?_)
  · have c1 : ((v)) < 0 := c1
    refine wn_ic (pc' := 23) (w := nI 0) rfl rfl (by decide) ?_
    refine wn_iret rfl rfl (by decide) ⟨?_, rfl⟩
    exact congrArg (fun z => some (Value.int z)) (bI_f0 (iin_0 c1))
  · have c1 : 0 ≤ ((v)) := c1
    refine wn_ld (pc' := 5) (q := 1) (kin := 0) (v := .int (v)) rfl (fun _ _ _ => rfl) rfl rfl ?_
    refine wn_ld (pc' := 6) (q := 0) (kin := 2) (v := .ref (0)) rfl (fun _ _ _ => rfl) rfl rfl ?_
    refine wn_get (pc' := 9) (v := .ref (23)) rfl rfl v1 rfl ?_
    refine wn_get (pc' := 12) (v := .ref (ls)) rfl rfl v2 rfl ?_
    refine wn_get (pc' := 15) (v := .int (nI (ntW w))) rfl rfl l0 rfl ?_
    refine wn_icmp (t := 22) (f := 18) rfl rfl rfl (fun c2 => ?_) (fun c2 => ?_)
    · have c2 : ((nI (ntW w))) ≤ ((v)) := c2
      refine wn_ic (pc' := 23) (w := nI 0) rfl rfl (by decide) ?_
      refine wn_iret rfl rfl (by decide) ⟨?_, rfl⟩
      exact congrArg (fun z => some (Value.int z)) (bI_f0 (iin_n c2 (by omega)))
    · have c2 : ((v)) < ((nI (ntW w))) := c2
      refine wn_ic (pc' := 19) (w := nI 1) rfl rfl (by decide) ?_
      refine wn_jp (pc' := 23) rfl rfl ?_
      refine wn_iret rfl rfl (by decide) ⟨?_, rfl⟩
      exact congrArg (fun z => some (Value.int z)) (bI_t1 (iin_p c1 c2 (by omega)))

theorem x_isYear (d : Nat) (h : aH) (v : Int32) : Rn (d + 1) 136 [.int (v)] h (some (.int (bI (iin v 61)))) h 0 0 := by
  refine Rn_of (by decide) (Nat.le_of_ble_eq_true rfl) ?_
  show Wn _ _ 0 [(0, .int (v))] [] _ _
  refine wn_ld (pc' := 1) (q := 0) (kin := 0) (v := .int (v)) rfl (fun _ _ _ => rfl) rfl rfl ?_
  refine wn_ifc (t := 14) (f := 4) rfl rfl rfl (fun c1 => ?_) (fun c1 => ?_)
  · have c1 : ((v)) < 0 := c1
    refine wn_ic (pc' := 15) (w := nI 0) rfl rfl (by decide) ?_
    refine wn_iret rfl rfl (by decide) ⟨?_, rfl⟩
    exact congrArg (fun z => some (Value.int z)) (bI_f0 (iin_0 c1))
  · have c1 : 0 ≤ ((v)) := c1
    refine wn_ld (pc' := 5) (q := 0) (kin := 0) (v := .int (v)) rfl (fun _ _ _ => rfl) rfl rfl ?_
    refine wn_bp (pc' := 7) (w := nI 60) rfl rfl (by decide) ?_
    refine wn_icmp (t := 14) (f := 10) rfl rfl rfl (fun c2 => ?_) (fun c2 => ?_)
    · have c2 : ((nI (60))) < ((v)) := c2
      refine wn_ic (pc' := 15) (w := nI 0) rfl rfl (by decide) ?_
      refine wn_iret rfl rfl (by decide) ⟨?_, rfl⟩
      exact congrArg (fun z => some (Value.int z)) (bI_f0 (iin_r c2 (by omega)))
    · have c2 : ((v)) ≤ ((nI (60))) := c2
      refine wn_ic (pc' := 11) (w := nI 1) rfl rfl (by decide) ?_
      refine wn_jp (pc' := 15) rfl rfl ?_
      refine wn_iret rfl rfl (by decide) ⟨?_, rfl⟩
      exact congrArg (fun z => some (Value.int z)) (bI_t1 (iin_q c1 c2 (by omega)))

theorem x_isAsker (d : Nat) (h : aH) (v : Int32) : Rn (d + 1) 137 [.int (v)] h (some (.int (bI (iin v 6)))) h 0 0 := by
  refine Rn_of (by decide) (Nat.le_of_ble_eq_true rfl) ?_
  show Wn _ _ 0 [(0, .int (v))] [] _ _
  refine wn_ld (pc' := 1) (q := 0) (kin := 0) (v := .int (v)) rfl (fun _ _ _ => rfl) rfl rfl ?_
  refine wn_ifc (t := 14) (f := 4) rfl rfl rfl (fun c1 => ?_) (fun c1 => ?_)
  · have c1 : ((v)) < 0 := c1
    refine wn_ic (pc' := 15) (w := nI 0) rfl rfl (by decide) ?_
    refine wn_iret rfl rfl (by decide) ⟨?_, rfl⟩
    exact congrArg (fun z => some (Value.int z)) (bI_f0 (iin_0 c1))
  · have c1 : 0 ≤ ((v)) := c1
    refine wn_ld (pc' := 5) (q := 0) (kin := 0) (v := .int (v)) rfl (fun _ _ _ => rfl) rfl rfl ?_
    refine wn_bp (pc' := 7) (w := nI 6) rfl rfl (by decide) ?_
    refine wn_icmp (t := 14) (f := 10) rfl rfl rfl (fun c2 => ?_) (fun c2 => ?_)
    · have c2 : ((nI (6))) ≤ ((v)) := c2
      refine wn_ic (pc' := 15) (w := nI 0) rfl rfl (by decide) ?_
      refine wn_iret rfl rfl (by decide) ⟨?_, rfl⟩
      exact congrArg (fun z => some (Value.int z)) (bI_f0 (iin_n c2 (by omega)))
    · have c2 : ((v)) < ((nI (6))) := c2
      refine wn_ic (pc' := 11) (w := nI 1) rfl rfl (by decide) ?_
      refine wn_jp (pc' := 15) rfl rfl ?_
      refine wn_iret rfl rfl (by decide) ⟨?_, rfl⟩
      exact congrArg (fun z => some (Value.int z)) (bI_t1 (iin_p c1 c2 (by omega)))

theorem x_isSlot (d : Nat) (h : aH) (v : Int32) : Rn (d + 1) 138 [.int (v)] h (some (.int (bI (iin v 4)))) h 0 0 := by
  refine Rn_of (by decide) (Nat.le_of_ble_eq_true rfl) ?_
  show Wn _ _ 0 [(0, .int (v))] [] _ _
  refine wn_ld (pc' := 1) (q := 0) (kin := 0) (v := .int (v)) rfl (fun _ _ _ => rfl) rfl rfl ?_
  refine wn_ifc (t := 13) (f := 4) rfl rfl rfl (fun c1 => ?_) (fun c1 => ?_)
  · have c1 : ((v)) < 0 := c1
    refine wn_ic (pc' := 14) (w := nI 0) rfl rfl (by decide) ?_
    refine wn_iret rfl rfl (by decide) ⟨?_, rfl⟩
    exact congrArg (fun z => some (Value.int z)) (bI_f0 (iin_0 c1))
  · have c1 : 0 ≤ ((v)) := c1
    refine wn_ld (pc' := 5) (q := 0) (kin := 0) (v := .int (v)) rfl (fun _ _ _ => rfl) rfl rfl ?_
    refine wn_ic (pc' := 6) (w := nI 4) rfl rfl (by decide) ?_
    refine wn_icmp (t := 13) (f := 9) rfl rfl rfl (fun c2 => ?_) (fun c2 => ?_)
    · have c2 : ((nI (4))) ≤ ((v)) := c2
      refine wn_ic (pc' := 14) (w := nI 0) rfl rfl (by decide) ?_
      refine wn_iret rfl rfl (by decide) ⟨?_, rfl⟩
      exact congrArg (fun z => some (Value.int z)) (bI_f0 (iin_n c2 (by omega)))
    · have c2 : ((v)) < ((nI (4))) := c2
      refine wn_ic (pc' := 10) (w := nI 1) rfl rfl (by decide) ?_
      refine wn_jp (pc' := 14) rfl rfl ?_
      refine wn_iret rfl rfl (by decide) ⟨?_, rfl⟩
      exact congrArg (fun z => some (Value.int z)) (bI_t1 (iin_p c1 c2 (by omega)))

theorem x_hasVariant (d : Nat) (h : aH) (ls : Nat) (w : Nat → Int32) (hWf : WfW w) (V : XV h ls w) (v a : Int32) : Rn (d + 2) 135 [.ref (0), .int (v), .int (a)] h (some (.int (bI (iin v (ntW w) ∧ iin a (vaW w v.toNatClampNeg))))) h 0 0 := by
  obtain ⟨⟨e1, e2⟩, ⟨e3, e4⟩, ⟨e5, e6⟩⟩ := Wf_n hWf
  obtain ⟨⟨e7, e8⟩, ⟨e9, e10⟩⟩ := Wf_m hWf
  obtain ⟨v0, ⟨x9, v1⟩, ⟨v2, ⟨sz, rf, rt, rv, ag, vr, sd, tl, l0, l1, l2, l3, l4, l5, l6, l7, l8, g1, g2, g3, g4, g5⟩, ⟨sec, it, fi, se, sg, lst, rs, rp, pj, pk, pv, k0, k1, k2, k3, k4, k5, k6, k7, k8, k9, k10, k11, k12, k13⟩, ⟨hv, hc, y0, y1, y2, y3, y4⟩, ⟨an, wk, n0, n1, n2, n3, n4⟩⟩, v3⟩ := id V
  rw [e1, e3, e5] at l0
  rw [e7, e9] at k1
  refine Rn_of (by decide) (Nat.le_of_ble_eq_true rfl) ?_
  show Wn _ _ 0 [(0, .ref (0)), (1, .int (v)), (2, .int (a))] [] _ _
  refine wn_ld (pc' := 1) (q := 0) (kin := 2) (v := .ref (0)) rfl (fun _ _ _ => rfl) rfl rfl ?_
  refine wn_ld (pc' := 2) (q := 1) (kin := 0) (v := .int (v)) rfl (fun _ _ _ => rfl) rfl rfl ?_
  refine wn_virI (pc' := 5) rfl rfl (by decide) rfl rfl v1 (Nat.le_of_ble_eq_true rfl) (x_hasItem _ _ ls w hWf V _) ?_
  refine wn_ifeqB (t := 32) (f := 8) rfl rfl rfl (fun c1 => ?_) (fun c1 => ?_)
  · have c1 : ¬ (iin v (ntW w)) := c1
    refine wn_ic (pc' := 33) (w := nI 0) rfl rfl (by decide) ?_
    refine wn_iret rfl rfl (by decide) ⟨?_, rfl⟩
    exact congrArg (fun z => some (Value.int z)) (bI_f0 (fun q => c1 q.1))
  · have c1 : (iin v (ntW w)) := c1
    obtain ⟨v9, hv9, rfl⟩ := iin_of c1
    refine wn_ld (pc' := 9) (q := 2) (kin := 0) (v := .int (a)) rfl (fun _ _ _ => rfl) rfl rfl ?_
    refine wn_ifc (t := 32) (f := 12) rfl rfl rfl (fun c2 => ?_) (fun c2 => ?_)
    · have c2 : ((a)) < 0 := c2
      refine wn_ic (pc' := 33) (w := nI 0) rfl rfl (by decide) ?_
      refine wn_iret rfl rfl (by decide) ⟨?_, rfl⟩
      exact congrArg (fun z => some (Value.int z)) (bI_f0 (fun q => iin_0 c2 q.2))
    · have c2 : 0 ≤ ((a)) := c2
      refine wn_ld (pc' := 13) (q := 2) (kin := 0) (v := .int (a)) rfl (fun _ _ _ => rfl) rfl rfl ?_
      refine wn_ld (pc' := 14) (q := 0) (kin := 2) (v := .ref (0)) rfl (fun _ _ _ => rfl) rfl rfl ?_
      refine wn_get (pc' := 17) (v := .ref (23)) rfl rfl v1 rfl ?_
      refine wn_get (pc' := 20) (v := .ref (ls)) rfl rfl v2 rfl ?_
      refine wn_get (pc' := 23) (v := .ref (ls + 6)) rfl rfl l0 rfl ?_
      refine wn_ld (pc' := 24) (q := 1) (kin := 0) (v := .int (nI (v9))) rfl (fun _ _ _ => rfl) rfl rfl ?_
      have := wf_vab hWf (show v9 < ntW w by omega)
      refine wn_ialdv (pc' := 25) (j := v9) (v := (nI (vaW w v9))) rfl rfl l6 rfl (by omega) (by decide) ((g4 v9 (by omega)).1.trans (wf_va hWf (by omega))) ?_
      refine wn_icmp (t := 32) (f := 28) rfl rfl rfl (fun c3 => ?_) (fun c3 => ?_)
      · have c3 : ((nI (vaW w v9))) ≤ ((a)) := c3
        refine wn_ic (pc' := 33) (w := nI 0) rfl rfl (by decide) ?_
        refine wn_iret rfl rfl (by decide) ⟨?_, rfl⟩
        exact congrArg (fun z => some (Value.int z)) (bI_f0 (fun q => iin_n c3 (by omega) (by have q2 := q.2; rw [nI_clamp (show v9 < 2 ^ 31 by omega)] at q2; exact q2)))
      · have c3 : ((a)) < ((nI (vaW w v9))) := c3
        refine wn_ic (pc' := 29) (w := nI 1) rfl rfl (by decide) ?_
        refine wn_jp (pc' := 33) rfl rfl ?_
        refine wn_iret rfl rfl (by decide) ⟨?_, rfl⟩
        exact congrArg (fun z => some (Value.int z)) (bI_t1 ⟨c1, by rw [nI_clamp (show v9 < 2 ^ 31 by omega)]; exact iin_p c2 c3 (by omega)⟩)

theorem x_place (d : Nat) (h : aH) (v i a : Nat) : Rn (d + 1) 19 [.int (nI (v)), .int (nI (i)), .int (nI (a))] h (some (.int (nI ((v * 10 + i) * 5 + a)))) h 0 0 := by
  refine Rn_of (by decide) (Nat.le_of_ble_eq_true rfl) ?_
  show Wn _ _ 0 [(0, .int (nI (v))), (1, .int (nI (i))), (2, .int (nI (a)))] [] _ _
  refine wn_ld (pc' := 1) (q := 0) (kin := 0) (v := .int (nI (v))) rfl (fun _ _ _ => rfl) rfl rfl ?_
  refine wn_bp (pc' := 3) (w := nI 10) rfl rfl (by decide) ?_
  refine wn_mulN (pc' := 4) rfl rfl ?_
  refine wn_ld (pc' := 5) (q := 1) (kin := 0) (v := .int (nI (i))) rfl (fun _ _ _ => rfl) rfl rfl ?_
  refine wn_addN (pc' := 6) rfl rfl ?_
  refine wn_ic (pc' := 7) (w := nI 5) rfl rfl (by decide) ?_
  refine wn_mulN (pc' := 8) rfl rfl ?_
  refine wn_ld (pc' := 9) (q := 2) (kin := 0) (v := .int (nI (a))) rfl (fun _ _ _ => rfl) rfl rfl ?_
  refine wn_addN (pc' := 10) rfl rfl ?_
  refine wn_iret rfl rfl rfl ⟨?_, rfl⟩
  exact congrArg (fun z => some (Value.int z)) (rfl)

theorem x_placeOf (d : Nat) (h : aH) (i y : Nat) : Rn (d + 1) 51 [.int (nI (i)), .int (nI (y))] h (some (.int (nI ((i * 61 + y) * 24)))) h 0 0 := by
  refine Rn_of (by decide) (Nat.le_of_ble_eq_true rfl) ?_
  show Wn _ _ 0 [(0, .int (nI (i))), (1, .int (nI (y)))] [] _ _
  refine wn_ld (pc' := 1) (q := 0) (kin := 0) (v := .int (nI (i))) rfl (fun _ _ _ => rfl) rfl rfl ?_
  refine wn_bp (pc' := 3) (w := nI 61) rfl rfl (by decide) ?_
  refine wn_mulN (pc' := 4) rfl rfl ?_
  refine wn_ld (pc' := 5) (q := 1) (kin := 0) (v := .int (nI (y))) rfl (fun _ _ _ => rfl) rfl rfl ?_
  refine wn_addN (pc' := 6) rfl rfl ?_
  refine wn_bp (pc' := 8) (w := nI 24) rfl rfl (by decide) ?_
  refine wn_mulN (pc' := 9) rfl rfl ?_
  refine wn_iret rfl rfl rfl ⟨?_, rfl⟩
  exact congrArg (fun z => some (Value.int z)) (rfl)

theorem x_variantAt (d : Nat) (h : aH) (ls : Nat) (w : Nat → Int32) (hWf : WfW w) (V : XV h ls w) (i y v : Nat) (hi : i < ntW w) (hy : y ≤ 60) (hv9 : v < nvW w) (Rc : Rch h w i y) : Rn (d + 2) 50 [.ref (52), .int (nI (i)), .int (nI (y)), .int (nI (v))] h (some (.int (nI (sdW w y v i)))) h 0 0 := by
  obtain ⟨⟨e1, e2⟩, ⟨e3, e4⟩, ⟨e5, e6⟩⟩ := Wf_n hWf
  obtain ⟨⟨e7, e8⟩, ⟨e9, e10⟩⟩ := Wf_m hWf
  obtain ⟨v0, ⟨x9, v1⟩, ⟨v2, ⟨sz, rf, rt, rv, ag, vr, sd, tl, l0, l1, l2, l3, l4, l5, l6, l7, l8, g1, g2, g3, g4, g5⟩, ⟨sec, it, fi, se, sg, lst, rs, rp, pj, pk, pv, k0, k1, k2, k3, k4, k5, k6, k7, k8, k9, k10, k11, k12, k13⟩, ⟨hv, hc, y0, y1, y2, y3, y4⟩, ⟨an, wk, n0, n1, n2, n3, n4⟩⟩, v3⟩ := id V
  rw [e1, e3, e5] at l0
  rw [e7, e9] at k1
  obtain ⟨vv, c1, c2⟩ := Rc
  refine Rn_of (by decide) (Nat.le_of_ble_eq_true rfl) ?_
  show Wn _ _ 0 [(0, .ref (52)), (1, .int (nI (i))), (2, .int (nI (y))), (3, .int (nI (v)))] [] _ _
  refine wn_ld (pc' := 1) (q := 0) (kin := 2) (v := .ref (52)) rfl (fun _ _ _ => rfl) rfl rfl ?_
  refine wn_get (pc' := 4) (v := .ref (55)) rfl rfl v3 rfl ?_
  refine wn_ld (pc' := 5) (q := 1) (kin := 0) (v := .int (nI (i))) rfl (fun _ _ _ => rfl) rfl rfl ?_
  refine wn_ld (pc' := 6) (q := 2) (kin := 0) (v := .int (nI (y))) rfl (fun _ _ _ => rfl) rfl rfl ?_
  refine wn_staI (pc' := 9) rfl rfl (by decide) rfl rfl (Nat.le_of_ble_eq_true rfl) (x_placeOf _ _ i y) ?_
  refine wn_ld (pc' := 10) (q := 3) (kin := 0) (v := .int (nI (v))) rfl (fun _ _ _ => rfl) rfl rfl ?_
  refine wn_addN (pc' := 11) rfl rfl ?_
  refine wn_baldv (pc' := 12) (j := ((i * 61 + y) * 24) + v) (v := (nI (sdW w y v i))) rfl rfl (Or.inl rfl) c1 rfl (by omega) (by decide) (c2 y v (Nat.le_refl _) hv9) ?_
  refine wn_iret rfl rfl rfl ⟨?_, rfl⟩
  exact congrArg (fun z => some (Value.int z)) (rfl)

theorem Rch.le {h : aH} {w : Nat → Int32} {i y y' : Nat} (R : Rch h w i y) (hy : y' ≤ y) : Rch h w i y' := by
  obtain ⟨vr, a, b⟩ := R
  exact ⟨vr, a, fun y1 v h1 h2 => b y1 v (by omega) h2⟩
def lnW (w : Nat → Int32) (r i y : Nat) : Prop := ¬ sdW w y (rdA w r) i = sdW w y (rdB w r) i
/-- what a village says is one of its item's variants -/
theorem sdW_lt {w : Nat → Int32} (hWf : WfW w) (y v i : Nat) (hv : v < nvW w) (hi : i < ntW w) : sdW w y v i < vaW w i := by
  induction y generalizing v i with
  | zero =>
    show (w (216 + 10 * v + i)).toNatClampNeg < _
    have := wf_vab hWf hi
    rcases hWf.2.2.2.2.1.1 v i hv hi with e | ⟨a, h1, e⟩
    · rw [e]
      have : (-1 : Int32).toNatClampNeg = 0 := by decide
      omega
    · rw [e, nI_clamp (by omega)]; exact h1
  | succ y ih =>
    have e : sdW w (y + 1) v i = match lfW w (sdW w y) y v i with | some l => (w (458 + 6 * l)).toNatClampNeg | none => sdW w y v i := rfl
    rw [e]
    cases hl : lfW w (sdW w y) y v i with
    | none => exact ih v i hv hi
    | some l =>
      obtain ⟨g1, ⟨g2, _⟩, _⟩ := frst_is hl
      obtain ⟨sec, h⟩ := hWf.2.2.2.2.2.1
      obtain ⟨_, _, ⟨a, h1, h2⟩, _⟩ := h l g1
      show (w (458 + 6 * l)).toNatClampNeg < _
      have := wf_vab hWf hi
      rw [g2] at h1
      rw [h2, nI_clamp (by omega)]
      exact h1
theorem sdW_5 {w : Nat → Int32} (hWf : WfW w) {y v i : Nat} (hv : v < nvW w) (hi : i < ntW w) : sdW w y v i < 5 := by
  have := sdW_lt hWf y v i hv hi
  have := wf_vab hWf hi
  omega
theorem x_isLine (d : Nat) (h : aH) (ls : Nat) (w : Nat → Int32) (hWf : WfW w) (V : XV h ls w) (r i y : Nat) (hr : r < nrW w) (hi : i < ntW w) (hy : y ≤ 60) (Rc : Rch h w i y) : Rn (d + 3) 74 [.ref (0), .int (nI (r)), .int (nI (i)), .int (nI (y))] h (some (.int (bI (lnW w r i y)))) h 0 0 := by
  obtain ⟨⟨e1, e2⟩, ⟨e3, e4⟩, ⟨e5, e6⟩⟩ := Wf_n hWf
  obtain ⟨⟨e7, e8⟩, ⟨e9, e10⟩⟩ := Wf_m hWf
  obtain ⟨v0, ⟨x9, v1⟩, ⟨v2, ⟨sz, rf, rt, rv, ag, vr, sd, tl, l0, l1, l2, l3, l4, l5, l6, l7, l8, g1, g2, g3, g4, g5⟩, ⟨sec, it, fi, se, sg, lst, rs, rp, pj, pk, pv, k0, k1, k2, k3, k4, k5, k6, k7, k8, k9, k10, k11, k12, k13⟩, ⟨hv, hc, y0, y1, y2, y3, y4⟩, ⟨an, wk, n0, n1, n2, n3, n4⟩⟩, v3⟩ := id V
  rw [e1, e3, e5] at l0
  rw [e7, e9] at k1
  refine Rn_of (by decide) (Nat.le_of_ble_eq_true rfl) ?_
  show Wn _ _ 0 [(0, .ref (0)), (1, .int (nI (r))), (2, .int (nI (i))), (3, .int (nI (y)))] [] _ _
  refine wn_ld (pc' := 1) (q := 0) (kin := 2) (v := .ref (0)) rfl (fun _ _ _ => rfl) rfl rfl ?_
  refine wn_get (pc' := 4) (v := .ref (23)) rfl rfl v1 rfl ?_
  refine wn_get (pc' := 7) (v := .ref (ls)) rfl rfl v2 rfl ?_
  refine wn_st (pc' := 9) (q := 4) (kin := 2) (lv' := [(0, .ref (0)), (1, .int (nI (r))), (2, .int (nI (i))), (3, .int (nI (y))), (4, .ref (ls))]) rfl (fun _ _ _ => rfl) rfl (Nat.le_of_ble_eq_true rfl) rfl ?_
  refine wn_ld (pc' := 10) (q := 0) (kin := 2) (v := .ref (0)) rfl (fun _ _ _ => rfl) rfl rfl ?_
  refine wn_get (pc' := 13) (v := .ref (52)) rfl rfl v1 rfl ?_
  refine wn_ld (pc' := 14) (q := 2) (kin := 0) (v := .int (nI (i))) rfl (fun _ _ _ => rfl) rfl rfl ?_
  refine wn_ld (pc' := 15) (q := 3) (kin := 0) (v := .int (nI (y))) rfl (fun _ _ _ => rfl) rfl rfl ?_
  refine wn_ld (pc' := 17) (q := 4) (kin := 2) (v := .ref (ls)) rfl (fun _ _ _ => rfl) rfl rfl ?_
  refine wn_get (pc' := 20) (v := .ref (ls + 2)) rfl rfl l0 rfl ?_
  refine wn_ld (pc' := 21) (q := 1) (kin := 0) (v := .int (nI (r))) rfl (fun _ _ _ => rfl) rfl rfl ?_
  have := wf_rdb hWf (show r < nrW w by omega)
  refine wn_ialdv (pc' := 22) (j := r) (v := (nI (rdA w r))) rfl rfl l2 rfl (by omega) (by decide) ((g2 r (by omega)).1.trans (wf_rda hWf (by omega))) ?_
  have := sdW_5 hWf (y := y) (show (rdA w r) < nvW w by omega) (show i < ntW w by omega)
  refine wn_virI (pc' := 25) rfl rfl (by decide) rfl rfl v3 (Nat.le_of_ble_eq_true rfl) (x_variantAt _ _ ls w hWf V i y (rdA w r) (by omega) (by omega) (by omega) Rc) ?_
  refine wn_ld (pc' := 26) (q := 0) (kin := 2) (v := .ref (0)) rfl (fun _ _ _ => rfl) rfl rfl ?_
  refine wn_get (pc' := 29) (v := .ref (52)) rfl rfl v1 rfl ?_
  refine wn_ld (pc' := 30) (q := 2) (kin := 0) (v := .int (nI (i))) rfl (fun _ _ _ => rfl) rfl rfl ?_
  refine wn_ld (pc' := 31) (q := 3) (kin := 0) (v := .int (nI (y))) rfl (fun _ _ _ => rfl) rfl rfl ?_
  refine wn_ld (pc' := 33) (q := 4) (kin := 2) (v := .ref (ls)) rfl (fun _ _ _ => rfl) rfl rfl ?_
  refine wn_get (pc' := 36) (v := .ref (ls + 3)) rfl rfl l0 rfl ?_
  refine wn_ld (pc' := 37) (q := 1) (kin := 0) (v := .int (nI (r))) rfl (fun _ _ _ => rfl) rfl rfl ?_
  have := wf_rdb hWf (show r < nrW w by omega)
  refine wn_ialdv (pc' := 38) (j := r) (v := (nI (rdB w r))) rfl rfl l3 rfl (by omega) (by decide) ((g2 r (by omega)).2.1.trans (wf_rdB hWf (by omega))) ?_
  have := sdW_5 hWf (y := y) (show (rdB w r) < nvW w by omega) (show i < ntW w by omega)
  refine wn_virI (pc' := 41) rfl rfl (by decide) rfl rfl v3 (Nat.le_of_ble_eq_true rfl) (x_variantAt _ _ ls w hWf V i y (rdB w r) (by omega) (by omega) (by omega) Rc) ?_
  refine wn_icmpN (t := 48) (f := 44) rfl rfl rfl (by omega) (by omega) (fun c1 => ?_) (fun c1 => ?_)
  · have c1 : (sdW w y (rdA w r) i) = (sdW w y (rdB w r) i) := c1
    refine wn_ic (pc' := 49) (w := nI 0) rfl rfl (by decide) ?_
    refine wn_iret rfl rfl (by decide) ⟨?_, rfl⟩
    exact congrArg (fun z => some (Value.int z)) (bI_f0 (fun q => q c1))
  · have c1 : ¬ (sdW w y (rdA w r) i) = (sdW w y (rdB w r) i) := c1
    refine wn_ic (pc' := 45) (w := nI 1) rfl rfl (by decide) ?_
    refine wn_jp (pc' := 49) rfl rfl ?_
    refine wn_iret rfl rfl (by decide) ⟨?_, rfl⟩
    exact congrArg (fun z => some (Value.int z)) (bI_t1 c1)

