/-! THE CLASS'S LAND GROWS -/
def gVW (w sz : Nat → Int32) : Prop := ∀ v, v < nvW w → sz v = w (8 + 2 * v)
def gRW (w rf rt rv ag : Nat → Int32) : Prop := ∀ r, r < nrW w → rf r = w (56 + 3 * r) ∧ rt r = w (57 + 3 * r) ∧ rv r = w (58 + 3 * r) ∧ (ag r = bI (∃ r', r' < r ∧ ((rdA w r' = rdA w r ∧ rdB w r' = rdB w r) ∨ (rdA w r' = rdB w r ∧ rdB w r' = rdA w r))))
def gBW (rv ag : Nat → Int32) : Prop := ∀ r, r < 40 → b01 (rv r) ∧ b01 (ag r)
def gIW (w vr sd : Nat → Int32) : Prop := ∀ i, i < ntW w → vr i = w (176 + 4 * i) ∧ sd i = w (177 + 4 * i)
def gTW (w tl : Nat → Int32) : Prop := ∀ p, p < 240 → tl p = w (216 + p)
def gLW (w : Nat → Int32) (sec : Nat → Nat) (it fi se sg ls rs rp : Nat → Int32) : Prop := ∀ l, l < nlW w → it l = w (456 + 6 * l) ∧ fi l = w (457 + 6 * l) ∧ se l = w (458 + 6 * l) ∧ sg l = w (459 + 6 * l) ∧ ls l = nI (lwB w l) ∧ rs l = nI (sec l) ∧ rp l = nI (lwE w l)
def gPW (w pj pk pv : Nat → Int32) : Prop := ∀ k, k < npW w → pj k = (if w (576 + 3 * k) = 4 then 0 else w (576 + 3 * k)) ∧ pk k = w (577 + 3 * k) ∧ pv k = w (578 + 3 * k)
section GW
variable {w w' : Nat → Int32}
theorem gV_ag {sz : Nat → Int32} (E : ∀ p, 8 ≤ p → p < 56 → w' p = w p) (e : nvW w' = nvW w) (b : nvW w ≤ 24) (H : gVW w sz) : gVW w' sz := fun v hv => by
  rw [e] at hv; rw [E _ (by omega) (by omega)]; exact H v hv
theorem gR_ag {rf rt rv ag : Nat → Int32} (E : ∀ p, 56 ≤ p → p < 176 → w' p = w p) (e : nrW w' = nrW w) (b : nrW w ≤ 40) (H : gRW w rf rt rv ag) : gRW w' rf rt rv ag := fun r hr => by
  rw [e] at hr
  have ea : ∀ x, x < 40 → rdA w' x = rdA w x := fun x hx => congrArg Int32.toNatClampNeg (E _ (by omega) (by omega))
  have eb : ∀ x, x < 40 → rdB w' x = rdB w x := fun x hx => congrArg Int32.toNatClampNeg (E _ (by omega) (by omega))
  rw [E _ (by omega) (by omega), E _ (by omega) (by omega), E _ (by omega) (by omega), ea r (by omega), eb r (by omega)]
  obtain ⟨c1, c2, c3, c4⟩ := H r hr
  refine ⟨c1, c2, c3, c4.trans (bI_c ?_)⟩
  constructor
  · intro ⟨x, h1, h2⟩; exact ⟨x, h1, by rw [ea x (by omega), eb x (by omega)]; exact h2⟩
  · intro ⟨x, h1, h2⟩; exact ⟨x, h1, by rw [ea x (by omega), eb x (by omega)] at h2; exact h2⟩
theorem gI_ag {vr sd : Nat → Int32} (E : ∀ p, 176 ≤ p → p < 216 → w' p = w p) (e : ntW w' = ntW w) (b : ntW w ≤ 10) (H : gIW w vr sd) : gIW w' vr sd := fun i hi => by
  rw [e] at hi; rw [E _ (by omega) (by omega), E _ (by omega) (by omega)]; exact H i hi
theorem gT_ag {tl : Nat → Int32} (E : ∀ p, 216 ≤ p → p < 456 → w' p = w p) (H : gTW w tl) : gTW w' tl := fun p hp => by
  rw [E _ (by omega) (by omega)]; exact H p hp
theorem wj_0 (H : WJ w) : w 0 = nI (lcW w) ∧ lcW w ≤ 1200 := by
  obtain ⟨k, h1, h2⟩ := H.1.1
  have e : lcW w = k := by show (w 0).toNatClampNeg = k; rw [h2]; exact nI_clamp (by omega)
  rw [e]; exact ⟨h2, h1⟩
theorem LandR_mk {h : aH} {q : Nat} {sz rf rt rv ag vr sd tl : Nat → Int32} {x0 x1 x2 x3 : Int32} (o : isO h q 0 [.int x0, .int x1, .int x2, .int x3, .ref (q + 1), .ref (q + 2), .ref (q + 3), .ref (q + 4), .ref (q + 5), .ref (q + 6), .ref (q + 7), .ref (q + 8), .ref (q + 9)]) (e0 : w 0 = x0) (e1 : w 1 = x1) (e2 : w 2 = x2) (e3 : w 3 = x3) (i1 : isI h (q + 1) 24 sz) (i2 : isI h (q + 2) 40 rf) (i3 : isI h (q + 3) 40 rt) (i4 : isZ h (q + 4) 40 rv) (i5 : isZ h (q + 5) 40 ag) (i6 : isI h (q + 6) 10 vr) (i7 : isI h (q + 7) 10 sd) (i8 : isI h (q + 8) 240 tl) (g1 : gVW w sz) (g2 : gRW w rf rt rv ag) (g3 : gBW rv ag) (g4 : gIW w vr sd) (g5 : gTW w tl) : LandR h q w := by
  subst e0; subst e1; subst e2; subst e3
  exact ⟨sz, rf, rt, rv, ag, vr, sd, tl, o, i1, i2, i3, i4, i5, i6, i7, i8, g1, g2, g3, g4, g5⟩
/-- the laws do not see what else grows -/
theorem LawsR.gr {h : aH} {q : Nat} (H : LawsR h q w) (bl : nlW w ≤ 20) (bp : npW w ≤ 240) (E : ∀ p, p = 4 ∨ p = 5 ∨ (456 ≤ p ∧ p < 1476) → w' p = w p) (e2 : ntW w ≤ ntW w') (ev : ∀ i, i < ntW w → vaW w' i = vaW w i) : LawsR h q w' := by
  obtain ⟨sec, it, fi, se, sg, lst, rs, rp, pj, pk, pv, k0, k1, k2, k3, k4, k5, k6, k7, k8, k9, k10, k11, k12, k13⟩ := H
  have e4 : nlW w' = nlW w := congrArg Int32.toNatClampNeg (E _ (by omega))
  have e5 : npW w' = npW w := congrArg Int32.toNatClampNeg (E _ (by omega))
  refine ⟨sec, it, fi, se, sg, lst, rs, rp, pj, pk, pv, g_L bl (fun p h1 h2 => E p (by omega)) e4 e2 ev (by omega) k0, by rw [E 4 (by omega), E 5 (by omega)]; exact k1, k2, k3, k4, k5, k6, k7, k8, k9, k10, k11, fun l hl => ?_, fun k hk => ?_⟩
  · rw [e4] at hl
    have eb : lwB w' l = lwB w l := congrArg Int32.toNatClampNeg (E _ (by omega))
    have ee : lwE w' l = lwE w l := by unfold lwE; rw [eb, E _ (by omega)]
    rw [eb, ee, E _ (by omega), E _ (by omega), E _ (by omega), E _ (by omega)]
    exact k12 l hl
  · rw [e5] at hk
    rw [E _ (by omega), E _ (by omega), E _ (by omega)]
    exact k13 k hk
/-- the LAND does not see its laws' parts -/
theorem LandR.gr {h : aH} {q : Nat} (H : LandR h q w) (b1 : nvW w ≤ 24) (b2 : nrW w ≤ 40) (b3 : ntW w ≤ 10) (E : ∀ p, p < 4 ∨ (8 ≤ p ∧ p < 456) → w' p = w p) : LandR h q w' := by
  obtain ⟨sz, rf, rt, rv, ag, vr, sd, tl, l0, l1, l2, l3, l4, l5, l6, l7, l8, g1, g2, g3, g4, g5⟩ := H
  have e1 : nvW w' = nvW w := congrArg Int32.toNatClampNeg (E _ (by omega))
  have e2 : nrW w' = nrW w := congrArg Int32.toNatClampNeg (E _ (by omega))
  have e3 : ntW w' = ntW w := congrArg Int32.toNatClampNeg (E _ (by omega))
  exact LandR_mk l0 (E _ (by omega)) (E _ (by omega)) (E _ (by omega)) (E _ (by omega)) l1 l2 l3 l4 l5 l6 l7 l8 (gV_ag (fun p h1 h2 => E p (by omega)) e1 b1 g1) (gR_ag (fun p h1 h2 => E p (by omega)) e2 b2 g2) g3 (gI_ag (fun p h1 h2 => E p (by omega)) e3 b3 g4) (gT_ag (fun p h1 h2 => E p (by omega)) g5)
end GW
/-- a call that touches the LAND at q alone -/
def FrQ (q : Nat) (h h' : aH) : Prop := h'.length = h.length ∧ ∀ k, k < q ∨ q + 20 ≤ k → h'[k]? = h[k]?
theorem nar_N {x : Nat} (h : x ≤ 1) : vp_nar .boolean (nI x) = nI x := by
  rcases (show x = 0 ∨ x = 1 by omega) with rfl | rfl
  · exact (congrArg (vp_nar .boolean) (bI_f0 (p := False) id)).trans ((nar_bo False).trans (bI_f0 id).symm)
  · exact (congrArg (vp_nar .boolean) (bI_t1 (p := True) trivial)).trans ((nar_bo True).trans (bI_t1 trivial).symm)
theorem x_addVillage (d : Nat) (h : aH) (q : Nat) (w : Nat → Int32) (hJ : WJ w) (s : Nat) (hb : nvW w < 24) (R1 : LandR h q w) (R2 : LawsR h (q + 9) w) : Sp (Rn (d + 1)) 2 [.ref (q), .int (nI (s))] h (fun r9 h9 => r9 = none ∧ FrQ q h h9 ∧ LandR h9 q (linW (vilW w s)) ∧ LawsR h9 (q + 9) (linW (vilW w s))) := by
  obtain ⟨sz, rf, rt, rv, ag, vr, sd, tl, l0, l1, l2, l3, l4, l5, l6, l7, l8, g1, g2, g3, g4, g5⟩ := id R1
  obtain ⟨e0, e0b⟩ := wj_0 hJ
  obtain ⟨⟨e1, e2⟩, ⟨e3, e4⟩, ⟨e5, e6⟩⟩ := Wf_n hJ.wf
  obtain ⟨⟨e7, e8⟩, ⟨e9, e10⟩⟩ := Wf_m hJ.wf
  rw [e0, e1, e3, e5] at l0
  refine Sp_of (by decide) (Nat.le_of_ble_eq_true rfl) ?_
  show Wn _ _ 0 [(0, .ref (q)), (1, .int (nI (s)))] [] _ _
  refine wn_ld (pc' := 1) (q := 0) (kin := 2) (v := .ref (q)) rfl (fun _ _ _ => rfl) rfl rfl ?_
  refine wn_get (pc' := 4) (v := .int (nI (nvW w))) rfl rfl l0 rfl ?_
  refine wn_bp (pc' := 6) (w := nI 24) rfl rfl (by decide) ?_
  refine wn_icmpN (t := 29) (f := 9) rfl rfl rfl (by omega) (by omega) (fun c1 => ?_) (fun c1 => ?_)
  · have c1 : 24 ≤ (nvW w) := c1
    exfalso; omega
  · have c1 : (nvW w) < 24 := c1
    refine wn_ld (pc' := 10) (q := 0) (kin := 2) (v := .ref (q)) rfl (fun _ _ _ => rfl) rfl rfl ?_
    refine wn_get (pc' := 13) (v := .ref (q + 1)) rfl rfl l0 rfl ?_
    refine wn_ld (pc' := 14) (q := 0) (kin := 2) (v := .ref (q)) rfl (fun _ _ _ => rfl) rfl rfl ?_
    refine wn_get (pc' := 17) (v := .int (nI (nvW w))) rfl rfl l0 rfl ?_
    refine wn_ld (pc' := 18) (q := 1) (kin := 0) (v := .int (nI (s))) rfl (fun _ _ _ => rfl) rfl rfl ?_
    refine wn_iast (pc' := 19) (j := nvW w) rfl rfl l1 rfl (by omega) (by decide) ?_
    refine wn_ld (pc' := 20) (q := 0) (kin := 2) (v := .ref (q)) rfl (fun _ _ _ => rfl) rfl rfl ?_
    refine wn_pu (pc' := 21) (st' := [.ref (q), .ref (q)]) rfl (fun _ _ _ => rfl) rfl rfl ?_
    refine wn_get (pc' := 24) (v := .int (nI (nvW w))) rfl rfl (gs_ne (by omega) l0) rfl ?_
    refine wn_ic (pc' := 25) (w := nI 1) rfl rfl (by decide) ?_
    refine wn_addN (pc' := 26) rfl rfl ?_
    refine wn_put (pc' := 29) rfl rfl (gs_ne (by omega) l0) (Nat.le_of_ble_eq_true rfl) ⟨rfl, rfl⟩ ?_
    show Wn _ _ 29 _ [] ((h.set (q + 1) (.inl (0, 24, .inl (upd sz (nvW w) ((nI (s))))))).set q (.inr (0, [.int (nI (lcW w)), .int (nI ((nvW w) + 1)), .int (nI (nrW w)), .int (nI (ntW w)), .ref (q + 1), .ref (q + 2), .ref (q + 3), .ref (q + 4), .ref (q + 5), .ref (q + 6), .ref (q + 7), .ref (q + 8), .ref (q + 9)]))) _
    refine wn_ld (pc' := 30) (q := 0) (kin := 2) (v := .ref (q)) rfl (fun _ _ _ => rfl) rfl rfl ?_
    refine wn_pu (pc' := 31) (st' := [.ref (q), .ref (q)]) rfl (fun _ _ _ => rfl) rfl rfl ?_
    refine wn_get (pc' := 34) (v := .int (nI (lcW w))) rfl rfl (gs_self (gs_ne (by omega) l0)) rfl ?_
    refine wn_ic (pc' := 35) (w := nI 1) rfl rfl (by decide) ?_
    refine wn_addN (pc' := 36) rfl rfl ?_
    refine wn_put (pc' := 39) rfl rfl (gs_self (gs_ne (by omega) l0)) (Nat.le_of_ble_eq_true rfl) ⟨rfl, rfl⟩ ?_
    show Wn _ _ 39 _ [] (((h.set (q + 1) (.inl (0, 24, .inl (upd sz (nvW w) ((nI (s))))))).set q (.inr (0, [.int (nI (lcW w)), .int (nI ((nvW w) + 1)), .int (nI (nrW w)), .int (nI (ntW w)), .ref (q + 1), .ref (q + 2), .ref (q + 3), .ref (q + 4), .ref (q + 5), .ref (q + 6), .ref (q + 7), .ref (q + 8), .ref (q + 9)]))).set q (.inr (0, [.int (nI ((lcW w) + 1)), .int (nI ((nvW w) + 1)), .int (nI (nrW w)), .int (nI (ntW w)), .ref (q + 1), .ref (q + 2), .ref (q + 3), .ref (q + 4), .ref (q + 5), .ref (q + 6), .ref (q + 7), .ref (q + 8), .ref (q + 9)]))) _
    have fr : Fr [q, q + 1] h (((h.set (q + 1) (.inl (0, 24, .inl (upd sz (nvW w) ((nI (s))))))).set q (.inr (0, [.int (nI (lcW w)), .int (nI ((nvW w) + 1)), .int (nI (nrW w)), .int (nI (ntW w)), .ref (q + 1), .ref (q + 2), .ref (q + 3), .ref (q + 4), .ref (q + 5), .ref (q + 6), .ref (q + 7), .ref (q + 8), .ref (q + 9)]))).set q (.inr (0, [.int (nI ((lcW w) + 1)), .int (nI ((nvW w) + 1)), .int (nI (nrW w)), .int (nI (ntW w)), .ref (q + 1), .ref (q + 2), .ref (q + 3), .ref (q + 4), .ref (q + 5), .ref (q + 6), .ref (q + 7), .ref (q + 8), .ref (q + 9)]))) := (Fr.st (Fr.st (Fr.st (Fr.rfl' [q, q + 1] h) (by simp)) (by simp)) (by simp))
    have nE := vil_n (w := w) (s := s) hb
    have E : ∀ p, p ≠ 0 → p ≠ 1 → p ≠ 8 + 2 * nvW w → p ≠ 9 + 2 * nvW w → linW (vilW w s) p = w p := fun p q1 q2 q3 q4 => (lin_o q1).trans (vil_o q2 q3 q4)
    have E0 : linW (vilW w s) 0 = nI (lcW w + 1) := by rw [lin_0, lc_e (vil_o (by omega) (by omega) (by omega))]
    have E1 : linW (vilW w s) 1 = nI (nvW w + 1) := (lin_o (by omega)).trans vil_1
    have E2 : linW (vilW w s) 2 = nI (nrW w) := (E 2 (by omega) (by omega) (by omega) (by omega)).trans e3
    have E3 : linW (vilW w s) 3 = nI (ntW w) := (E 3 (by omega) (by omega) (by omega) (by omega)).trans e5
    have N1 : nvW (linW (vilW w s)) = nvW w + 1 := (congrArg Int32.toNatClampNeg (lin_o (by omega))).trans nE
    have N2 : nrW (linW (vilW w s)) = nrW w := congrArg Int32.toNatClampNeg (E _ (by omega) (by omega) (by omega) (by omega))
    have N3 : ntW (linW (vilW w s)) = ntW w := congrArg Int32.toNatClampNeg (E _ (by omega) (by omega) (by omega) (by omega))
    have G1 : gVW (linW (vilW w s)) (upd sz (nvW w) (nI s)) := fun v hv => by
      rw [N1] at hv
      by_cases c : v = nvW w
      · subst c; rw [pk_us]; exact ((lin_o (by omega)).trans vil_a).symm
      · rw [pk_un c, E _ (by omega) (by omega) (by omega) (by omega)]; exact g1 v (by omega)
    refine wn_vret rfl rfl ⟨rfl, ⟨fr.1, fun k hk => fr.2 k (by simp only [List.mem_cons, List.not_mem_nil, or_false]; omega)⟩, LandR_mk (gs_self (gs_self (gs_ne (by omega) l0))) E0 E1 E2 E3 (gs_ne (by omega) (gs_ne (by omega) (gs_self l1))) (gs_ne (by omega) (gs_ne (by omega) (gs_ne (by omega) l2))) (gs_ne (by omega) (gs_ne (by omega) (gs_ne (by omega) l3))) (gs_ne (by omega) (gs_ne (by omega) (gs_ne (by omega) l4))) (gs_ne (by omega) (gs_ne (by omega) (gs_ne (by omega) l5))) (gs_ne (by omega) (gs_ne (by omega) (gs_ne (by omega) l6))) (gs_ne (by omega) (gs_ne (by omega) (gs_ne (by omega) l7))) (gs_ne (by omega) (gs_ne (by omega) (gs_ne (by omega) l8))) G1 (gR_ag (fun p h1 h2 => E p (by omega) (by omega) (by omega) (by omega)) N2 (by omega) g2) g3 (gI_ag (fun p h1 h2 => E p (by omega) (by omega) (by omega) (by omega)) N3 (by omega) g4) (gT_ag (fun p h1 h2 => E p (by omega) (by omega) (by omega) (by omega)) g5), (R2.kp (fun k p1 p2 => fr.2 k (by simp only [List.mem_cons, List.not_mem_nil, or_false]; omega))).gr e8 e10 (fun p h => E p (by omega) (by omega) (by omega) (by omega)) (by omega) (fun i hi => g_va (fun p h1 h2 => E p (by omega) (by omega) (by omega) (by omega)) (by omega))⟩

theorem x_hasRoad (d : Nat) (h : aH) (q : Nat) (w : Nat → Int32) (a b : Nat) (x0 x1 x3 : Int32) (rf rt : Nat → Int32) (hr : nrW w ≤ 40) (ha : a < 24) (hb : b < 24) (o : isO h q 0 [.int x0, .int x1, .int (nI (nrW w)), .int x3, .ref (q + 1), .ref (q + 2), .ref (q + 3), .ref (q + 4), .ref (q + 5), .ref (q + 6), .ref (q + 7), .ref (q + 8), .ref (q + 9)]) (i2 : isI h (q + 2) 40 rf) (i3 : isI h (q + 3) 40 rt) (gr : ∀ r, r < nrW w → rf r = nI (rdA w r) ∧ rt r = nI (rdB w r)) (gb : ∀ r, r < nrW w → rdA w r < 24 ∧ rdB w r < 24) : Rn (d + 1) 4 [.ref (q), .int (nI (a)), .int (nI (b))] h (some (.int (bI (∃ x, x < nrW w ∧ ((rdA w x = a ∧ rdB w x = b) ∨ (rdA w x = b ∧ rdB w x = a)))))) h 0 0 := by
  refine Rn_of (by decide) (Nat.le_of_ble_eq_true rfl) ?_
  show Wn _ _ 0 [(0, .ref (q)), (1, .int (nI (a))), (2, .int (nI (b)))] [] _ _
  refine wn_ic (pc' := 1) (w := nI 0) rfl rfl (by decide) ?_
  refine wn_st (pc' := 2) (q := 3) (kin := 0) (lv' := [(0, .ref (q)), (1, .int (nI (a))), (2, .int (nI (b))), (3, .int (nI (0)))]) rfl (fun _ _ _ => rfl) rfl (Nat.le_of_ble_eq_true rfl) rfl ?_
  have lp1 : ∀ (n_lp1 : Nat) (k : Nat), (nrW w) + 1 ≤ k + n_lp1 → k ≤ nrW w → (∀ x, x < k → ¬ ((rdA w x = a ∧ rdB w x = b) ∨ (rdA w x = b ∧ rdB w x = a))) → Wn (Rn (d + 0)) 4 2 [(0, .ref (q)), (1, .int (nI (a))), (2, .int (nI (b))), (3, .int (nI (k)))] [] (h) (fun r9 h9 => r9 = (some (.int (bI (∃ x, x < nrW w ∧ ((rdA w x = a ∧ rdB w x = b) ∨ (rdA w x = b ∧ rdB w x = a)))))) ∧ h9 = h) := by
    intro n_lp1
    induction n_lp1 with
    | zero => intro k hm_lp1 hk hN; exfalso; omega
    | succ n_lp1 ih_lp1 =>
      intro k hm_lp1 hk hN
      have hq9 : k < nrW w → rdA w k < 24 ∧ rdB w k < 24 := fun q => (gb k q)
      refine wn_ld (pc' := 3) (q := 3) (kin := 0) (v := .int (nI (k))) rfl (fun _ _ _ => rfl) rfl rfl ?_
      refine wn_ld (pc' := 4) (q := 0) (kin := 2) (v := .ref (q)) rfl (fun _ _ _ => rfl) rfl rfl ?_
      refine wn_get (pc' := 7) (v := .int (nI (nrW w))) rfl rfl o rfl ?_
      refine wn_icmpN (t := 70) (f := 10) rfl rfl rfl (by omega) (by omega) (fun c2 => ?_) (fun c2 => ?_)
      · have c2 : (nrW w) ≤ k := c2
        refine wn_ic (pc' := 71) (w := nI 0) rfl rfl (by decide) ?_
        exact wn_iret rfl rfl (by decide) ⟨congrArg (fun z => some (Value.int z)) (bI_f0 (fun ⟨x, h1, h2⟩ => hN x (by omega) h2)), rfl⟩
      · have c2 : k < (nrW w) := c2
        have := gb k (by omega)
        refine wn_ld (pc' := 11) (q := 0) (kin := 2) (v := .ref (q)) rfl (fun _ _ _ => rfl) rfl rfl ?_
        refine wn_get (pc' := 14) (v := .ref (q + 2)) rfl rfl o rfl ?_
        refine wn_ld (pc' := 15) (q := 3) (kin := 0) (v := .int (nI (k))) rfl (fun _ _ _ => rfl) rfl rfl ?_
        refine wn_ialdv (pc' := 16) (j := k) (v := (nI (rdA w k))) rfl rfl i2 rfl (by omega) (by decide) ((gr k (by omega)).1) ?_
        refine wn_ld (pc' := 17) (q := 1) (kin := 0) (v := .int (nI (a))) rfl (fun _ _ _ => rfl) rfl rfl ?_
        refine wn_icmpN (t := 34) (f := 20) rfl rfl rfl (by omega) (by omega) (fun c3 => ?_) (fun c3 => ?_)
        · have c3 : ¬ (rdA w k) = a := c3
          refine wn_ic (pc' := 35) (w := nI 0) rfl rfl (by decide) ?_
          refine wn_st (pc' := 37) (q := 4) (kin := 0) (lv' := [(0, .ref (q)), (1, .int (nI (a))), (2, .int (nI (b))), (3, .int (nI (k))), (4, .int (nI (0)))]) rfl (fun _ _ _ => rfl) rfl (Nat.le_of_ble_eq_true rfl) rfl ?_
          refine wn_ld (pc' := 39) (q := 4) (kin := 0) (v := .int (nI (0))) rfl (fun _ _ _ => rfl) rfl rfl ?_
          refine wn_ifN (t := 62) (f := 42) rfl rfl rfl (by omega) (fun c4 => ?_) (fun c4 => ?_)
          · have c4 : ¬ 0 = 0 := c4
            exact absurd c4 (by decide)
          · have c4 : 0 = 0 := c4
            refine wn_ld (pc' := 43) (q := 0) (kin := 2) (v := .ref (q)) rfl (fun _ _ _ => rfl) rfl rfl ?_
            refine wn_get (pc' := 46) (v := .ref (q + 2)) rfl rfl o rfl ?_
            refine wn_ld (pc' := 47) (q := 3) (kin := 0) (v := .int (nI (k))) rfl (fun _ _ _ => rfl) rfl rfl ?_
            refine wn_ialdv (pc' := 48) (j := k) (v := (nI (rdA w k))) rfl rfl i2 rfl (by omega) (by decide) ((gr k (by omega)).1) ?_
            refine wn_ld (pc' := 49) (q := 2) (kin := 0) (v := .int (nI (b))) rfl (fun _ _ _ => rfl) rfl rfl ?_
            refine wn_icmpN (t := 64) (f := 52) rfl rfl rfl (by omega) (by omega) (fun c5 => ?_) (fun c5 => ?_)
            · have c5 : ¬ (rdA w k) = b := c5
              refine wn_incN (n := 1) (pc' := 67) (lv' := [(0, .ref (q)), (1, .int (nI (a))), (2, .int (nI (b))), (3, .int (nI (k + 1))), (4, .int (nI (0)))]) rfl rfl rfl (Nat.le_of_ble_eq_true rfl) rfl (by decide) ?_
              refine wn_jp (pc' := 2) rfl rfl ?_
              refine wn_weak (lv' := [(0, .ref (q)), (1, .int (nI (a))), (2, .int (nI (b))), (3, .int (nI (k + 1)))]) (by simp) ?_
              have z9 := ih_lp1 (k + 1) (by omega) (by omega) (fun x hx => by by_cases e : x = k; (subst e; omega); exact hN x (by omega))
              exact z9
            · have c5 : (rdA w k) = b := c5
              refine wn_ld (pc' := 53) (q := 0) (kin := 2) (v := .ref (q)) rfl (fun _ _ _ => rfl) rfl rfl ?_
              refine wn_get (pc' := 56) (v := .ref (q + 3)) rfl rfl o rfl ?_
              refine wn_ld (pc' := 57) (q := 3) (kin := 0) (v := .int (nI (k))) rfl (fun _ _ _ => rfl) rfl rfl ?_
              refine wn_ialdv (pc' := 58) (j := k) (v := (nI (rdB w k))) rfl rfl i3 rfl (by omega) (by decide) ((gr k (by omega)).2) ?_
              refine wn_ld (pc' := 59) (q := 1) (kin := 0) (v := .int (nI (a))) rfl (fun _ _ _ => rfl) rfl rfl ?_
              refine wn_icmpN (t := 64) (f := 62) rfl rfl rfl (by omega) (by omega) (fun c6 => ?_) (fun c6 => ?_)
              · have c6 : ¬ (rdB w k) = a := c6
                refine wn_incN (n := 1) (pc' := 67) (lv' := [(0, .ref (q)), (1, .int (nI (a))), (2, .int (nI (b))), (3, .int (nI (k + 1))), (4, .int (nI (0)))]) rfl rfl rfl (Nat.le_of_ble_eq_true rfl) rfl (by decide) ?_
                refine wn_jp (pc' := 2) rfl rfl ?_
                refine wn_weak (lv' := [(0, .ref (q)), (1, .int (nI (a))), (2, .int (nI (b))), (3, .int (nI (k + 1)))]) (by simp) ?_
                have z9 := ih_lp1 (k + 1) (by omega) (by omega) (fun x hx => by by_cases e : x = k; (subst e; omega); exact hN x (by omega))
                exact z9
              · have c6 : (rdB w k) = a := c6
                refine wn_ic (pc' := 63) (w := nI 1) rfl rfl (by decide) ?_
                exact wn_iret rfl rfl (by decide) ⟨congrArg (fun z => some (Value.int z)) (bI_t1 ⟨k, by omega, by omega⟩), rfl⟩
        · have c3 : (rdA w k) = a := c3
          refine wn_ld (pc' := 21) (q := 0) (kin := 2) (v := .ref (q)) rfl (fun _ _ _ => rfl) rfl rfl ?_
          refine wn_get (pc' := 24) (v := .ref (q + 3)) rfl rfl o rfl ?_
          refine wn_ld (pc' := 25) (q := 3) (kin := 0) (v := .int (nI (k))) rfl (fun _ _ _ => rfl) rfl rfl ?_
          refine wn_ialdv (pc' := 26) (j := k) (v := (nI (rdB w k))) rfl rfl i3 rfl (by omega) (by decide) ((gr k (by omega)).2) ?_
          refine wn_ld (pc' := 27) (q := 2) (kin := 0) (v := .int (nI (b))) rfl (fun _ _ _ => rfl) rfl rfl ?_
          refine wn_icmpN (t := 34) (f := 30) rfl rfl rfl (by omega) (by omega) (fun c7 => ?_) (fun c7 => ?_)
          · have c7 : ¬ (rdB w k) = b := c7
            refine wn_ic (pc' := 35) (w := nI 0) rfl rfl (by decide) ?_
            refine wn_st (pc' := 37) (q := 4) (kin := 0) (lv' := [(0, .ref (q)), (1, .int (nI (a))), (2, .int (nI (b))), (3, .int (nI (k))), (4, .int (nI (0)))]) rfl (fun _ _ _ => rfl) rfl (Nat.le_of_ble_eq_true rfl) rfl ?_
            refine wn_ld (pc' := 39) (q := 4) (kin := 0) (v := .int (nI (0))) rfl (fun _ _ _ => rfl) rfl rfl ?_
            refine wn_ifN (t := 62) (f := 42) rfl rfl rfl (by omega) (fun c8 => ?_) (fun c8 => ?_)
            · have c8 : ¬ 0 = 0 := c8
              exact absurd c8 (by decide)
            · have c8 : 0 = 0 := c8
              refine wn_ld (pc' := 43) (q := 0) (kin := 2) (v := .ref (q)) rfl (fun _ _ _ => rfl) rfl rfl ?_
              refine wn_get (pc' := 46) (v := .ref (q + 2)) rfl rfl o rfl ?_
              refine wn_ld (pc' := 47) (q := 3) (kin := 0) (v := .int (nI (k))) rfl (fun _ _ _ => rfl) rfl rfl ?_
              refine wn_ialdv (pc' := 48) (j := k) (v := (nI (rdA w k))) rfl rfl i2 rfl (by omega) (by decide) ((gr k (by omega)).1) ?_
              refine wn_ld (pc' := 49) (q := 2) (kin := 0) (v := .int (nI (b))) rfl (fun _ _ _ => rfl) rfl rfl ?_
              refine wn_icmpN (t := 64) (f := 52) rfl rfl rfl (by omega) (by omega) (fun c9 => ?_) (fun c9 => ?_)
              · have c9 : ¬ (rdA w k) = b := c9
                refine wn_incN (n := 1) (pc' := 67) (lv' := [(0, .ref (q)), (1, .int (nI (a))), (2, .int (nI (b))), (3, .int (nI (k + 1))), (4, .int (nI (0)))]) rfl rfl rfl (Nat.le_of_ble_eq_true rfl) rfl (by decide) ?_
                refine wn_jp (pc' := 2) rfl rfl ?_
                refine wn_weak (lv' := [(0, .ref (q)), (1, .int (nI (a))), (2, .int (nI (b))), (3, .int (nI (k + 1)))]) (by simp) ?_
                have z9 := ih_lp1 (k + 1) (by omega) (by omega) (fun x hx => by by_cases e : x = k; (subst e; omega); exact hN x (by omega))
                exact z9
              · have c9 : (rdA w k) = b := c9
                refine wn_ld (pc' := 53) (q := 0) (kin := 2) (v := .ref (q)) rfl (fun _ _ _ => rfl) rfl rfl ?_
                refine wn_get (pc' := 56) (v := .ref (q + 3)) rfl rfl o rfl ?_
                refine wn_ld (pc' := 57) (q := 3) (kin := 0) (v := .int (nI (k))) rfl (fun _ _ _ => rfl) rfl rfl ?_
                refine wn_ialdv (pc' := 58) (j := k) (v := (nI (rdB w k))) rfl rfl i3 rfl (by omega) (by decide) ((gr k (by omega)).2) ?_
                refine wn_ld (pc' := 59) (q := 1) (kin := 0) (v := .int (nI (a))) rfl (fun _ _ _ => rfl) rfl rfl ?_
                refine wn_icmpN (t := 64) (f := 62) rfl rfl rfl (by omega) (by omega) (fun c10 => ?_) (fun c10 => ?_)
                · have c10 : ¬ (rdB w k) = a := c10
                  refine wn_incN (n := 1) (pc' := 67) (lv' := [(0, .ref (q)), (1, .int (nI (a))), (2, .int (nI (b))), (3, .int (nI (k + 1))), (4, .int (nI (0)))]) rfl rfl rfl (Nat.le_of_ble_eq_true rfl) rfl (by decide) ?_
                  refine wn_jp (pc' := 2) rfl rfl ?_
                  refine wn_weak (lv' := [(0, .ref (q)), (1, .int (nI (a))), (2, .int (nI (b))), (3, .int (nI (k + 1)))]) (by simp) ?_
                  have z9 := ih_lp1 (k + 1) (by omega) (by omega) (fun x hx => by by_cases e : x = k; (subst e; omega); exact hN x (by omega))
                  exact z9
                · have c10 : (rdB w k) = a := c10
                  refine wn_ic (pc' := 63) (w := nI 1) rfl rfl (by decide) ?_
                  exact wn_iret rfl rfl (by decide) ⟨congrArg (fun z => some (Value.int z)) (bI_t1 ⟨k, by omega, by omega⟩), rfl⟩
          · have c7 : (rdB w k) = b := c7
            refine wn_ic (pc' := 31) (w := nI 1) rfl rfl (by decide) ?_
            refine wn_jp (pc' := 35) rfl rfl ?_
            refine wn_st (pc' := 37) (q := 4) (kin := 0) (lv' := [(0, .ref (q)), (1, .int (nI (a))), (2, .int (nI (b))), (3, .int (nI (k))), (4, .int (nI (1)))]) rfl (fun _ _ _ => rfl) rfl (Nat.le_of_ble_eq_true rfl) rfl ?_
            refine wn_ld (pc' := 39) (q := 4) (kin := 0) (v := .int (nI (1))) rfl (fun _ _ _ => rfl) rfl rfl ?_
            refine wn_ifN (t := 62) (f := 42) rfl rfl rfl (by omega) (fun c11 => ?_) (fun c11 => ?_)
            · have c11 : ¬ 1 = 0 := c11
              refine wn_ic (pc' := 63) (w := nI 1) rfl rfl (by decide) ?_
              exact wn_iret rfl rfl (by decide) ⟨congrArg (fun z => some (Value.int z)) (bI_t1 ⟨k, by omega, by omega⟩), rfl⟩
            · have c11 : 1 = 0 := c11
              exact absurd c11 (by decide)
  refine wn_weak (lv' := [(0, .ref (q)), (1, .int (nI (a))), (2, .int (nI (b))), (3, .int (nI (0)))]) (by simp) ?_
  have z9 := lp1 ((nrW w) + 1) 0 (by omega) (by omega) (fun x hx => absurd hx (by omega))
  exact z9

theorem x_addRoad (d : Nat) (h : aH) (q : Nat) (w : Nat → Int32) (hJ : WJ w) (a b r : Nat) (hb : nrW w < 40) (h1 : a < nvW w) (h2 : b < nvW w) (h3 : a ≠ b) (h4 : r ≤ 1) (R1 : LandR h q w) (R2 : LawsR h (q + 9) w) : Sp (Rn (d + 2)) 3 [.ref (q), .int (nI (a)), .int (nI (b)), .int (nI (r))] h (fun r9 h9 => r9 = none ∧ FrQ q h h9 ∧ LandR h9 q (linW (rodW w a b r)) ∧ LawsR h9 (q + 9) (linW (rodW w a b r))) := by
  obtain ⟨sz, rf, rt, rv, ag, vr, sd, tl, l0, l1, l2, l3, l4, l5, l6, l7, l8, g1, g2, g3, g4, g5⟩ := id R1
  obtain ⟨e0, e0b⟩ := wj_0 hJ
  obtain ⟨⟨e1, e2⟩, ⟨e3, e4⟩, ⟨e5, e6⟩⟩ := Wf_n hJ.wf
  obtain ⟨⟨e7, e8⟩, ⟨e9, e10⟩⟩ := Wf_m hJ.wf
  rw [e0, e1, e3, e5] at l0
  refine Sp_of (by decide) (Nat.le_of_ble_eq_true rfl) ?_
  show Wn _ _ 0 [(0, .ref (q)), (1, .int (nI (a))), (2, .int (nI (b))), (3, .int (nI (r)))] [] _ _
  refine wn_ld (pc' := 1) (q := 0) (kin := 2) (v := .ref (q)) rfl (fun _ _ _ => rfl) rfl rfl ?_
  refine wn_get (pc' := 4) (v := .int (nI (nrW w))) rfl rfl l0 rfl ?_
  refine wn_bp (pc' := 6) (w := nI 40) rfl rfl (by decide) ?_
  refine wn_icmpN (t := 64) (f := 9) rfl rfl rfl (by omega) (by omega) (fun c1 => ?_) (fun c1 => ?_)
  · have c1 : 40 ≤ (nrW w) := c1
    exfalso; omega
  · have c1 : (nrW w) < 40 := c1
    refine wn_ld (pc' := 10) (q := 0) (kin := 2) (v := .ref (q)) rfl (fun _ _ _ => rfl) rfl rfl ?_
    refine wn_get (pc' := 13) (v := .ref (q + 2)) rfl rfl l0 rfl ?_
    refine wn_ld (pc' := 14) (q := 0) (kin := 2) (v := .ref (q)) rfl (fun _ _ _ => rfl) rfl rfl ?_
    refine wn_get (pc' := 17) (v := .int (nI (nrW w))) rfl rfl l0 rfl ?_
    refine wn_ld (pc' := 18) (q := 1) (kin := 0) (v := .int (nI (a))) rfl (fun _ _ _ => rfl) rfl rfl ?_
    refine wn_iast (pc' := 19) (j := nrW w) rfl rfl l2 rfl (by omega) (by decide) ?_
    refine wn_ld (pc' := 20) (q := 0) (kin := 2) (v := .ref (q)) rfl (fun _ _ _ => rfl) rfl rfl ?_
    refine wn_get (pc' := 23) (v := .ref (q + 3)) rfl rfl (gs_ne (by omega) l0) rfl ?_
    refine wn_ld (pc' := 24) (q := 0) (kin := 2) (v := .ref (q)) rfl (fun _ _ _ => rfl) rfl rfl ?_
    refine wn_get (pc' := 27) (v := .int (nI (nrW w))) rfl rfl (gs_ne (by omega) l0) rfl ?_
    refine wn_ld (pc' := 28) (q := 2) (kin := 0) (v := .int (nI (b))) rfl (fun _ _ _ => rfl) rfl rfl ?_
    refine wn_iast (pc' := 29) (j := nrW w) rfl rfl (gs_ne (by omega) l3) rfl (by omega) (by decide) ?_
    refine wn_ld (pc' := 30) (q := 0) (kin := 2) (v := .ref (q)) rfl (fun _ _ _ => rfl) rfl rfl ?_
    refine wn_get (pc' := 33) (v := .ref (q + 4)) rfl rfl (gs_ne (by omega) (gs_ne (by omega) l0)) rfl ?_
    refine wn_ld (pc' := 34) (q := 0) (kin := 2) (v := .ref (q)) rfl (fun _ _ _ => rfl) rfl rfl ?_
    refine wn_get (pc' := 37) (v := .int (nI (nrW w))) rfl rfl (gs_ne (by omega) (gs_ne (by omega) l0)) rfl ?_
    refine wn_ld (pc' := 38) (q := 3) (kin := 0) (v := .int (nI (r))) rfl (fun _ _ _ => rfl) rfl rfl ?_
    refine wn_bastZ (pc' := 39) (j := nrW w) rfl rfl (gs_ne (by omega) (gs_ne (by omega) l4)) rfl (by omega) (by decide) ?_
    refine wn_ld (pc' := 40) (q := 0) (kin := 2) (v := .ref (q)) rfl (fun _ _ _ => rfl) rfl rfl ?_
    refine wn_get (pc' := 43) (v := .ref (q + 5)) rfl rfl (gs_ne (by omega) (gs_ne (by omega) (gs_ne (by omega) l0))) rfl ?_
    refine wn_ld (pc' := 44) (q := 0) (kin := 2) (v := .ref (q)) rfl (fun _ _ _ => rfl) rfl rfl ?_
    refine wn_get (pc' := 47) (v := .int (nI (nrW w))) rfl rfl (gs_ne (by omega) (gs_ne (by omega) (gs_ne (by omega) l0))) rfl ?_
    refine wn_ld (pc' := 48) (q := 0) (kin := 2) (v := .ref (q)) rfl (fun _ _ _ => rfl) rfl rfl ?_
    refine wn_ld (pc' := 49) (q := 1) (kin := 0) (v := .int (nI (a))) rfl (fun _ _ _ => rfl) rfl rfl ?_
    refine wn_ld (pc' := 50) (q := 2) (kin := 0) (v := .int (nI (b))) rfl (fun _ _ _ => rfl) rfl rfl ?_
    refine wn_virI (pc' := 53) rfl rfl (by decide) rfl rfl (gs_ne (by omega) (gs_ne (by omega) (gs_ne (by omega) l0))) (Nat.le_of_ble_eq_true rfl) (x_hasRoad _ _ q w a b _ _ _ _ _ (by omega) (by omega) (by omega) (gs_ne (by omega) (gs_ne (by omega) (gs_ne (by omega) l0))) (gs_ne (by omega) (gs_ne (by omega) (gs_self l2))) (gs_ne (by omega) (gs_self (gs_ne (by omega) l3))) (fun r hr => ⟨(pk_un (by omega)).trans ((g2 r hr).1.trans (wf_rda hJ.wf hr)), (pk_un (by omega)).trans ((g2 r hr).2.1.trans (wf_rdB hJ.wf hr))⟩) (fun r hr => by have := wf_rdb hJ.wf hr; omega)) ?_
    refine wn_bastZ (pc' := 54) (j := nrW w) rfl rfl (gs_ne (by omega) (gs_ne (by omega) (gs_ne (by omega) l5))) rfl (by omega) (by decide) ?_
    refine wn_ld (pc' := 55) (q := 0) (kin := 2) (v := .ref (q)) rfl (fun _ _ _ => rfl) rfl rfl ?_
    refine wn_pu (pc' := 56) (st' := [.ref (q), .ref (q)]) rfl (fun _ _ _ => rfl) rfl rfl ?_
    refine wn_get (pc' := 59) (v := .int (nI (nrW w))) rfl rfl (gs_ne (by omega) (gs_ne (by omega) (gs_ne (by omega) (gs_ne (by omega) l0)))) rfl ?_
    refine wn_ic (pc' := 60) (w := nI 1) rfl rfl (by decide) ?_
    refine wn_addN (pc' := 61) rfl rfl ?_
    refine wn_put (pc' := 64) rfl rfl (gs_ne (by omega) (gs_ne (by omega) (gs_ne (by omega) (gs_ne (by omega) l0)))) (Nat.le_of_ble_eq_true rfl) ⟨rfl, rfl⟩ ?_
    show Wn _ _ 64 _ [] (((((h.set (q + 2) (.inl (0, 40, .inl (upd rf (nrW w) ((nI (a))))))).set (q + 3) (.inl (0, 40, .inl (upd rt (nrW w) ((nI (b))))))).set (q + 4) (.inl (2, 40, .inl (upd rv (nrW w) (vp_nar .boolean (nI (r))))))).set (q + 5) (.inl (2, 40, .inl (upd ag (nrW w) (vp_nar .boolean (bI (∃ x, x < nrW w ∧ ((rdA w x = a ∧ rdB w x = b) ∨ (rdA w x = b ∧ rdB w x = a))))))))).set q (.inr (0, [.int (nI (lcW w)), .int (nI (nvW w)), .int (nI ((nrW w) + 1)), .int (nI (ntW w)), .ref (q + 1), .ref (q + 2), .ref (q + 3), .ref (q + 4), .ref (q + 5), .ref (q + 6), .ref (q + 7), .ref (q + 8), .ref (q + 9)]))) _
    refine wn_ld (pc' := 65) (q := 0) (kin := 2) (v := .ref (q)) rfl (fun _ _ _ => rfl) rfl rfl ?_
    refine wn_pu (pc' := 66) (st' := [.ref (q), .ref (q)]) rfl (fun _ _ _ => rfl) rfl rfl ?_
    refine wn_get (pc' := 69) (v := .int (nI (lcW w))) rfl rfl (gs_self (gs_ne (by omega) (gs_ne (by omega) (gs_ne (by omega) (gs_ne (by omega) l0))))) rfl ?_
    refine wn_ic (pc' := 70) (w := nI 1) rfl rfl (by decide) ?_
    refine wn_addN (pc' := 71) rfl rfl ?_
    refine wn_put (pc' := 74) rfl rfl (gs_self (gs_ne (by omega) (gs_ne (by omega) (gs_ne (by omega) (gs_ne (by omega) l0))))) (Nat.le_of_ble_eq_true rfl) ⟨rfl, rfl⟩ ?_
    show Wn _ _ 74 _ [] ((((((h.set (q + 2) (.inl (0, 40, .inl (upd rf (nrW w) ((nI (a))))))).set (q + 3) (.inl (0, 40, .inl (upd rt (nrW w) ((nI (b))))))).set (q + 4) (.inl (2, 40, .inl (upd rv (nrW w) (vp_nar .boolean (nI (r))))))).set (q + 5) (.inl (2, 40, .inl (upd ag (nrW w) (vp_nar .boolean (bI (∃ x, x < nrW w ∧ ((rdA w x = a ∧ rdB w x = b) ∨ (rdA w x = b ∧ rdB w x = a))))))))).set q (.inr (0, [.int (nI (lcW w)), .int (nI (nvW w)), .int (nI ((nrW w) + 1)), .int (nI (ntW w)), .ref (q + 1), .ref (q + 2), .ref (q + 3), .ref (q + 4), .ref (q + 5), .ref (q + 6), .ref (q + 7), .ref (q + 8), .ref (q + 9)]))).set q (.inr (0, [.int (nI ((lcW w) + 1)), .int (nI (nvW w)), .int (nI ((nrW w) + 1)), .int (nI (ntW w)), .ref (q + 1), .ref (q + 2), .ref (q + 3), .ref (q + 4), .ref (q + 5), .ref (q + 6), .ref (q + 7), .ref (q + 8), .ref (q + 9)]))) _
    have fr : Fr [q, q + 2, q + 3, q + 4, q + 5] h ((((((h.set (q + 2) (.inl (0, 40, .inl (upd rf (nrW w) ((nI (a))))))).set (q + 3) (.inl (0, 40, .inl (upd rt (nrW w) ((nI (b))))))).set (q + 4) (.inl (2, 40, .inl (upd rv (nrW w) (vp_nar .boolean (nI (r))))))).set (q + 5) (.inl (2, 40, .inl (upd ag (nrW w) (vp_nar .boolean (bI (∃ x, x < nrW w ∧ ((rdA w x = a ∧ rdB w x = b) ∨ (rdA w x = b ∧ rdB w x = a))))))))).set q (.inr (0, [.int (nI (lcW w)), .int (nI (nvW w)), .int (nI ((nrW w) + 1)), .int (nI (ntW w)), .ref (q + 1), .ref (q + 2), .ref (q + 3), .ref (q + 4), .ref (q + 5), .ref (q + 6), .ref (q + 7), .ref (q + 8), .ref (q + 9)]))).set q (.inr (0, [.int (nI ((lcW w) + 1)), .int (nI (nvW w)), .int (nI ((nrW w) + 1)), .int (nI (ntW w)), .ref (q + 1), .ref (q + 2), .ref (q + 3), .ref (q + 4), .ref (q + 5), .ref (q + 6), .ref (q + 7), .ref (q + 8), .ref (q + 9)]))) := (Fr.st (Fr.st (Fr.st (Fr.st (Fr.st (Fr.st (Fr.rfl' [q, q + 2, q + 3, q + 4, q + 5] h) (by simp)) (by simp)) (by simp)) (by simp)) (by simp)) (by simp))
    have nE := rod_n (w := w) (a := a) (b := b) (r := r) hb
    have E : ∀ p, p ≠ 0 → p ≠ 2 → p < 56 + 3 * nrW w ∨ 59 + 3 * nrW w ≤ p → linW (rodW w a b r) p = w p := fun p q1 q2 q3 => (lin_o q1).trans (rod_o q2 q3)
    have E0 : linW (rodW w a b r) 0 = nI (lcW w + 1) := by rw [lin_0, lc_e (rod_o (by omega) (by omega))]
    have E1 : linW (rodW w a b r) 1 = nI (nvW w) := (E 1 (by omega) (by omega) (by omega)).trans e1
    have E2 : linW (rodW w a b r) 2 = nI (nrW w + 1) := (lin_o (by omega)).trans rod_2
    have E3 : linW (rodW w a b r) 3 = nI (ntW w) := (E 3 (by omega) (by omega) (by omega)).trans e5
    have N1 : nvW (linW (rodW w a b r)) = nvW w := congrArg Int32.toNatClampNeg (E _ (by omega) (by omega) (by omega))
    have N2 : nrW (linW (rodW w a b r)) = nrW w + 1 := (congrArg Int32.toNatClampNeg (lin_o (by omega))).trans nE
    have N3 : ntW (linW (rodW w a b r)) = ntW w := congrArg Int32.toNatClampNeg (E _ (by omega) (by omega) (by omega))
    have A1 : ∀ x, x < nrW w → rdA (linW (rodW w a b r)) x = rdA w x ∧ rdB (linW (rodW w a b r)) x = rdB w x := fun x hx => ⟨congrArg Int32.toNatClampNeg (E _ (by omega) (by omega) (by omega)), congrArg Int32.toNatClampNeg (E _ (by omega) (by omega) (by omega))⟩
    have A2 : rdA (linW (rodW w a b r)) (nrW w) = a := by show (linW (rodW w a b r) (56 + 3 * nrW w)).toNatClampNeg = a; rw [lin_o (by omega), rod_a]; exact nI_clamp (by omega)
    have A3 : rdB (linW (rodW w a b r)) (nrW w) = b := by show (linW (rodW w a b r) (57 + 3 * nrW w)).toNatClampNeg = b; rw [lin_o (by omega), rod_b]; exact nI_clamp (by omega)
    have G2 : gRW (linW (rodW w a b r)) (upd rf (nrW w) (nI a)) (upd rt (nrW w) (nI b)) (upd rv (nrW w) (vp_nar .boolean (nI r))) (upd ag (nrW w) (vp_nar .boolean (bI (∃ x, x < nrW w ∧ ((rdA w x = a ∧ rdB w x = b) ∨ (rdA w x = b ∧ rdB w x = a)))))) := fun x hx => by
      rw [N2] at hx
      by_cases c : x = nrW w
      · subst c
        rw [pk_us, pk_us, pk_us, pk_us, A2, A3, nar_N h4, nar_bo]
        refine ⟨((lin_o (by omega)).trans rod_a).symm, ((lin_o (by omega)).trans rod_b).symm, ((lin_o (by omega)).trans rod_r).symm, bI_c ⟨fun ⟨y, y1, y2⟩ => ⟨y, y1, ?_⟩, fun ⟨y, y1, y2⟩ => ⟨y, y1, ?_⟩⟩⟩
        · rw [(A1 y y1).1, (A1 y y1).2]; exact y2
        · rw [(A1 y y1).1, (A1 y y1).2] at y2; exact y2
      · rw [pk_un c, pk_un c, pk_un c, pk_un c, E _ (by omega) (by omega) (by omega), E _ (by omega) (by omega) (by omega), E _ (by omega) (by omega) (by omega), (A1 x (by omega)).1, (A1 x (by omega)).2]
        obtain ⟨c1, c2, c3, c4⟩ := g2 x (by omega)
        refine ⟨c1, c2, c3, c4.trans (bI_c ⟨fun ⟨y, y1, y2⟩ => ⟨y, y1, ?_⟩, fun ⟨y, y1, y2⟩ => ⟨y, y1, ?_⟩⟩)⟩
        · rw [(A1 y (by omega)).1, (A1 y (by omega)).2]; exact y2
        · rw [(A1 y (by omega)).1, (A1 y (by omega)).2] at y2; exact y2
    have G3 : gBW (upd rv (nrW w) (vp_nar .boolean (nI r))) (upd ag (nrW w) (vp_nar .boolean (bI (∃ x, x < nrW w ∧ ((rdA w x = a ∧ rdB w x = b) ∨ (rdA w x = b ∧ rdB w x = a)))))) := fun x hx => by
      by_cases c : x = nrW w
      · subst c; rw [pk_us, pk_us, nar_N h4, nar_bo]
        refine ⟨?_, ?_⟩
        · rcases (show r = 0 ∨ r = 1 by omega) with q | q
          · subst q; exact Or.inl rfl
          · subst q; exact Or.inr rfl
        · by_cases q : ∃ x, x < nrW w ∧ ((rdA w x = a ∧ rdB w x = b) ∨ (rdA w x = b ∧ rdB w x = a))
          · exact Or.inr (bI_t q)
          · exact Or.inl (bI_f q)
      · rw [pk_un c, pk_un c]; exact g3 x hx
    refine wn_vret rfl rfl ⟨rfl, ⟨fr.1, fun k hk => fr.2 k (by simp only [List.mem_cons, List.not_mem_nil, or_false]; omega)⟩, LandR_mk (gs_self (gs_self (gs_ne (by omega) (gs_ne (by omega) (gs_ne (by omega) (gs_ne (by omega) l0)))))) E0 E1 E2 E3 (gs_ne (by omega) (gs_ne (by omega) (gs_ne (by omega) (gs_ne (by omega) (gs_ne (by omega) (gs_ne (by omega) l1)))))) (gs_ne (by omega) (gs_ne (by omega) (gs_ne (by omega) (gs_ne (by omega) (gs_ne (by omega) (gs_self l2)))))) (gs_ne (by omega) (gs_ne (by omega) (gs_ne (by omega) (gs_ne (by omega) (gs_self (gs_ne (by omega) l3)))))) (gs_ne (by omega) (gs_ne (by omega) (gs_ne (by omega) (gs_self (gs_ne (by omega) (gs_ne (by omega) l4)))))) (gs_ne (by omega) (gs_ne (by omega) (gs_self (gs_ne (by omega) (gs_ne (by omega) (gs_ne (by omega) l5)))))) (gs_ne (by omega) (gs_ne (by omega) (gs_ne (by omega) (gs_ne (by omega) (gs_ne (by omega) (gs_ne (by omega) l6)))))) (gs_ne (by omega) (gs_ne (by omega) (gs_ne (by omega) (gs_ne (by omega) (gs_ne (by omega) (gs_ne (by omega) l7)))))) (gs_ne (by omega) (gs_ne (by omega) (gs_ne (by omega) (gs_ne (by omega) (gs_ne (by omega) (gs_ne (by omega) l8)))))) (gV_ag (fun p h1 h2 => E p (by omega) (by omega) (by omega)) N1 (by omega) g1) G2 G3 (gI_ag (fun p h1 h2 => E p (by omega) (by omega) (by omega)) N3 (by omega) g4) (gT_ag (fun p h1 h2 => E p (by omega) (by omega) (by omega)) g5), (R2.kp (fun k p1 p2 => fr.2 k (by simp only [List.mem_cons, List.not_mem_nil, or_false]; omega))).gr e8 e10 (fun p h => E p (by omega) (by omega) (by omega)) (by omega) (fun i hi => g_va (fun p h1 h2 => E p (by omega) (by omega) (by omega)) (by omega))⟩

theorem x_addItem (d : Nat) (h : aH) (q : Nat) (w : Nat → Int32) (hJ : WJ w) (m s : Nat) (hb : ntW w < 10) (R1 : LandR h q w) (R2 : LawsR h (q + 9) w) : Sp (Rn (d + 1)) 5 [.ref (q), .int (nI (m)), .int (nI (s))] h (fun r9 h9 => r9 = none ∧ FrQ q h h9 ∧ LandR h9 q (linW (itmW w m s)) ∧ LawsR h9 (q + 9) (linW (itmW w m s))) := by
  obtain ⟨sz, rf, rt, rv, ag, vr, sd, tl, l0, l1, l2, l3, l4, l5, l6, l7, l8, g1, g2, g3, g4, g5⟩ := id R1
  obtain ⟨e0, e0b⟩ := wj_0 hJ
  obtain ⟨⟨e1, e2⟩, ⟨e3, e4⟩, ⟨e5, e6⟩⟩ := Wf_n hJ.wf
  obtain ⟨⟨e7, e8⟩, ⟨e9, e10⟩⟩ := Wf_m hJ.wf
  rw [e0, e1, e3, e5] at l0
  refine Sp_of (by decide) (Nat.le_of_ble_eq_true rfl) ?_
  show Wn _ _ 0 [(0, .ref (q)), (1, .int (nI (m))), (2, .int (nI (s)))] [] _ _
  refine wn_ld (pc' := 1) (q := 0) (kin := 2) (v := .ref (q)) rfl (fun _ _ _ => rfl) rfl rfl ?_
  refine wn_get (pc' := 4) (v := .int (nI (ntW w))) rfl rfl l0 rfl ?_
  refine wn_bp (pc' := 6) (w := nI 10) rfl rfl (by decide) ?_
  refine wn_icmpN (t := 39) (f := 9) rfl rfl rfl (by omega) (by omega) (fun c1 => ?_) (fun c1 => ?_)
  · have c1 : 10 ≤ (ntW w) := c1
    exfalso; omega
  · have c1 : (ntW w) < 10 := c1
    refine wn_ld (pc' := 10) (q := 0) (kin := 2) (v := .ref (q)) rfl (fun _ _ _ => rfl) rfl rfl ?_
    refine wn_get (pc' := 13) (v := .ref (q + 6)) rfl rfl l0 rfl ?_
    refine wn_ld (pc' := 14) (q := 0) (kin := 2) (v := .ref (q)) rfl (fun _ _ _ => rfl) rfl rfl ?_
    refine wn_get (pc' := 17) (v := .int (nI (ntW w))) rfl rfl l0 rfl ?_
    refine wn_ld (pc' := 18) (q := 1) (kin := 0) (v := .int (nI (m))) rfl (fun _ _ _ => rfl) rfl rfl ?_
    refine wn_iast (pc' := 19) (j := ntW w) rfl rfl l6 rfl (by omega) (by decide) ?_
    refine wn_ld (pc' := 20) (q := 0) (kin := 2) (v := .ref (q)) rfl (fun _ _ _ => rfl) rfl rfl ?_
    refine wn_get (pc' := 23) (v := .ref (q + 7)) rfl rfl (gs_ne (by omega) l0) rfl ?_
    refine wn_ld (pc' := 24) (q := 0) (kin := 2) (v := .ref (q)) rfl (fun _ _ _ => rfl) rfl rfl ?_
    refine wn_get (pc' := 27) (v := .int (nI (ntW w))) rfl rfl (gs_ne (by omega) l0) rfl ?_
    refine wn_ld (pc' := 28) (q := 2) (kin := 0) (v := .int (nI (s))) rfl (fun _ _ _ => rfl) rfl rfl ?_
    refine wn_iast (pc' := 29) (j := ntW w) rfl rfl (gs_ne (by omega) l7) rfl (by omega) (by decide) ?_
    refine wn_ld (pc' := 30) (q := 0) (kin := 2) (v := .ref (q)) rfl (fun _ _ _ => rfl) rfl rfl ?_
    refine wn_pu (pc' := 31) (st' := [.ref (q), .ref (q)]) rfl (fun _ _ _ => rfl) rfl rfl ?_
    refine wn_get (pc' := 34) (v := .int (nI (ntW w))) rfl rfl (gs_ne (by omega) (gs_ne (by omega) l0)) rfl ?_
    refine wn_ic (pc' := 35) (w := nI 1) rfl rfl (by decide) ?_
    refine wn_addN (pc' := 36) rfl rfl ?_
    refine wn_put (pc' := 39) rfl rfl (gs_ne (by omega) (gs_ne (by omega) l0)) (Nat.le_of_ble_eq_true rfl) ⟨rfl, rfl⟩ ?_
    show Wn _ _ 39 _ [] (((h.set (q + 6) (.inl (0, 10, .inl (upd vr (ntW w) ((nI (m))))))).set (q + 7) (.inl (0, 10, .inl (upd sd (ntW w) ((nI (s))))))).set q (.inr (0, [.int (nI (lcW w)), .int (nI (nvW w)), .int (nI (nrW w)), .int (nI ((ntW w) + 1)), .ref (q + 1), .ref (q + 2), .ref (q + 3), .ref (q + 4), .ref (q + 5), .ref (q + 6), .ref (q + 7), .ref (q + 8), .ref (q + 9)]))) _
    refine wn_ld (pc' := 40) (q := 0) (kin := 2) (v := .ref (q)) rfl (fun _ _ _ => rfl) rfl rfl ?_
    refine wn_pu (pc' := 41) (st' := [.ref (q), .ref (q)]) rfl (fun _ _ _ => rfl) rfl rfl ?_
    refine wn_get (pc' := 44) (v := .int (nI (lcW w))) rfl rfl (gs_self (gs_ne (by omega) (gs_ne (by omega) l0))) rfl ?_
    refine wn_ic (pc' := 45) (w := nI 1) rfl rfl (by decide) ?_
    refine wn_addN (pc' := 46) rfl rfl ?_
    refine wn_put (pc' := 49) rfl rfl (gs_self (gs_ne (by omega) (gs_ne (by omega) l0))) (Nat.le_of_ble_eq_true rfl) ⟨rfl, rfl⟩ ?_
    show Wn _ _ 49 _ [] ((((h.set (q + 6) (.inl (0, 10, .inl (upd vr (ntW w) ((nI (m))))))).set (q + 7) (.inl (0, 10, .inl (upd sd (ntW w) ((nI (s))))))).set q (.inr (0, [.int (nI (lcW w)), .int (nI (nvW w)), .int (nI (nrW w)), .int (nI ((ntW w) + 1)), .ref (q + 1), .ref (q + 2), .ref (q + 3), .ref (q + 4), .ref (q + 5), .ref (q + 6), .ref (q + 7), .ref (q + 8), .ref (q + 9)]))).set q (.inr (0, [.int (nI ((lcW w) + 1)), .int (nI (nvW w)), .int (nI (nrW w)), .int (nI ((ntW w) + 1)), .ref (q + 1), .ref (q + 2), .ref (q + 3), .ref (q + 4), .ref (q + 5), .ref (q + 6), .ref (q + 7), .ref (q + 8), .ref (q + 9)]))) _
    have fr : Fr [q, q + 6, q + 7] h ((((h.set (q + 6) (.inl (0, 10, .inl (upd vr (ntW w) ((nI (m))))))).set (q + 7) (.inl (0, 10, .inl (upd sd (ntW w) ((nI (s))))))).set q (.inr (0, [.int (nI (lcW w)), .int (nI (nvW w)), .int (nI (nrW w)), .int (nI ((ntW w) + 1)), .ref (q + 1), .ref (q + 2), .ref (q + 3), .ref (q + 4), .ref (q + 5), .ref (q + 6), .ref (q + 7), .ref (q + 8), .ref (q + 9)]))).set q (.inr (0, [.int (nI ((lcW w) + 1)), .int (nI (nvW w)), .int (nI (nrW w)), .int (nI ((ntW w) + 1)), .ref (q + 1), .ref (q + 2), .ref (q + 3), .ref (q + 4), .ref (q + 5), .ref (q + 6), .ref (q + 7), .ref (q + 8), .ref (q + 9)]))) := (Fr.st (Fr.st (Fr.st (Fr.st (Fr.rfl' [q, q + 6, q + 7] h) (by simp)) (by simp)) (by simp)) (by simp))
    have nE := itm_n (w := w) (m := m) (s := s) hb
    have E : ∀ p, p ≠ 0 → p ≠ 3 → p < 176 + 4 * ntW w ∨ 179 + 4 * ntW w ≤ p → linW (itmW w m s) p = w p := fun p q1 q2 q3 => (lin_o q1).trans (itm_o q2 q3)
    have E0 : linW (itmW w m s) 0 = nI (lcW w + 1) := by rw [lin_0, lc_e (itm_o (by omega) (by omega))]
    have E1 : linW (itmW w m s) 1 = nI (nvW w) := (E 1 (by omega) (by omega) (by omega)).trans e1
    have E2 : linW (itmW w m s) 2 = nI (nrW w) := (E 2 (by omega) (by omega) (by omega)).trans e3
    have E3 : linW (itmW w m s) 3 = nI (ntW w + 1) := (lin_o (by omega)).trans itm_3
    have N1 : nvW (linW (itmW w m s)) = nvW w := congrArg Int32.toNatClampNeg (E _ (by omega) (by omega) (by omega))
    have N2 : nrW (linW (itmW w m s)) = nrW w := congrArg Int32.toNatClampNeg (E _ (by omega) (by omega) (by omega))
    have N3 : ntW (linW (itmW w m s)) = ntW w + 1 := (congrArg Int32.toNatClampNeg (lin_o (by omega))).trans nE
    have G4 : gIW (linW (itmW w m s)) (upd vr (ntW w) (nI m)) (upd sd (ntW w) (nI s)) := fun x hx => by
      rw [N3] at hx
      by_cases c : x = ntW w
      · subst c; rw [pk_us, pk_us]; exact ⟨((lin_o (by omega)).trans itm_a).symm, ((lin_o (by omega)).trans itm_b).symm⟩
      · rw [pk_un c, pk_un c, E _ (by omega) (by omega) (by omega), E _ (by omega) (by omega) (by omega)]; exact g4 x (by omega)
    refine wn_vret rfl rfl ⟨rfl, ⟨fr.1, fun k hk => fr.2 k (by simp only [List.mem_cons, List.not_mem_nil, or_false]; omega)⟩, LandR_mk (gs_self (gs_self (gs_ne (by omega) (gs_ne (by omega) l0)))) E0 E1 E2 E3 (gs_ne (by omega) (gs_ne (by omega) (gs_ne (by omega) (gs_ne (by omega) l1)))) (gs_ne (by omega) (gs_ne (by omega) (gs_ne (by omega) (gs_ne (by omega) l2)))) (gs_ne (by omega) (gs_ne (by omega) (gs_ne (by omega) (gs_ne (by omega) l3)))) (gs_ne (by omega) (gs_ne (by omega) (gs_ne (by omega) (gs_ne (by omega) l4)))) (gs_ne (by omega) (gs_ne (by omega) (gs_ne (by omega) (gs_ne (by omega) l5)))) (gs_ne (by omega) (gs_ne (by omega) (gs_ne (by omega) (gs_self l6)))) (gs_ne (by omega) (gs_ne (by omega) (gs_self (gs_ne (by omega) l7)))) (gs_ne (by omega) (gs_ne (by omega) (gs_ne (by omega) (gs_ne (by omega) l8)))) (gV_ag (fun p h1 h2 => E p (by omega) (by omega) (by omega)) N1 (by omega) g1) (gR_ag (fun p h1 h2 => E p (by omega) (by omega) (by omega)) N2 (by omega) g2) g3 G4 (gT_ag (fun p h1 h2 => E p (by omega) (by omega) (by omega)) g5), (R2.kp (fun k p1 p2 => fr.2 k (by simp only [List.mem_cons, List.not_mem_nil, or_false]; omega))).gr e8 e10 (fun p h => E p (by omega) (by omega) (by omega)) (by omega) (fun i hi => (congrArg Int32.toNatClampNeg (lin_o (by omega))).trans (itm_va hi))⟩

theorem x_isToldR (d : Nat) (h : aH) (q : Nat) (w : Nat → Int32) (hJ : WJ w) (v i : Nat) (h1 : v < 24) (h2 : i < 10) (R1 : LandR h q w) (R2 : LawsR h (q + 9) w) : Rn (d + 1) 6 [.ref (q), .int (nI (v)), .int (nI (i))] h (some (.int (bI (¬ w (216 + 10 * v + i) = -1)))) h 0 0 := by
  obtain ⟨sz, rf, rt, rv, ag, vr, sd, tl, l0, l1, l2, l3, l4, l5, l6, l7, l8, g1, g2, g3, g4, g5⟩ := id R1
  obtain ⟨e0, e0b⟩ := wj_0 hJ
  obtain ⟨⟨e1, e2⟩, ⟨e3, e4⟩, ⟨e5, e6⟩⟩ := Wf_n hJ.wf
  obtain ⟨⟨e7, e8⟩, ⟨e9, e10⟩⟩ := Wf_m hJ.wf
  rw [e0, e1, e3, e5] at l0
  refine Rn_of (by decide) (Nat.le_of_ble_eq_true rfl) ?_
  show Wn _ _ 0 [(0, .ref (q)), (1, .int (nI (v))), (2, .int (nI (i)))] [] _ _
  refine wn_ld (pc' := 1) (q := 0) (kin := 2) (v := .ref (q)) rfl (fun _ _ _ => rfl) rfl rfl ?_
  refine wn_get (pc' := 4) (v := .ref (q + 8)) rfl rfl l0 rfl ?_
  refine wn_ld (pc' := 5) (q := 1) (kin := 0) (v := .int (nI (v))) rfl (fun _ _ _ => rfl) rfl rfl ?_
  refine wn_bp (pc' := 7) (w := nI 10) rfl rfl (by decide) ?_
  refine wn_mulN (pc' := 8) rfl rfl ?_
  refine wn_ld (pc' := 9) (q := 2) (kin := 0) (v := .int (nI (i))) rfl (fun _ _ _ => rfl) rfl rfl ?_
  refine wn_addN (pc' := 10) rfl rfl ?_
  refine wn_ialdv (pc' := 11) (j := (v * 10) + i) (v := (w (216 + 10 * v + i))) rfl rfl l8 rfl (by omega) (by decide) ((g5 _ (by omega)).trans (congrArg w (by omega))) ?_
  refine wn_ic (pc' := 12) (w := -1) rfl rfl (by decide) ?_
  refine wn_icmp (t := 19) (f := 15) rfl rfl rfl (fun c1 => ?_) (fun c1 => ?_)
  · have c1 : ((w (216 + 10 * v + i))) = ((-1)) := c1
    refine wn_ic (pc' := 20) (w := nI 0) rfl rfl (by decide) ?_
    exact wn_iret rfl rfl (by decide) ⟨congrArg (fun z => some (Value.int z)) (bI_f0 (fun q => q c1)), rfl⟩
  · have c1 : ¬ ((w (216 + 10 * v + i))) = ((-1)) := c1
    refine wn_ic (pc' := 16) (w := nI 1) rfl rfl (by decide) ?_
    refine wn_jp (pc' := 20) rfl rfl ?_
    exact wn_iret rfl rfl (by decide) ⟨congrArg (fun z => some (Value.int z)) (bI_t1 c1), rfl⟩

theorem x_tell (d : Nat) (h : aH) (q : Nat) (w : Nat → Int32) (hJ : WJ w) (v i a : Nat) (h1 : v < 24) (h2 : i < 10) (R1 : LandR h q w) (R2 : LawsR h (q + 9) w) : Sp (Rn (d + 1)) 7 [.ref (q), .int (nI (v)), .int (nI (i)), .int (nI (a))] h (fun r9 h9 => r9 = none ∧ FrQ q h h9 ∧ LandR h9 q (linW (sayW w v i a)) ∧ LawsR h9 (q + 9) (linW (sayW w v i a))) := by
  obtain ⟨sz, rf, rt, rv, ag, vr, sd, tl, l0, l1, l2, l3, l4, l5, l6, l7, l8, g1, g2, g3, g4, g5⟩ := id R1
  obtain ⟨e0, e0b⟩ := wj_0 hJ
  obtain ⟨⟨e1, e2⟩, ⟨e3, e4⟩, ⟨e5, e6⟩⟩ := Wf_n hJ.wf
  obtain ⟨⟨e7, e8⟩, ⟨e9, e10⟩⟩ := Wf_m hJ.wf
  rw [e0, e1, e3, e5] at l0
  refine Sp_of (by decide) (Nat.le_of_ble_eq_true rfl) ?_
  show Wn _ _ 0 [(0, .ref (q)), (1, .int (nI (v))), (2, .int (nI (i))), (3, .int (nI (a)))] [] _ _
  refine wn_ld (pc' := 1) (q := 0) (kin := 2) (v := .ref (q)) rfl (fun _ _ _ => rfl) rfl rfl ?_
  refine wn_get (pc' := 4) (v := .ref (q + 8)) rfl rfl l0 rfl ?_
  refine wn_ld (pc' := 5) (q := 1) (kin := 0) (v := .int (nI (v))) rfl (fun _ _ _ => rfl) rfl rfl ?_
  refine wn_bp (pc' := 7) (w := nI 10) rfl rfl (by decide) ?_
  refine wn_mulN (pc' := 8) rfl rfl ?_
  refine wn_ld (pc' := 9) (q := 2) (kin := 0) (v := .int (nI (i))) rfl (fun _ _ _ => rfl) rfl rfl ?_
  refine wn_addN (pc' := 10) rfl rfl ?_
  refine wn_ld (pc' := 11) (q := 3) (kin := 0) (v := .int (nI (a))) rfl (fun _ _ _ => rfl) rfl rfl ?_
  refine wn_iast (pc' := 12) (j := (v * 10) + i) rfl rfl l8 rfl (by omega) (by decide) ?_
  refine wn_ld (pc' := 13) (q := 0) (kin := 2) (v := .ref (q)) rfl (fun _ _ _ => rfl) rfl rfl ?_
  refine wn_pu (pc' := 14) (st' := [.ref (q), .ref (q)]) rfl (fun _ _ _ => rfl) rfl rfl ?_
  refine wn_get (pc' := 17) (v := .int (nI (lcW w))) rfl rfl (gs_ne (by omega) l0) rfl ?_
  refine wn_ic (pc' := 18) (w := nI 1) rfl rfl (by decide) ?_
  refine wn_addN (pc' := 19) rfl rfl ?_
  refine wn_put (pc' := 22) rfl rfl (gs_ne (by omega) l0) (Nat.le_of_ble_eq_true rfl) ⟨rfl, rfl⟩ ?_
  show Wn _ _ 22 _ [] ((h.set (q + 8) (.inl (0, 240, .inl (upd tl ((v * 10) + i) ((nI (a))))))).set q (.inr (0, [.int (nI ((lcW w) + 1)), .int (nI (nvW w)), .int (nI (nrW w)), .int (nI (ntW w)), .ref (q + 1), .ref (q + 2), .ref (q + 3), .ref (q + 4), .ref (q + 5), .ref (q + 6), .ref (q + 7), .ref (q + 8), .ref (q + 9)]))) _
  have fr : Fr [q, q + 8] h ((h.set (q + 8) (.inl (0, 240, .inl (upd tl ((v * 10) + i) ((nI (a))))))).set q (.inr (0, [.int (nI ((lcW w) + 1)), .int (nI (nvW w)), .int (nI (nrW w)), .int (nI (ntW w)), .ref (q + 1), .ref (q + 2), .ref (q + 3), .ref (q + 4), .ref (q + 5), .ref (q + 6), .ref (q + 7), .ref (q + 8), .ref (q + 9)]))) := (Fr.st (Fr.st (Fr.rfl' [q, q + 8] h) (by simp)) (by simp))
  have E : ∀ p, p ≠ 0 → p ≠ 216 + 10 * v + i → linW (sayW w v i a) p = w p := fun p q1 q2 => (lin_o q1).trans (say_o q2)
  have E0 : linW (sayW w v i a) 0 = nI (lcW w + 1) := by rw [lin_0, lc_e (say_o (by omega))]
  have E1 : linW (sayW w v i a) 1 = nI (nvW w) := (E 1 (by omega) (by omega)).trans e1
  have N1 : nvW (linW (sayW w v i a)) = nvW w := congrArg Int32.toNatClampNeg (E _ (by omega) (by omega))
  have E2 : linW (sayW w v i a) 2 = nI (nrW w) := (E 2 (by omega) (by omega)).trans e3
  have N2 : nrW (linW (sayW w v i a)) = nrW w := congrArg Int32.toNatClampNeg (E _ (by omega) (by omega))
  have E3 : linW (sayW w v i a) 3 = nI (ntW w) := (E 3 (by omega) (by omega)).trans e5
  have N3 : ntW (linW (sayW w v i a)) = ntW w := congrArg Int32.toNatClampNeg (E _ (by omega) (by omega))
  have G5 : gTW (linW (sayW w v i a)) (upd tl (v * 10 + i) (nI a)) := fun x hx => by
    by_cases c : x = v * 10 + i
    · subst c; rw [pk_us, show 216 + (v * 10 + i) = 216 + 10 * v + i by omega]; exact ((lin_o (by omega)).trans pk_us).symm
    · rw [pk_un c, E _ (by omega) (by omega)]; exact g5 x hx
  refine wn_vret rfl rfl ⟨rfl, ⟨fr.1, fun k hk => fr.2 k (by simp only [List.mem_cons, List.not_mem_nil, or_false]; omega)⟩, LandR_mk (gs_self (gs_ne (by omega) l0)) E0 E1 E2 E3 (gs_ne (by omega) (gs_ne (by omega) l1)) (gs_ne (by omega) (gs_ne (by omega) l2)) (gs_ne (by omega) (gs_ne (by omega) l3)) (gs_ne (by omega) (gs_ne (by omega) l4)) (gs_ne (by omega) (gs_ne (by omega) l5)) (gs_ne (by omega) (gs_ne (by omega) l6)) (gs_ne (by omega) (gs_ne (by omega) l7)) (gs_ne (by omega) (gs_self l8)) (gV_ag (fun p h1 h2 => E p (by omega) (by omega)) N1 (by omega) g1) (gR_ag (fun p h1 h2 => E p (by omega) (by omega)) N2 (by omega) g2) g3 (gI_ag (fun p h1 h2 => E p (by omega) (by omega)) N3 (by omega) g4) G5, (R2.kp (fun k p1 p2 => fr.2 k (by simp only [List.mem_cons, List.not_mem_nil, or_false]; omega))).gr e8 e10 (fun p h => E p (by omega) (by omega)) (by omega) (fun i hi => g_va (fun p h1 h2 => E p (by omega) (by omega)) (by omega))⟩

