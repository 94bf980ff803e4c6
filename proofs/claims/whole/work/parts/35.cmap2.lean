/-! THE CLASS'S MAP: reach -/
def RwR (w : Nat → Int32) (i y : Nat) (vr : Nat → Int32) : Prop := ∀ y' v', y' ≤ y → v' < nvW w → vr ((i * 61 + y') * 24 + v') = nI (sdW w y' v' i)
noncomputable def stV (w : Nat → Int32) (i y v : Nat) : Nat := @ite Nat (∃ v', v' < v ∧ laW w y v' i ≠ none) (Classical.propDecidable _) (y + 1) (stW w i y)
theorem stV_0 (w : Nat → Int32) (i y : Nat) : stV w i y 0 = stW w i y := if_neg (fun ⟨_, q, _⟩ => absurd q (by omega))
theorem stV_e (w : Nat → Int32) (i y : Nat) : stV w i y (nvW w) = stW w i (y + 1) := rfl
theorem stV_n {w : Nat → Int32} {i y v : Nat} (h : laW w y v i = none) : stV w i y (v + 1) = stV w i y v := by
  unfold stV
  by_cases c : ∃ v', v' < v ∧ laW w y v' i ≠ none
  · rw [if_pos c, if_pos (by obtain ⟨v', q1, q2⟩ := c; exact ⟨v', by omega, q2⟩)]
  · rw [if_neg c, if_neg]
    rintro ⟨v', q1, q2⟩
    by_cases e : v' = v
    · subst e; exact q2 h
    · exact c ⟨v', by omega, q2⟩
theorem stV_t {w : Nat → Int32} {i y v l : Nat} (h : laW w y v i = some l) : stV w i y (v + 1) = y + 1 := if_pos ⟨v, by omega, by rw [h]; exact fun q => by cases q⟩
def RvI (w : Nat → Int32) (i y v : Nat) (vr st : Nat → Int32) : Prop := RwR w i y vr ∧ (∀ v', v' < v → vr ((i * 61 + (y + 1)) * 24 + v') = nI (sdW w (y + 1) v' i)) ∧ st i = nI (stV w i y v)
theorem RvI_e {w : Nat → Int32} {i y : Nat} {vr st : Nat → Int32} (H : RvI w i y (nvW w) vr st) : RwR w i (y + 1) vr := fun y' v' h1 h2 => by
  by_cases e : y' = y + 1
  · subst e; exact H.2.1 v' h2
  · exact H.1 y' v' (by omega) h2
theorem RvI_s {w : Nat → Int32} (hWf : WfW w) {i y v : Nat} {vr st st' : Nat → Int32} {x : Int32} (H : RvI w i y v vr st) (hv : v < nvW w) (hx : x = nI (sdW w (y + 1) v i)) (hs : st' i = nI (stV w i y (v + 1))) : RvI w i y (v + 1) (upd vr ((i * 61 + (y + 1)) * 24 + v) x) st' := by
  have := hWf.1.2.1.2
  refine ⟨fun y' v' h1 h2 => ?_, fun v' h1 => ?_, hs⟩
  · rw [pk_un (by omega)]; exact H.1 y' v' h1 h2
  · by_cases e : v' = v
    · subst e; rw [pk_us]; exact hx
    · rw [pk_un (by omega)]; exact H.2.1 v' (by omega)
theorem laW_af {w : Nat → Int32} {i : Nat} (h : ¬ afW w i) (y v : Nat) : laW w y v i = none := frst_none (fun l hl q => h ⟨l, hl, q.1⟩)
theorem thn_n {w : Nat → Int32} (hWf : WfW w) {i y v : Nat} (hv : v < nvW w) (hi : i < ntW w) (h : laW w y v i = none) : vp_nar .byte ((nI (sdW w y v i)).toInt8.toInt32) = nI (sdW w (y + 1) v i) := by
  rw [sdW_n h]; exact nar_v (sdW_5 hWf hv hi)
theorem thn_s {w : Nat → Int32} (hWf : WfW w) {i y v l : Nat} (hv : v < nvW w) (hi : i < ntW w) (h : laW w y v i = some l) : vp_nar .byte ((w (458 + 6 * l)).toInt8.toInt32) = nI (sdW w (y + 1) v i) := by
  have b := sdW_5 hWf (y := y + 1) hv hi
  rw [sdW_s h] at b ⊢
  have e := (laW_l hWf h).2
  generalize (w (458 + 6 * l)).toNatClampNeg = a at b e ⊢
  rw [e]; exact nar_v b
def StR (h9 : aH) (w : Nat → Int32) (i y : Nat) : Prop := ∃ (stl : Nat → Int32) (r : Nat), isI h9 54 10 stl ∧ y ≤ r ∧ r ≤ 60 ∧ stl i = nI (stW w i r)
def RcP (h h9 : aH) (ls : Nat) (w : Nat → Int32) (i y : Nat) : Prop := Fr [53, 54, 55, 56, 57] h h9 ∧ SpreadR h9 ls w ∧ (Rch h9 w i y ∧ StR h9 w i y) ∧ ∀ i' y', i' < 10 → y' ≤ 60 → Rch h w i' y' → Rch h9 w i' y'
theorem reach_end {h g : aH} {ls : Nat} {w : Nat → Int32} {i y yr : Nat} {re stl vr re' st' vr' ne' ms' : Nat → Int32} (V : XV h ls w) (hi : i < ntW w) (hi10 : i < 10) (s3 : isB h 55 14640 vr) (s6 : ∀ i, i < 10 → (re i = -1 ∧ stl i = 0) ∨ ∃ r, r ≤ 60 ∧ i < ntW w ∧ re i = nI r ∧ stl i = nI (stW w i r) ∧ ∀ y v, y ≤ r → v < nvW w → vr ((i * 61 + y) * 24 + v) = nI (sdW w y v i)) (hf : Fr [53, 54, 55, 56, 57] h g) (c1 : isI g 53 10 re') (c2 : isI g 54 10 st') (c3 : isB g 55 14640 vr') (c4 : isI g 56 120 ne') (c5 : isI g 57 120 ms') (hre : ∀ i9, i9 ≠ i → re' i9 = re i9) (er : re' i = nI y) (hst : ∀ i9, i9 ≠ i → st' i9 = stl i9) (es : st' i = nI (stW w i y)) (hrw : RwR w i y vr') (hIm : Imp w vr vr') (hy : y ≤ 60) (hyr : yr ≤ y) : RcP h g ls w i yr := by
  refine ⟨hf, ⟨re', st', vr', ne', ms', V.2.2.2.kp (hf.2 52 (by decide)), c1, c2, c3, c4, c5, fun i' h1 => ?_⟩, ⟨⟨vr', c3, fun y' v' q1 q2 => hrw y' v' (by omega) q2⟩, st', y, c2, hyr, hy, es⟩, fun i' y' h1 h2 R => ?_⟩
  · by_cases e : i' = i
    · subst e
      exact Or.inr ⟨y, hy, hi, er, es, hrw⟩
    · rw [hre i' e, hst i' e]
      rcases s6 i' h1 with q | ⟨r, q1, q2, q3, q4, q5⟩
      · exact Or.inl q
      · exact Or.inr ⟨r, q1, q2, q3, q4, fun y' v' p1 p2 => Imp_r hIm h1 (by omega) p2 (q5 y' v' p1 p2)⟩
  · obtain ⟨vr0, r1, r2⟩ := R
    have e : vr0 = vr := by
      have := r1.symm.trans s3
      injection this with this; injection this with this; injection this with _ this; injection this with _ this; injection this
    subst e
    exact ⟨vr', c3, fun y9 v9 q1 q2 => Imp_r hIm h1 (by omega) q2 (r2 y9 v9 q1 q2)⟩
theorem x_reach (d : Nat) (h : aH) (ls : Nat) (w : Nat → Int32) (hWf : WfW w) (V : XV h ls w) (SP : SpreadR h ls w) (i yr : Nat) (hi : i < ntW w) (hyr : yr ≤ 60) : Sp (Rn (d + 5)) 52 [.ref (52), .int (nI (i)), .int (nI (yr))] h (fun r9 h9 => r9 = none ∧ RcP h h9 ls w i yr) := by
  obtain ⟨⟨e1, e2⟩, ⟨e3, e4⟩, ⟨e5, e6⟩⟩ := Wf_n hWf
  obtain ⟨⟨e7, e8⟩, ⟨e9, e10⟩⟩ := Wf_m hWf
  obtain ⟨v0, ⟨x9, v1⟩, ⟨v2, ⟨sz, rf, rt, rv, ag, vr, sd, tl, l0, l1, l2, l3, l4, l5, l6, l7, l8, g1, g2, g3, g4, g5⟩, ⟨sec, it, fi, se, sg, lst, rs, rp, pj, pk, pv, k0, k1, k2, k3, k4, k5, k6, k7, k8, k9, k10, k11, k12, k13⟩, ⟨hv, hc, y0, y1, y2, y3, y4⟩, ⟨an, wk, n0, n1, n2, n3, n4⟩⟩, v3⟩ := id V
  rw [e1, e3, e5] at l0
  rw [e7, e9] at k1
  obtain ⟨re, stl, vr, ne, ms, s0, s1, s2, s3, s4, s5, s6⟩ := id SP
  refine Sp_of (by decide) (Nat.le_of_ble_eq_true rfl) ?_
  show Wn _ _ 0 [(0, .ref (52)), (1, .int (nI (i))), (2, .int (nI (yr)))] [] _ _
  have jn1 : ∀ (g0 : aH) (re1 : Nat → Int32) (vr1 : Nat → Int32), Fr [53, 54, 55, 56, 57] h g0 → isI g0 53 10 re1 → isI g0 54 10 stl → isB g0 55 14640 vr1 → isI g0 56 120 ne → isI g0 57 120 ms → (∀ i9, i9 ≠ i → re1 i9 = re i9) → (∃ r, r ≤ 60 ∧ re1 i = nI r ∧ stl i = nI (stW w i r) ∧ RwR w i r vr1) → Imp w vr vr1 → Wn (Rn (d + 4)) 52 15 [(0, .ref (52)), (1, .int (nI (i))), (2, .int (nI (yr)))] [] (g0) (fun r9 h9 => r9 = none ∧ RcP h h9 ls w i yr) := by
    intro g0 re1 vr1 hf_g0 c53_g0 c54_g0 c55_g0 c56_g0 c57_g0 hre0 hR0 hIm0
    have V_g0 : XV g0 ls w := XV.frl V hf_g0 (by decide)
    obtain ⟨r, r60, er0, es0, hrw0⟩ := hR0
    refine wn_ld (pc' := 16) (q := 0) (kin := 2) (v := .ref (52)) rfl (fun _ _ _ => rfl) rfl rfl ?_
    refine wn_get (pc' := 19) (v := .ref (ls)) rfl rfl ((hf_g0.2 52 (by decide)).trans v3) rfl ?_
    refine wn_get (pc' := 22) (v := .ref (ls + 9)) rfl rfl ((hf_g0.2 ls (by simp only [List.mem_cons, List.not_mem_nil, or_false]; omega)).trans l0) rfl ?_
    refine wn_ld (pc' := 23) (q := 1) (kin := 0) (v := .int (nI (i))) rfl (fun _ _ _ => rfl) rfl rfl ?_
    refine wn_virI (pc' := 26) rfl rfl (by decide) rfl rfl ((hf_g0.2 (ls + 9) (by simp only [List.mem_cons, List.not_mem_nil, or_false]; omega)).trans k1) (Nat.le_of_ble_eq_true rfl) (x_areFor _ _ ls w hWf V_g0 i (by omega)) ?_
    refine wn_st (pc' := 27) (q := 3) (kin := 0) (lv' := [(0, .ref (52)), (1, .int (nI (i))), (2, .int (nI (yr))), (3, .int (bI (afW w i)))]) rfl (fun _ _ _ => rfl) rfl (Nat.le_of_ble_eq_true rfl) rfl ?_
    refine wn_ld (pc' := 28) (q := 0) (kin := 2) (v := .ref (52)) rfl (fun _ _ _ => rfl) rfl rfl ?_
    refine wn_get (pc' := 31) (v := .ref (53)) rfl rfl ((hf_g0.2 52 (by decide)).trans v3) rfl ?_
    refine wn_ld (pc' := 32) (q := 1) (kin := 0) (v := .int (nI (i))) rfl (fun _ _ _ => rfl) rfl rfl ?_
    refine wn_ialdv (pc' := 33) (j := i) (v := (nI (r))) rfl rfl c53_g0 rfl (by omega) (by decide) (er0) ?_
    refine wn_st (pc' := 35) (q := 4) (kin := 0) (lv' := [(0, .ref (52)), (1, .int (nI (i))), (2, .int (nI (yr))), (3, .int (bI (afW w i))), (4, .int (nI (r)))]) rfl (fun _ _ _ => rfl) rfl (Nat.le_of_ble_eq_true rfl) rfl ?_
    have lp3 : ∀ (n_lp3 : Nat) (g2 : aH) (re2 : Nat → Int32) (st2 : Nat → Int32) (vr2 : Nat → Int32) (ne2 : Nat → Int32) (ms2 : Nat → Int32) (y : Nat), 60 + 1 ≤ y + n_lp3 → Fr [53, 54, 55, 56, 57] h g2 → isI g2 53 10 re2 → isI g2 54 10 st2 → isB g2 55 14640 vr2 → isI g2 56 120 ne2 → isI g2 57 120 ms2 → y ≤ 60 → (∀ i9, i9 ≠ i → re2 i9 = re i9) → re2 i = nI y → (∀ i9, i9 ≠ i → st2 i9 = stl i9) → st2 i = nI (stW w i y) → RwR w i y vr2 → Imp w vr vr2 → Wn (Rn (d + 4)) 52 35 [(0, .ref (52)), (1, .int (nI (i))), (2, .int (nI (yr))), (3, .int (bI (afW w i))), (4, .int (nI (y)))] [] (g2) (fun r9 h9 => r9 = none ∧ RcP h h9 ls w i yr) := by
      intro n_lp3
      induction n_lp3 with
      | zero => intro g2 re2 st2 vr2 ne2 ms2 y hm_lp3 hf_g2 c_53_g2 c_54_g2 c_55_g2 c_56_g2 c_57_g2 hy hre er hst es hrw hIm; exfalso; omega
      | succ n_lp3 ih_lp3 =>
        intro g2 re2 st2 vr2 ne2 ms2 y hm_lp3 hf_g2 c_53_g2 c_54_g2 c_55_g2 c_56_g2 c_57_g2 hy hre er hst es hrw hIm
        have V_g2 : XV g2 ls w := XV.frl V hf_g2 (by decide)
        refine wn_ld (pc' := 37) (q := 4) (kin := 0) (v := .int (nI (y))) rfl (fun _ _ _ => rfl) rfl rfl ?_
        refine wn_ld (pc' := 38) (q := 2) (kin := 0) (v := .int (nI (yr))) rfl (fun _ _ _ => rfl) rfl rfl ?_
        refine wn_icmpN (t := 176) (f := 41) rfl rfl rfl (by omega) (by omega) (fun c4 => ?_) (fun c4 => ?_)
        · have c4 : yr ≤ y := c4
          exact wn_vret rfl rfl ⟨rfl, reach_end V hi (by omega) s3 s6 hf_g2 c_53_g2 c_54_g2 c_55_g2 c_56_g2 c_57_g2 hre er hst es hrw hIm (by omega) (by omega)⟩
        · have c4 : y < yr := c4
          refine wn_ld (pc' := 43) (q := 4) (kin := 0) (v := .int (nI (y))) rfl (fun _ _ _ => rfl) rfl rfl ?_
          refine wn_bp (pc' := 45) (w := nI 60) rfl rfl (by decide) ?_
          refine wn_icmpN (t := 176) (f := 48) rfl rfl rfl (by omega) (by omega) (fun c5 => ?_) (fun c5 => ?_)
          · have c5 : 60 ≤ y := c5
            exact wn_vret rfl rfl ⟨rfl, reach_end V hi (by omega) s3 s6 hf_g2 c_53_g2 c_54_g2 c_55_g2 c_56_g2 c_57_g2 hre er hst es hrw hIm (by omega) (by omega)⟩
          · have c5 : y < 60 := c5
            refine wn_ld (pc' := 49) (q := 3) (kin := 0) (v := .int (bI (afW w i))) rfl (fun _ _ _ => rfl) rfl rfl ?_
            refine wn_ifeqB (t := 59) (f := 52) rfl rfl rfl (fun c6 => ?_) (fun c6 => ?_)
            · have c6 : ¬ (afW w i) := c6
              refine wn_ic (pc' := 60) (w := nI 0) rfl rfl (by decide) ?_
              refine wn_st (pc' := 62) (q := 5) (kin := 0) (lv' := [(0, .ref (52)), (1, .int (nI (i))), (2, .int (nI (yr))), (3, .int (bI (afW w i))), (4, .int (nI (y))), (5, .int (nI (0)))]) rfl (fun _ _ _ => rfl) rfl (Nat.le_of_ble_eq_true rfl) rfl ?_
              have lp8 : ∀ (n_lp8 : Nat) (g7 : aH) (st3 : Nat → Int32) (vr3 : Nat → Int32) (v : Nat), (nvW w) + 1 ≤ v + n_lp8 → Fr [53, 54, 55, 56, 57] h g7 → isI g7 53 10 re2 → isI g7 54 10 st3 → isB g7 55 14640 vr3 → isI g7 56 120 ne2 → isI g7 57 120 ms2 → v ≤ nvW w → (∀ i9, i9 ≠ i → st3 i9 = stl i9) → RvI w i y v vr3 st3 → Imp w vr vr3 → Wn (Rn (d + 4)) 52 62 [(0, .ref (52)), (1, .int (nI (i))), (2, .int (nI (yr))), (3, .int (bI (afW w i))), (4, .int (nI (y))), (5, .int (nI (v)))] [] (g7) (fun r9 h9 => r9 = none ∧ RcP h h9 ls w i yr) := by
                intro n_lp8
                induction n_lp8 with
                | zero => intro g7 st3 vr3 v hm_lp8 hf_g7 c_53_g7 c_54_g7 c_55_g7 c_56_g7 c_57_g7 hv5 hst3 hrv hIm3; exfalso; omega
                | succ n_lp8 ih_lp8 =>
                  intro g7 st3 vr3 v hm_lp8 hf_g7 c_53_g7 c_54_g7 c_55_g7 c_56_g7 c_57_g7 hv5 hst3 hrv hIm3
                  have V_g7 : XV g7 ls w := XV.frl V hf_g7 (by decide)
                  refine wn_ld (pc' := 64) (q := 5) (kin := 0) (v := .int (nI (v))) rfl (fun _ _ _ => rfl) rfl rfl ?_
                  refine wn_ld (pc' := 65) (q := 0) (kin := 2) (v := .ref (52)) rfl (fun _ _ _ => rfl) rfl rfl ?_
                  refine wn_get (pc' := 68) (v := .ref (ls)) rfl rfl ((hf_g7.2 52 (by decide)).trans v3) rfl ?_
                  refine wn_get (pc' := 71) (v := .int (nI (nvW w))) rfl rfl ((hf_g7.2 ls (by simp only [List.mem_cons, List.not_mem_nil, or_false]; omega)).trans l0) rfl ?_
                  refine wn_icmpN (t := 160) (f := 74) rfl rfl rfl (by omega) (by omega) (fun c9 => ?_) (fun c9 => ?_)
                  · have c9 : (nvW w) ≤ v := c9
                    obtain rfl : v = nvW w := by omega
                    refine wn_ld (pc' := 161) (q := 0) (kin := 2) (v := .ref (52)) rfl (fun _ _ _ => rfl) rfl rfl ?_
                    refine wn_get (pc' := 164) (v := .ref (53)) rfl rfl ((hf_g7.2 52 (by decide)).trans v3) rfl ?_
                    refine wn_ld (pc' := 165) (q := 1) (kin := 0) (v := .int (nI (i))) rfl (fun _ _ _ => rfl) rfl rfl ?_
                    refine wn_ld (pc' := 167) (q := 4) (kin := 0) (v := .int (nI (y))) rfl (fun _ _ _ => rfl) rfl rfl ?_
                    refine wn_ic (pc' := 168) (w := nI 1) rfl rfl (by decide) ?_
                    refine wn_addN (pc' := 169) rfl rfl ?_
                    refine wn_iast (pc' := 170) (j := i) rfl rfl c_53_g7 rfl (by omega) (by decide) ?_
                    refine wn_incN (n := 1) (pc' := 173) (lv' := [(0, .ref (52)), (1, .int (nI (i))), (2, .int (nI (yr))), (3, .int (bI (afW w i))), (4, .int (nI (y + 1))), (5, .int (nI ((nvW w))))]) rfl rfl rfl (Nat.le_of_ble_eq_true rfl) rfl (by decide) ?_
                    refine wn_jp (pc' := 35) rfl rfl ?_
                    refine wn_weak (lv' := [(0, .ref (52)), (1, .int (nI (i))), (2, .int (nI (yr))), (3, .int (bI (afW w i))), (4, .int (nI (y + 1)))]) (by simp) ?_
                    have z9 := ih_lp3 (g7.set 53 (.inl (0, 10, .inl (upd re2 (i) ((nI (y + 1))))))) (upd re2 (i) ((nI (y + 1)))) st3 vr3 ne2 ms2 (y + 1) (by omega) (Fr.st hf_g7 (by decide)) (gs_self c_53_g7) (gs_ne (by decide) c_54_g7) (gs_ne (by decide) c_55_g7) (gs_ne (by decide) c_56_g7) (gs_ne (by decide) c_57_g7) (by omega) (fun i9 q => by rw [pk_un (by omega)]; exact hre i9 q) pk_us hst3 hrv.2.2 (RvI_e hrv) hIm3
                    exact z9
                  · have c9 : v < (nvW w) := c9
                    refine wn_ld (pc' := 75) (q := 3) (kin := 0) (v := .int (bI (afW w i))) rfl (fun _ _ _ => rfl) rfl rfl ?_
                    refine wn_ifeqB (t := 90) (f := 78) rfl rfl rfl (fun c10 => ?_) (fun c10 => ?_)
                    · have c10 : ¬ (afW w i) := c10
                      have ho9 : laW w y v i = none := laW_af c6 y v
                      refine wn_ic (pc' := 91) (w := -1) rfl rfl (by decide) ?_
                      refine wn_st (pc' := 93) (q := 6) (kin := 0) (lv' := [(0, .ref (52)), (1, .int (nI (i))), (2, .int (nI (yr))), (3, .int (bI (afW w i))), (4, .int (nI (y))), (5, .int (nI (v))), (6, .int (-1))]) rfl (fun _ _ _ => rfl) rfl (Nat.le_of_ble_eq_true rfl) rfl ?_
                      refine wn_ld (pc' := 94) (q := 0) (kin := 2) (v := .ref (52)) rfl (fun _ _ _ => rfl) rfl rfl ?_
                      refine wn_ld (pc' := 95) (q := 1) (kin := 0) (v := .int (nI (i))) rfl (fun _ _ _ => rfl) rfl rfl ?_
                      refine wn_ld (pc' := 97) (q := 4) (kin := 0) (v := .int (nI (y))) rfl (fun _ _ _ => rfl) rfl rfl ?_
                      refine wn_ld (pc' := 99) (q := 5) (kin := 0) (v := .int (nI (v))) rfl (fun _ _ _ => rfl) rfl rfl ?_
                      have := sdW_5 hWf (y := y) (show v < nvW w by omega) (show i < ntW w by omega)
                      refine wn_virI (pc' := 102) rfl rfl (by decide) rfl rfl ((hf_g7.2 52 (by decide)).trans v3) (Nat.le_of_ble_eq_true rfl) (x_variantAt _ _ ls w hWf V_g7 i y v (by omega) (by omega) (by omega) ⟨_, c_55_g7, hrv.1⟩) ?_
                      refine wn_st (pc' := 104) (q := 7) (kin := 0) (lv' := [(0, .ref (52)), (1, .int (nI (i))), (2, .int (nI (yr))), (3, .int (bI (afW w i))), (4, .int (nI (y))), (5, .int (nI (v))), (6, .int (-1)), (7, .int (nI (sdW w y v i)))]) rfl (fun _ _ _ => rfl) rfl (Nat.le_of_ble_eq_true rfl) rfl ?_
                      refine wn_ld (pc' := 106) (q := 6) (kin := 0) (v := .int (-1)) rfl (fun _ _ _ => rfl) rfl rfl ?_
                      refine wn_ic (pc' := 107) (w := -1) rfl rfl (by decide) ?_
                      refine wn_icmp (t := 135) (f := 110) rfl rfl rfl (fun c11 => ?_) (fun c11 => ?_)
                      · have c11 : ((-1) : Int32) = ((-1)) := c11
                        refine wn_ld (pc' := 136) (q := 0) (kin := 2) (v := .ref (52)) rfl (fun _ _ _ => rfl) rfl rfl ?_
                        refine wn_get (pc' := 139) (v := .ref (55)) rfl rfl ((hf_g7.2 52 (by decide)).trans v3) rfl ?_
                        refine wn_ld (pc' := 140) (q := 1) (kin := 0) (v := .int (nI (i))) rfl (fun _ _ _ => rfl) rfl rfl ?_
                        refine wn_ld (pc' := 142) (q := 4) (kin := 0) (v := .int (nI (y))) rfl (fun _ _ _ => rfl) rfl rfl ?_
                        refine wn_ic (pc' := 143) (w := nI 1) rfl rfl (by decide) ?_
                        refine wn_addN (pc' := 144) rfl rfl ?_
                        refine wn_staI (pc' := 147) rfl rfl (by decide) rfl rfl (Nat.le_of_ble_eq_true rfl) (x_placeOf _ _ i (y + 1)) ?_
                        refine wn_ld (pc' := 149) (q := 5) (kin := 0) (v := .int (nI (v))) rfl (fun _ _ _ => rfl) rfl rfl ?_
                        refine wn_addN (pc' := 150) rfl rfl ?_
                        refine wn_ld (pc' := 152) (q := 7) (kin := 0) (v := .int (nI (sdW w y v i))) rfl (fun _ _ _ => rfl) rfl rfl ?_
                        refine wn_pu (pc' := 153) (st' := [.int (((nI (sdW w y v i))).toInt8.toInt32), .int (nI (((i * 61 + (y + 1)) * 24) + v)), .ref (55)]) rfl (fun _ _ _ => rfl) rfl rfl ?_
                        refine wn_bastB (pc' := 154) (j := ((i * 61 + (y + 1)) * 24) + v) rfl rfl c_55_g7 rfl (by omega) (by decide) ?_
                        refine wn_incN (n := 1) (pc' := 157) (lv' := [(0, .ref (52)), (1, .int (nI (i))), (2, .int (nI (yr))), (3, .int (bI (afW w i))), (4, .int (nI (y))), (5, .int (nI (v + 1))), (6, .int (-1)), (7, .int (nI (sdW w y v i)))]) rfl rfl rfl (Nat.le_of_ble_eq_true rfl) rfl (by decide) ?_
                        refine wn_jp (pc' := 62) rfl rfl ?_
                        refine wn_weak (lv' := [(0, .ref (52)), (1, .int (nI (i))), (2, .int (nI (yr))), (3, .int (bI (afW w i))), (4, .int (nI (y))), (5, .int (nI (v + 1)))]) (by simp) ?_
                        have z9 := ih_lp8 (g7.set 55 (.inl (1, 14640, .inl (upd vr3 (((i * 61 + (y + 1)) * 24) + v) (vp_nar .byte (((nI (sdW w y v i))).toInt8.toInt32)))))) st3 (upd vr3 (((i * 61 + (y + 1)) * 24) + v) (vp_nar .byte (((nI (sdW w y v i))).toInt8.toInt32))) (v + 1) (by omega) (Fr.st hf_g7 (by decide)) (gs_ne (by decide) c_53_g7) (gs_ne (by decide) c_54_g7) (gs_self c_55_g7) (gs_ne (by decide) c_56_g7) (gs_ne (by decide) c_57_g7) (by omega) hst3 (RvI_s hWf hrv (by omega) (thn_n hWf (by omega) (by omega) ho9) (hrv.2.2.trans (congrArg nI (stV_n ho9).symm))) (Imp_s hWf hIm3 (by omega) (by omega) (thn_n hWf (by omega) (by omega) ho9))
                        exact z9
                      · have c11 : ¬ ((-1) : Int32) = ((-1)) := c11
                        exact absurd rfl c11
                    · have c10 : (afW w i) := c10
                      exact absurd c10 c6
              refine wn_weak (lv' := [(0, .ref (52)), (1, .int (nI (i))), (2, .int (nI (yr))), (3, .int (bI (afW w i))), (4, .int (nI (y))), (5, .int (nI (0)))]) (by simp) ?_
              have z9 := lp8 ((nvW w) + 1) g2 st2 vr2 0 (by omega) hf_g2 c_53_g2 c_54_g2 c_55_g2 c_56_g2 c_57_g2 (by omega) hst ⟨hrw, fun _ q => absurd q (by omega), es.trans (congrArg nI (stV_0 w i y).symm)⟩ hIm
              exact z9
            · have c6 : (afW w i) := c6
              refine wn_ld (pc' := 53) (q := 0) (kin := 2) (v := .ref (52)) rfl (fun _ _ _ => rfl) rfl rfl ?_
              refine wn_ld (pc' := 54) (q := 1) (kin := 0) (v := .int (nI (i))) rfl (fun _ _ _ => rfl) rfl rfl ?_
              refine wn_ld (pc' := 56) (q := 4) (kin := 0) (v := .int (nI (y))) rfl (fun _ _ _ => rfl) rfl rfl ?_
              refine wn_virS (pc' := 59) rfl rfl (by decide) rfl rfl ((hf_g2.2 52 (by decide)).trans v3) (Nat.le_of_ble_eq_true rfl) (x_countNeighbours _ _ ls w hWf V_g2 _ _ c_56_g2 c_57_g2 i y (by omega) (by omega) ⟨_, c_55_g2, hrw⟩) (fun r9 h12 e13 => ?_)
              obtain ⟨rfl, f_h12, ne_h12, ms_h12, n_h12, m_h12, nb_h12⟩ := e13
              show Wn _ _ 59 _ [] h12 _
              refine wn_ic (pc' := 60) (w := nI 0) rfl rfl (by decide) ?_
              refine wn_st (pc' := 62) (q := 5) (kin := 0) (lv' := [(0, .ref (52)), (1, .int (nI (i))), (2, .int (nI (yr))), (3, .int (bI (afW w i))), (4, .int (nI (y))), (5, .int (nI (0)))]) rfl (fun _ _ _ => rfl) rfl (Nat.le_of_ble_eq_true rfl) rfl ?_
              have lp15 : ∀ (n_lp15 : Nat) (g14 : aH) (st3 : Nat → Int32) (vr3 : Nat → Int32) (v : Nat), (nvW w) + 1 ≤ v + n_lp15 → Fr [53, 54, 55, 56, 57] h g14 → isI g14 53 10 re2 → isI g14 54 10 st3 → isB g14 55 14640 vr3 → isI g14 56 120 ne_h12 → isI g14 57 120 ms_h12 → v ≤ nvW w → (∀ i9, i9 ≠ i → st3 i9 = stl i9) → RvI w i y v vr3 st3 → Imp w vr vr3 → Wn (Rn (d + 4)) 52 62 [(0, .ref (52)), (1, .int (nI (i))), (2, .int (nI (yr))), (3, .int (bI (afW w i))), (4, .int (nI (y))), (5, .int (nI (v)))] [] (g14) (fun r9 h9 => r9 = none ∧ RcP h h9 ls w i yr) := by
                intro n_lp15
                induction n_lp15 with
                | zero => intro g14 st3 vr3 v hm_lp15 hf_g14 c_53_g14 c_54_g14 c_55_g14 c_56_g14 c_57_g14 hv5 hst3 hrv hIm3; exfalso; omega
                | succ n_lp15 ih_lp15 =>
                  intro g14 st3 vr3 v hm_lp15 hf_g14 c_53_g14 c_54_g14 c_55_g14 c_56_g14 c_57_g14 hv5 hst3 hrv hIm3
                  have V_g14 : XV g14 ls w := XV.frl V hf_g14 (by decide)
                  refine wn_ld (pc' := 64) (q := 5) (kin := 0) (v := .int (nI (v))) rfl (fun _ _ _ => rfl) rfl rfl ?_
                  refine wn_ld (pc' := 65) (q := 0) (kin := 2) (v := .ref (52)) rfl (fun _ _ _ => rfl) rfl rfl ?_
                  refine wn_get (pc' := 68) (v := .ref (ls)) rfl rfl ((hf_g14.2 52 (by decide)).trans v3) rfl ?_
                  refine wn_get (pc' := 71) (v := .int (nI (nvW w))) rfl rfl ((hf_g14.2 ls (by simp only [List.mem_cons, List.not_mem_nil, or_false]; omega)).trans l0) rfl ?_
                  refine wn_icmpN (t := 160) (f := 74) rfl rfl rfl (by omega) (by omega) (fun c16 => ?_) (fun c16 => ?_)
                  · have c16 : (nvW w) ≤ v := c16
                    obtain rfl : v = nvW w := by omega
                    refine wn_ld (pc' := 161) (q := 0) (kin := 2) (v := .ref (52)) rfl (fun _ _ _ => rfl) rfl rfl ?_
                    refine wn_get (pc' := 164) (v := .ref (53)) rfl rfl ((hf_g14.2 52 (by decide)).trans v3) rfl ?_
                    refine wn_ld (pc' := 165) (q := 1) (kin := 0) (v := .int (nI (i))) rfl (fun _ _ _ => rfl) rfl rfl ?_
                    refine wn_ld (pc' := 167) (q := 4) (kin := 0) (v := .int (nI (y))) rfl (fun _ _ _ => rfl) rfl rfl ?_
                    refine wn_ic (pc' := 168) (w := nI 1) rfl rfl (by decide) ?_
                    refine wn_addN (pc' := 169) rfl rfl ?_
                    refine wn_iast (pc' := 170) (j := i) rfl rfl c_53_g14 rfl (by omega) (by decide) ?_
                    refine wn_incN (n := 1) (pc' := 173) (lv' := [(0, .ref (52)), (1, .int (nI (i))), (2, .int (nI (yr))), (3, .int (bI (afW w i))), (4, .int (nI (y + 1))), (5, .int (nI ((nvW w))))]) rfl rfl rfl (Nat.le_of_ble_eq_true rfl) rfl (by decide) ?_
                    refine wn_jp (pc' := 35) rfl rfl ?_
                    refine wn_weak (lv' := [(0, .ref (52)), (1, .int (nI (i))), (2, .int (nI (yr))), (3, .int (bI (afW w i))), (4, .int (nI (y + 1)))]) (by simp) ?_
                    have z9 := ih_lp3 (g14.set 53 (.inl (0, 10, .inl (upd re2 (i) ((nI (y + 1))))))) (upd re2 (i) ((nI (y + 1)))) st3 vr3 ne_h12 ms_h12 (y + 1) (by omega) (Fr.st hf_g14 (by decide)) (gs_self c_53_g14) (gs_ne (by decide) c_54_g14) (gs_ne (by decide) c_55_g14) (gs_ne (by decide) c_56_g14) (gs_ne (by decide) c_57_g14) (by omega) (fun i9 q => by rw [pk_un (by omega)]; exact hre i9 q) pk_us hst3 hrv.2.2 (RvI_e hrv) hIm3
                    exact z9
                  · have c16 : v < (nvW w) := c16
                    refine wn_ld (pc' := 75) (q := 3) (kin := 0) (v := .int (bI (afW w i))) rfl (fun _ _ _ => rfl) rfl rfl ?_
                    refine wn_ifeqB (t := 90) (f := 78) rfl rfl rfl (fun c17 => ?_) (fun c17 => ?_)
                    · have c17 : ¬ (afW w i) := c17
                      exact absurd c6 c17
                    · have c17 : (afW w i) := c17
                      refine wn_ld (pc' := 79) (q := 0) (kin := 2) (v := .ref (52)) rfl (fun _ _ _ => rfl) rfl rfl ?_
                      refine wn_ld (pc' := 80) (q := 1) (kin := 0) (v := .int (nI (i))) rfl (fun _ _ _ => rfl) rfl rfl ?_
                      refine wn_ld (pc' := 82) (q := 4) (kin := 0) (v := .int (nI (y))) rfl (fun _ _ _ => rfl) rfl rfl ?_
                      refine wn_ld (pc' := 84) (q := 5) (kin := 0) (v := .int (nI (v))) rfl (fun _ _ _ => rfl) rfl rfl ?_
                      refine wn_virI (pc' := 87) rfl rfl (by decide) rfl rfl ((hf_g14.2 52 (by decide)).trans v3) (Nat.le_of_ble_eq_true rfl) (x_turningLaw _ _ ls w hWf V_g14 i y (by omega) (by omega) ⟨_, c_55_g14, hrv.1⟩ ⟨_, _, c_56_g14, c_57_g14, nb_h12⟩ v (by omega)) ?_
                      cases ho9 : laW w y v i with
                      | none =>
                        show Wn _ _ 87 _ [.int (-1)] _ _
                        refine wn_jp (pc' := 91) rfl rfl ?_
                        refine wn_st (pc' := 93) (q := 6) (kin := 0) (lv' := [(0, .ref (52)), (1, .int (nI (i))), (2, .int (nI (yr))), (3, .int (bI (afW w i))), (4, .int (nI (y))), (5, .int (nI (v))), (6, .int (-1))]) rfl (fun _ _ _ => rfl) rfl (Nat.le_of_ble_eq_true rfl) rfl ?_
                        refine wn_ld (pc' := 94) (q := 0) (kin := 2) (v := .ref (52)) rfl (fun _ _ _ => rfl) rfl rfl ?_
                        refine wn_ld (pc' := 95) (q := 1) (kin := 0) (v := .int (nI (i))) rfl (fun _ _ _ => rfl) rfl rfl ?_
                        refine wn_ld (pc' := 97) (q := 4) (kin := 0) (v := .int (nI (y))) rfl (fun _ _ _ => rfl) rfl rfl ?_
                        refine wn_ld (pc' := 99) (q := 5) (kin := 0) (v := .int (nI (v))) rfl (fun _ _ _ => rfl) rfl rfl ?_
                        have := sdW_5 hWf (y := y) (show v < nvW w by omega) (show i < ntW w by omega)
                        refine wn_virI (pc' := 102) rfl rfl (by decide) rfl rfl ((hf_g14.2 52 (by decide)).trans v3) (Nat.le_of_ble_eq_true rfl) (x_variantAt _ _ ls w hWf V_g14 i y v (by omega) (by omega) (by omega) ⟨_, c_55_g14, hrv.1⟩) ?_
                        refine wn_st (pc' := 104) (q := 7) (kin := 0) (lv' := [(0, .ref (52)), (1, .int (nI (i))), (2, .int (nI (yr))), (3, .int (bI (afW w i))), (4, .int (nI (y))), (5, .int (nI (v))), (6, .int (-1)), (7, .int (nI (sdW w y v i)))]) rfl (fun _ _ _ => rfl) rfl (Nat.le_of_ble_eq_true rfl) rfl ?_
                        refine wn_ld (pc' := 106) (q := 6) (kin := 0) (v := .int (-1)) rfl (fun _ _ _ => rfl) rfl rfl ?_
                        refine wn_ic (pc' := 107) (w := -1) rfl rfl (by decide) ?_
                        refine wn_icmp (t := 135) (f := 110) rfl rfl rfl (fun c18 => ?_) (fun c18 => ?_)
                        · have c18 : ((-1) : Int32) = ((-1)) := c18
                          refine wn_ld (pc' := 136) (q := 0) (kin := 2) (v := .ref (52)) rfl (fun _ _ _ => rfl) rfl rfl ?_
                          refine wn_get (pc' := 139) (v := .ref (55)) rfl rfl ((hf_g14.2 52 (by decide)).trans v3) rfl ?_
                          refine wn_ld (pc' := 140) (q := 1) (kin := 0) (v := .int (nI (i))) rfl (fun _ _ _ => rfl) rfl rfl ?_
                          refine wn_ld (pc' := 142) (q := 4) (kin := 0) (v := .int (nI (y))) rfl (fun _ _ _ => rfl) rfl rfl ?_
                          refine wn_ic (pc' := 143) (w := nI 1) rfl rfl (by decide) ?_
                          refine wn_addN (pc' := 144) rfl rfl ?_
                          refine wn_staI (pc' := 147) rfl rfl (by decide) rfl rfl (Nat.le_of_ble_eq_true rfl) (x_placeOf _ _ i (y + 1)) ?_
                          refine wn_ld (pc' := 149) (q := 5) (kin := 0) (v := .int (nI (v))) rfl (fun _ _ _ => rfl) rfl rfl ?_
                          refine wn_addN (pc' := 150) rfl rfl ?_
                          refine wn_ld (pc' := 152) (q := 7) (kin := 0) (v := .int (nI (sdW w y v i))) rfl (fun _ _ _ => rfl) rfl rfl ?_
                          refine wn_pu (pc' := 153) (st' := [.int (((nI (sdW w y v i))).toInt8.toInt32), .int (nI (((i * 61 + (y + 1)) * 24) + v)), .ref (55)]) rfl (fun _ _ _ => rfl) rfl rfl ?_
                          refine wn_bastB (pc' := 154) (j := ((i * 61 + (y + 1)) * 24) + v) rfl rfl c_55_g14 rfl (by omega) (by decide) ?_
                          refine wn_incN (n := 1) (pc' := 157) (lv' := [(0, .ref (52)), (1, .int (nI (i))), (2, .int (nI (yr))), (3, .int (bI (afW w i))), (4, .int (nI (y))), (5, .int (nI (v + 1))), (6, .int (-1)), (7, .int (nI (sdW w y v i)))]) rfl rfl rfl (Nat.le_of_ble_eq_true rfl) rfl (by decide) ?_
                          refine wn_jp (pc' := 62) rfl rfl ?_
                          refine wn_weak (lv' := [(0, .ref (52)), (1, .int (nI (i))), (2, .int (nI (yr))), (3, .int (bI (afW w i))), (4, .int (nI (y))), (5, .int (nI (v + 1)))]) (by simp) ?_
                          have z9 := ih_lp15 (g14.set 55 (.inl (1, 14640, .inl (upd vr3 (((i * 61 + (y + 1)) * 24) + v) (vp_nar .byte (((nI (sdW w y v i))).toInt8.toInt32)))))) st3 (upd vr3 (((i * 61 + (y + 1)) * 24) + v) (vp_nar .byte (((nI (sdW w y v i))).toInt8.toInt32))) (v + 1) (by omega) (Fr.st hf_g14 (by decide)) (gs_ne (by decide) c_53_g14) (gs_ne (by decide) c_54_g14) (gs_self c_55_g14) (gs_ne (by decide) c_56_g14) (gs_ne (by decide) c_57_g14) (by omega) hst3 (RvI_s hWf hrv (by omega) (thn_n hWf (by omega) (by omega) ho9) (hrv.2.2.trans (congrArg nI (stV_n ho9).symm))) (Imp_s hWf hIm3 (by omega) (by omega) (thn_n hWf (by omega) (by omega) ho9))
                          exact z9
                        · have c18 : ¬ ((-1) : Int32) = ((-1)) := c18
                          exact absurd rfl c18
                      | some l =>
                        have ho8 := (laW_l hWf ho9).1
                        show Wn _ _ 87 _ [.int (nI (l))] _ _
                        refine wn_jp (pc' := 91) rfl rfl ?_
                        refine wn_st (pc' := 93) (q := 6) (kin := 0) (lv' := [(0, .ref (52)), (1, .int (nI (i))), (2, .int (nI (yr))), (3, .int (bI (afW w i))), (4, .int (nI (y))), (5, .int (nI (v))), (6, .int (nI (l)))]) rfl (fun _ _ _ => rfl) rfl (Nat.le_of_ble_eq_true rfl) rfl ?_
                        refine wn_ld (pc' := 94) (q := 0) (kin := 2) (v := .ref (52)) rfl (fun _ _ _ => rfl) rfl rfl ?_
                        refine wn_ld (pc' := 95) (q := 1) (kin := 0) (v := .int (nI (i))) rfl (fun _ _ _ => rfl) rfl rfl ?_
                        refine wn_ld (pc' := 97) (q := 4) (kin := 0) (v := .int (nI (y))) rfl (fun _ _ _ => rfl) rfl rfl ?_
                        refine wn_ld (pc' := 99) (q := 5) (kin := 0) (v := .int (nI (v))) rfl (fun _ _ _ => rfl) rfl rfl ?_
                        have := sdW_5 hWf (y := y) (show v < nvW w by omega) (show i < ntW w by omega)
                        refine wn_virI (pc' := 102) rfl rfl (by decide) rfl rfl ((hf_g14.2 52 (by decide)).trans v3) (Nat.le_of_ble_eq_true rfl) (x_variantAt _ _ ls w hWf V_g14 i y v (by omega) (by omega) (by omega) ⟨_, c_55_g14, hrv.1⟩) ?_
                        refine wn_st (pc' := 104) (q := 7) (kin := 0) (lv' := [(0, .ref (52)), (1, .int (nI (i))), (2, .int (nI (yr))), (3, .int (bI (afW w i))), (4, .int (nI (y))), (5, .int (nI (v))), (6, .int (nI (l))), (7, .int (nI (sdW w y v i)))]) rfl (fun _ _ _ => rfl) rfl (Nat.le_of_ble_eq_true rfl) rfl ?_
                        refine wn_ld (pc' := 106) (q := 6) (kin := 0) (v := .int (nI (l))) rfl (fun _ _ _ => rfl) rfl rfl ?_
                        refine wn_ic (pc' := 107) (w := -1) rfl rfl (by decide) ?_
                        refine wn_icmp (t := 135) (f := 110) rfl rfl rfl (fun c19 => ?_) (fun c19 => ?_)
                        · have c19 : ((nI (l))) = ((-1)) := c19
                          exact absurd c19 (nI_m1 (by omega))
                        · have c19 : ¬ ((nI (l))) = ((-1)) := c19
                          refine wn_ld (pc' := 111) (q := 0) (kin := 2) (v := .ref (52)) rfl (fun _ _ _ => rfl) rfl rfl ?_
                          refine wn_get (pc' := 114) (v := .ref (ls)) rfl rfl ((hf_g14.2 52 (by decide)).trans v3) rfl ?_
                          refine wn_get (pc' := 117) (v := .ref (ls + 9)) rfl rfl ((hf_g14.2 ls (by simp only [List.mem_cons, List.not_mem_nil, or_false]; omega)).trans l0) rfl ?_
                          refine wn_get (pc' := 120) (v := .ref (ls + 9 + 3)) rfl rfl ((hf_g14.2 (ls + 9) (by simp only [List.mem_cons, List.not_mem_nil, or_false]; omega)).trans k1) rfl ?_
                          refine wn_ld (pc' := 122) (q := 6) (kin := 0) (v := .int (nI (l))) rfl (fun _ _ _ => rfl) rfl rfl ?_
                          refine wn_ialdv (pc' := 123) (j := l) (v := (w (458 + 6 * l))) rfl rfl ((hf_g14.2 (ls + 9 + 3) (by simp only [List.mem_cons, List.not_mem_nil, or_false]; omega)).trans k4) rfl (by omega) (by decide) ((k12 l (by omega)).2.2.1) ?_
                          refine wn_st (pc' := 125) (q := 7) (kin := 0) (lv' := [(0, .ref (52)), (1, .int (nI (i))), (2, .int (nI (yr))), (3, .int (bI (afW w i))), (4, .int (nI (y))), (5, .int (nI (v))), (6, .int (nI (l))), (7, .int (w (458 + 6 * l)))]) rfl (fun _ _ _ => rfl) rfl (Nat.le_of_ble_eq_true rfl) rfl ?_
                          refine wn_ld (pc' := 126) (q := 0) (kin := 2) (v := .ref (52)) rfl (fun _ _ _ => rfl) rfl rfl ?_
                          refine wn_get (pc' := 129) (v := .ref (54)) rfl rfl ((hf_g14.2 52 (by decide)).trans v3) rfl ?_
                          refine wn_ld (pc' := 130) (q := 1) (kin := 0) (v := .int (nI (i))) rfl (fun _ _ _ => rfl) rfl rfl ?_
                          refine wn_ld (pc' := 132) (q := 4) (kin := 0) (v := .int (nI (y))) rfl (fun _ _ _ => rfl) rfl rfl ?_
                          refine wn_ic (pc' := 133) (w := nI 1) rfl rfl (by decide) ?_
                          refine wn_addN (pc' := 134) rfl rfl ?_
                          refine wn_iast (pc' := 135) (j := i) rfl rfl c_54_g14 rfl (by omega) (by decide) ?_
                          refine wn_ld (pc' := 136) (q := 0) (kin := 2) (v := .ref (52)) rfl (fun _ _ _ => rfl) rfl rfl ?_
                          refine wn_get (pc' := 139) (v := .ref (55)) rfl rfl (gs_ne (by decide) ((hf_g14.2 52 (by decide)).trans v3)) rfl ?_
                          refine wn_ld (pc' := 140) (q := 1) (kin := 0) (v := .int (nI (i))) rfl (fun _ _ _ => rfl) rfl rfl ?_
                          refine wn_ld (pc' := 142) (q := 4) (kin := 0) (v := .int (nI (y))) rfl (fun _ _ _ => rfl) rfl rfl ?_
                          refine wn_ic (pc' := 143) (w := nI 1) rfl rfl (by decide) ?_
                          refine wn_addN (pc' := 144) rfl rfl ?_
                          refine wn_staI (pc' := 147) rfl rfl (by decide) rfl rfl (Nat.le_of_ble_eq_true rfl) (x_placeOf _ _ i (y + 1)) ?_
                          refine wn_ld (pc' := 149) (q := 5) (kin := 0) (v := .int (nI (v))) rfl (fun _ _ _ => rfl) rfl rfl ?_
                          refine wn_addN (pc' := 150) rfl rfl ?_
                          refine wn_ld (pc' := 152) (q := 7) (kin := 0) (v := .int (w (458 + 6 * l))) rfl (fun _ _ _ => rfl) rfl rfl ?_
                          refine wn_pu (pc' := 153) (st' := [.int (((w (458 + 6 * l))).toInt8.toInt32), .int (nI (((i * 61 + (y + 1)) * 24) + v)), .ref (55)]) rfl (fun _ _ _ => rfl) rfl rfl ?_
                          refine wn_bastB (pc' := 154) (j := ((i * 61 + (y + 1)) * 24) + v) rfl rfl (gs_ne (by decide) c_55_g14) rfl (by omega) (by decide) ?_
                          refine wn_incN (n := 1) (pc' := 157) (lv' := [(0, .ref (52)), (1, .int (nI (i))), (2, .int (nI (yr))), (3, .int (bI (afW w i))), (4, .int (nI (y))), (5, .int (nI (v + 1))), (6, .int (nI (l))), (7, .int (w (458 + 6 * l)))]) rfl rfl rfl (Nat.le_of_ble_eq_true rfl) rfl (by decide) ?_
                          refine wn_jp (pc' := 62) rfl rfl ?_
                          refine wn_weak (lv' := [(0, .ref (52)), (1, .int (nI (i))), (2, .int (nI (yr))), (3, .int (bI (afW w i))), (4, .int (nI (y))), (5, .int (nI (v + 1)))]) (by simp) ?_
                          have z9 := ih_lp15 ((g14.set 54 (.inl (0, 10, .inl (upd st3 (i) ((nI (y + 1))))))).set 55 (.inl (1, 14640, .inl (upd vr3 (((i * 61 + (y + 1)) * 24) + v) (vp_nar .byte (((w (458 + 6 * l))).toInt8.toInt32)))))) (upd st3 (i) ((nI (y + 1)))) (upd vr3 (((i * 61 + (y + 1)) * 24) + v) (vp_nar .byte (((w (458 + 6 * l))).toInt8.toInt32))) (v + 1) (by omega) (Fr.st (Fr.st hf_g14 (by decide)) (by decide)) (gs_ne (by decide) (gs_ne (by decide) c_53_g14)) (gs_ne (by decide) (gs_self c_54_g14)) (gs_self (gs_ne (by decide) c_55_g14)) (gs_ne (by decide) (gs_ne (by decide) c_56_g14)) (gs_ne (by decide) (gs_ne (by decide) c_57_g14)) (by omega) (fun i9 q => by rw [pk_un (by omega)]; exact hst3 i9 q) (RvI_s hWf hrv (by omega) (thn_s hWf (by omega) (by omega) ho9) (pk_us.trans (congrArg nI (stV_t ho9).symm))) (Imp_s hWf hIm3 (by omega) (by omega) (thn_s hWf (by omega) (by omega) ho9))
                          exact z9
              refine wn_weak (lv' := [(0, .ref (52)), (1, .int (nI (i))), (2, .int (nI (yr))), (3, .int (bI (afW w i))), (4, .int (nI (y))), (5, .int (nI (0)))]) (by simp) ?_
              have z9 := lp15 ((nvW w) + 1) h12 st2 vr2 0 (by omega) (Fr.tr hf_g2 f_h12 (by decide)) ((f_h12.2 53 (by decide)).trans c_53_g2) ((f_h12.2 54 (by decide)).trans c_54_g2) ((f_h12.2 55 (by decide)).trans c_55_g2) n_h12 m_h12 (by omega) hst ⟨hrw, fun _ q => absurd q (by omega), es.trans (congrArg nI (stV_0 w i y).symm)⟩ hIm
              exact z9
    refine wn_weak (lv' := [(0, .ref (52)), (1, .int (nI (i))), (2, .int (nI (yr))), (3, .int (bI (afW w i))), (4, .int (nI (r)))]) (by simp) ?_
    have z9 := lp3 (60 + 1) g0 re1 stl vr1 ne ms r (by omega) hf_g0 c53_g0 c54_g0 c55_g0 c56_g0 c57_g0 r60 hre0 er0 (fun _ _ => rfl) es0 hrw0 hIm0
    exact z9
  refine wn_ld (pc' := 1) (q := 0) (kin := 2) (v := .ref (52)) rfl (fun _ _ _ => rfl) rfl rfl ?_
  refine wn_get (pc' := 4) (v := .ref (53)) rfl rfl v3 rfl ?_
  refine wn_ld (pc' := 5) (q := 1) (kin := 0) (v := .int (nI (i))) rfl (fun _ _ _ => rfl) rfl rfl ?_
  refine wn_ialdv (pc' := 6) (j := i) (v := (re (i))) rfl rfl s1 rfl (by omega) (by decide) (rfl) ?_
  refine wn_ic (pc' := 7) (w := -1) rfl rfl (by decide) ?_
  refine wn_icmp (t := 15) (f := 10) rfl rfl rfl (fun c20 => ?_) (fun c20 => ?_)
  · have c20 : ¬ ((re (i))) = ((-1)) := c20
    have hR9 : ∃ r, r ≤ 60 ∧ re i = nI r ∧ stl i = nI (stW w i r) ∧ RwR w i r vr := by rcases s6 i (by omega) with q | ⟨r, q1, q2, q3, q4, q5⟩; (exact absurd q.1 c20); exact ⟨r, q1, q3, q4, q5⟩
    refine wn_weak (lv' := [(0, .ref (52)), (1, .int (nI (i))), (2, .int (nI (yr)))]) (by simp) ?_
    have z9 := jn1 h re vr (Fr.rfl' [53, 54, 55, 56, 57] h) s1 s2 s3 s4 s5 (fun _ _ => rfl) hR9 Imp.rfl'
    exact z9
  · have c20 : ((re (i))) = ((-1)) := c20
    have lf9 : re i = -1 ∧ stl i = 0 := by rcases s6 i (by omega) with q | ⟨r, q1, q2, q3, q4, q5⟩; (exact q); exact absurd (q3.symm.trans c20) (nI_m1 (by omega))
    refine wn_ld (pc' := 11) (q := 0) (kin := 2) (v := .ref (52)) rfl (fun _ _ _ => rfl) rfl rfl ?_
    refine wn_ld (pc' := 12) (q := 1) (kin := 0) (v := .int (nI (i))) rfl (fun _ _ _ => rfl) rfl rfl ?_
    refine wn_virS (pc' := 15) rfl rfl (by decide) rfl rfl v3 (Nat.le_of_ble_eq_true rfl) (x_startYears _ _ ls w hWf V _ _ s1 s3 i (by omega)) (fun r9 h21 e22 => ?_)
    obtain ⟨rfl, f_h21, n_h21, vr_h21, m_h21, sy_h21⟩ := e22
    show Wn _ _ 15 _ [] h21 _
    refine wn_weak (lv' := [(0, .ref (52)), (1, .int (nI (i))), (2, .int (nI (yr)))]) (by simp) ?_
    have z9 := jn1 h21 (upd re i (nI 0)) vr_h21 (Fr.tr (Fr.rfl' [53, 54, 55, 56, 57] h) f_h21 (by decide)) n_h21 ((f_h21.2 54 (by decide)).trans s2) m_h21 ((f_h21.2 56 (by decide)).trans s4) ((f_h21.2 57 (by decide)).trans s5) (fun i9 q => pk_un (by omega)) ⟨0, by omega, pk_us, (lf9).2.trans rfl, fun y9 v9 q1 q2 => by (obtain rfl : y9 = 0 := by omega); exact sy_h21.1 v9 q2⟩ sy_h21.2
    exact z9

theorem RcP.xv {h h9 : aH} {ls : Nat} {w : Nat → Int32} {i y : Nat} (R : RcP h h9 ls w i y) (V : XV h ls w) : XV h9 ls w := XV.frl V R.1 (by decide)
theorem ScrX.fr {h h9 : aH} (S : ScrX h) (F : Fr [53, 54, 55, 56, 57] h h9) : ScrX h9 := by
  obtain ⟨bu, lb, ft, ta, un, a, b, c, d, e⟩ := S
  exact ⟨bu, lb, ft, ta, un, a.kp (F.2 _ (by decide)), b.kp (F.2 _ (by decide)), c.kp (F.2 _ (by decide)), d.kp (F.2 _ (by decide)), e.kp (F.2 _ (by decide))⟩
/-- a question so far: the map may be worked out further -/
def RY (h h9 : aH) (ls : Nat) (w : Nat → Int32) : Prop := Fr [53, 54, 55, 56, 57] h h9 ∧ SpreadR h9 ls w ∧ ∀ i' y', i' < 10 → y' ≤ 60 → Rch h w i' y' → Rch h9 w i' y'
theorem RY.rfl' {h : aH} {ls : Nat} {w : Nat → Int32} (S : SpreadR h ls w) : RY h h ls w := ⟨Fr.rfl' _ _, S, fun _ _ _ _ R => R⟩
theorem RY.tr {h h1 h2 : aH} {ls : Nat} {w : Nat → Int32} (A : RY h h1 ls w) (B : RY h1 h2 ls w) : RY h h2 ls w := ⟨Fr.tr A.1 B.1 (fun _ q => q), B.2.1, fun i y p1 p2 R => B.2.2 i y p1 p2 (A.2.2 i y p1 p2 R)⟩
theorem RcP.ry {h h9 : aH} {ls : Nat} {w : Nat → Int32} {i y : Nat} (R : RcP h h9 ls w i y) : RY h h9 ls w := ⟨R.1, R.2.1, R.2.2.2⟩
theorem RY.xv {h h9 : aH} {ls : Nat} {w : Nat → Int32} (R : RY h h9 ls w) (V : XV h ls w) : XV h9 ls w := XV.frl V R.1 (by decide)
theorem RY.rx {h h9 : aH} {ls : Nat} {w : Nat → Int32} (R : RY h h9 ls w) (S : ScrX h) : RX h h9 ls w := ⟨R.1.1, fun k hk => R.1.2 k (by simp only [List.mem_cons, List.not_mem_nil, or_false]; omega), R.2.1, S.fr R.1⟩
theorem x_reachesItem (d : Nat) (h : aH) (ls : Nat) (w : Nat → Int32) (hWf : WfW w) (V : XV h ls w) (SP : SpreadR h ls w) (i y : Int32) : Sp (Rn (d + 6)) 140 [.ref (0), .int (i), .int (y)] h (fun r9 h9 => r9 = some (.int (bI (iin i (ntW w) ∧ iin y 61))) ∧ RY h h9 ls w ∧ ((iin i (ntW w) ∧ iin y 61) → Rch h9 w i.toNatClampNeg y.toNatClampNeg ∧ StR h9 w i.toNatClampNeg y.toNatClampNeg)) := by
  obtain ⟨⟨e1, e2⟩, ⟨e3, e4⟩, ⟨e5, e6⟩⟩ := Wf_n hWf
  obtain ⟨⟨e7, e8⟩, ⟨e9, e10⟩⟩ := Wf_m hWf
  obtain ⟨v0, ⟨x9, v1⟩, ⟨v2, ⟨sz, rf, rt, rv, ag, vr, sd, tl, l0, l1, l2, l3, l4, l5, l6, l7, l8, g1, g2, g3, g4, g5⟩, ⟨sec, it, fi, se, sg, lst, rs, rp, pj, pk, pv, k0, k1, k2, k3, k4, k5, k6, k7, k8, k9, k10, k11, k12, k13⟩, ⟨hv, hc, y0, y1, y2, y3, y4⟩, ⟨an, wk, n0, n1, n2, n3, n4⟩⟩, v3⟩ := id V
  rw [e1, e3, e5] at l0
  rw [e7, e9] at k1
  refine Sp_of (by decide) (Nat.le_of_ble_eq_true rfl) ?_
  show Wn _ _ 0 [(0, .ref (0)), (1, .int (i)), (2, .int (y))] [] _ _
  refine wn_ld (pc' := 1) (q := 0) (kin := 2) (v := .ref (0)) rfl (fun _ _ _ => rfl) rfl rfl ?_
  refine wn_ld (pc' := 2) (q := 1) (kin := 0) (v := .int (i)) rfl (fun _ _ _ => rfl) rfl rfl ?_
  refine wn_virI (pc' := 5) rfl rfl (by decide) rfl rfl v1 (Nat.le_of_ble_eq_true rfl) (x_hasItem _ _ ls w hWf V _) ?_
  refine wn_ifeqB (t := 15) (f := 8) rfl rfl rfl (fun c1 => ?_) (fun c1 => ?_)
  · have c1 : ¬ (iin i (ntW w)) := c1
    refine wn_ic (pc' := 16) (w := nI 0) rfl rfl (by decide) ?_
    exact wn_iret rfl rfl (by decide) ⟨congrArg (fun z => some (Value.int z)) (bI_f0 (fun q => c1 q.1)), (RY.rfl' SP), fun q => absurd q.1 c1⟩
  · have c1 : (iin i (ntW w)) := c1
    obtain ⟨i9, hi9, rfl⟩ := iin_of c1
    have ti_i := nI_toInt (n := i9) (show i9 < 2 ^ 31 by omega)
    have cl_i := nI_clamp (n := i9) (show i9 < 2 ^ 31 by omega)
    refine wn_ld (pc' := 9) (q := 2) (kin := 0) (v := .int (y)) rfl (fun _ _ _ => rfl) rfl rfl ?_
    refine wn_staI (pc' := 12) rfl rfl (by decide) rfl rfl (Nat.le_of_ble_eq_true rfl) (x_isYear _ _ _) ?_
    refine wn_ifneB (t := 17) (f := 15) rfl rfl rfl (fun c2 => ?_) (fun c2 => ?_)
    · have c2 : (iin y 61) := c2
      obtain ⟨y9, hy9, rfl⟩ := iin_of c2
      have ti_y := nI_toInt (n := y9) (show y9 < 2 ^ 31 by omega)
      have cl_y := nI_clamp (n := y9) (show y9 < 2 ^ 31 by omega)
      refine wn_ld (pc' := 18) (q := 0) (kin := 2) (v := .ref (0)) rfl (fun _ _ _ => rfl) rfl rfl ?_
      refine wn_get (pc' := 21) (v := .ref (52)) rfl rfl v1 rfl ?_
      refine wn_ld (pc' := 22) (q := 1) (kin := 0) (v := .int (nI (i9))) rfl (fun _ _ _ => rfl) rfl rfl ?_
      refine wn_ld (pc' := 23) (q := 2) (kin := 0) (v := .int (nI (y9))) rfl (fun _ _ _ => rfl) rfl rfl ?_
      refine wn_virS (pc' := 26) rfl rfl (by decide) rfl rfl v3 (Nat.le_of_ble_eq_true rfl) (x_reach _ _ ls w hWf V SP i9 y9 (by omega) (by omega)) (fun r9 h3 e4 => ?_)
      obtain ⟨rfl, R_h3⟩ := e4
      have RY_h3 := RY.tr (RY.rfl' SP) R_h3.ry
      have V_h3 := RY_h3.xv V
      obtain ⟨v0_h3, ⟨x9_h3, v1_h3⟩, ⟨v2_h3, ⟨sz_h3, rf_h3, rt_h3, rv_h3, ag_h3, vr_h3, sd_h3, tl_h3, l0_h3, l1_h3, l2_h3, l3_h3, l4_h3, l5_h3, l6_h3, l7_h3, l8_h3, g1_h3, g2_h3, g3_h3, g4_h3, g5_h3⟩, ⟨sec_h3, it_h3, fi_h3, se_h3, sg_h3, lst_h3, rs_h3, rp_h3, pj_h3, pk_h3, pv_h3, k0_h3, k1_h3, k2_h3, k3_h3, k4_h3, k5_h3, k6_h3, k7_h3, k8_h3, k9_h3, k10_h3, k11_h3, k12_h3, k13_h3⟩, ⟨hv_h3, hc_h3, y0_h3, y1_h3, y2_h3, y3_h3, y4_h3⟩, ⟨an_h3, wk_h3, n0_h3, n1_h3, n2_h3, n3_h3, n4_h3⟩⟩, v3_h3⟩ := id V_h3
      rw [e1, e3, e5] at l0_h3
      rw [e7, e9] at k1_h3
      show Wn _ _ 26 _ [] h3 _
      refine wn_ic (pc' := 27) (w := nI 1) rfl rfl (by decide) ?_
      refine wn_iret rfl rfl (by decide) ⟨congrArg (fun z => some (Value.int z)) (bI_t1 ⟨iin_nI (by omega) (by omega), iin_nI (by omega) (by omega)⟩), RY_h3, fun _ => ?_⟩
      rw [cl_i, cl_y]; exact ⟨R_h3.2.2.1.1, R_h3.2.2.1.2⟩
    · have c2 : ¬ (iin y 61) := c2
      refine wn_ic (pc' := 16) (w := nI 0) rfl rfl (by decide) ?_
      exact wn_iret rfl rfl (by decide) ⟨congrArg (fun z => some (Value.int z)) (bI_f0 (fun q => c2 q.2)), (RY.rfl' SP), fun q => absurd q.2 c2⟩

theorem x_reachesYear (d : Nat) (h : aH) (ls : Nat) (w : Nat → Int32) (hWf : WfW w) (V : XV h ls w) (SP : SpreadR h ls w) (y : Int32) : Sp (Rn (d + 6)) 139 [.ref (0), .int (y)] h (fun r9 h9 => r9 = some (.int (bI (iin y 61))) ∧ RY h h9 ls w ∧ (iin y 61 → ∀ i, i < ntW w → Rch h9 w i y.toNatClampNeg)) := by
  obtain ⟨⟨e1, e2⟩, ⟨e3, e4⟩, ⟨e5, e6⟩⟩ := Wf_n hWf
  obtain ⟨⟨e7, e8⟩, ⟨e9, e10⟩⟩ := Wf_m hWf
  obtain ⟨v0, ⟨x9, v1⟩, ⟨v2, ⟨sz, rf, rt, rv, ag, vr, sd, tl, l0, l1, l2, l3, l4, l5, l6, l7, l8, g1, g2, g3, g4, g5⟩, ⟨sec, it, fi, se, sg, lst, rs, rp, pj, pk, pv, k0, k1, k2, k3, k4, k5, k6, k7, k8, k9, k10, k11, k12, k13⟩, ⟨hv, hc, y0, y1, y2, y3, y4⟩, ⟨an, wk, n0, n1, n2, n3, n4⟩⟩, v3⟩ := id V
  rw [e1, e3, e5] at l0
  rw [e7, e9] at k1
  refine Sp_of (by decide) (Nat.le_of_ble_eq_true rfl) ?_
  show Wn _ _ 0 [(0, .ref (0)), (1, .int (y))] [] _ _
  refine wn_ld (pc' := 1) (q := 1) (kin := 0) (v := .int (y)) rfl (fun _ _ _ => rfl) rfl rfl ?_
  refine wn_staI (pc' := 4) rfl rfl (by decide) rfl rfl (Nat.le_of_ble_eq_true rfl) (x_isYear _ _ _) ?_
  refine wn_ifneB (t := 9) (f := 7) rfl rfl rfl (fun c1 => ?_) (fun c1 => ?_)
  · have c1 : (iin y 61) := c1
    obtain ⟨y9, hy9, rfl⟩ := iin_of c1
    have ti_y := nI_toInt (n := y9) (show y9 < 2 ^ 31 by omega)
    have cl_y := nI_clamp (n := y9) (show y9 < 2 ^ 31 by omega)
    refine wn_ic (pc' := 10) (w := nI 0) rfl rfl (by decide) ?_
    refine wn_st (pc' := 11) (q := 2) (kin := 0) (lv' := [(0, .ref (0)), (1, .int (nI (y9))), (2, .int (nI (0)))]) rfl (fun _ _ _ => rfl) rfl (Nat.le_of_ble_eq_true rfl) rfl ?_
    have lp3 : ∀ (n_lp3 : Nat) (g2 : aH) (i : Nat), (ntW w) + 1 ≤ i + n_lp3 → i ≤ ntW w → RY h g2 ls w → (∀ i9, i9 < i → Rch g2 w i9 y9) → Wn (Rn (d + 5)) 139 11 [(0, .ref (0)), (1, .int (nI (y9))), (2, .int (nI (i)))] [] (g2) (fun r9 h9 => r9 = some (.int (bI (iin (nI y9) 61))) ∧ RY h h9 ls w ∧ (iin (nI y9) 61 → ∀ i, i < ntW w → Rch h9 w i (nI y9).toNatClampNeg)) := by
      intro n_lp3
      induction n_lp3 with
      | zero => intro g2 i hm_lp3 hi_ RY_g2 hA; exfalso; omega
      | succ n_lp3 ih_lp3 =>
        intro g2 i hm_lp3 hi_ RY_g2 hA
        have V_g2 := RY_g2.xv V
        obtain ⟨v0_g2, ⟨x9_g2, v1_g2⟩, ⟨v2_g2, ⟨sz_g2, rf_g2, rt_g2, rv_g2, ag_g2, vr_g2, sd_g2, tl_g2, l0_g2, l1_g2, l2_g2, l3_g2, l4_g2, l5_g2, l6_g2, l7_g2, l8_g2, g1_g2, g2_g2, g3_g2, g4_g2, g5_g2⟩, ⟨sec_g2, it_g2, fi_g2, se_g2, sg_g2, lst_g2, rs_g2, rp_g2, pj_g2, pk_g2, pv_g2, k0_g2, k1_g2, k2_g2, k3_g2, k4_g2, k5_g2, k6_g2, k7_g2, k8_g2, k9_g2, k10_g2, k11_g2, k12_g2, k13_g2⟩, ⟨hv_g2, hc_g2, y0_g2, y1_g2, y2_g2, y3_g2, y4_g2⟩, ⟨an_g2, wk_g2, n0_g2, n1_g2, n2_g2, n3_g2, n4_g2⟩⟩, v3_g2⟩ := id V_g2
        rw [e1, e3, e5] at l0_g2
        rw [e7, e9] at k1_g2
        refine wn_ld (pc' := 12) (q := 2) (kin := 0) (v := .int (nI (i))) rfl (fun _ _ _ => rfl) rfl rfl ?_
        refine wn_ld (pc' := 13) (q := 0) (kin := 2) (v := .ref (0)) rfl (fun _ _ _ => rfl) rfl rfl ?_
        refine wn_get (pc' := 16) (v := .ref (23)) rfl rfl v1_g2 rfl ?_
        refine wn_get (pc' := 19) (v := .ref (ls)) rfl rfl v2_g2 rfl ?_
        refine wn_get (pc' := 22) (v := .int (nI (ntW w))) rfl rfl l0_g2 rfl ?_
        refine wn_icmpN (t := 40) (f := 25) rfl rfl rfl (by omega) (by omega) (fun c4 => ?_) (fun c4 => ?_)
        · have c4 : (ntW w) ≤ i := c4
          refine wn_ic (pc' := 41) (w := nI 1) rfl rfl (by decide) ?_
          refine wn_iret rfl rfl (by decide) ⟨congrArg (fun z => some (Value.int z)) (bI_t1 (iin_nI (by omega) (by omega))), RY_g2, fun _ i9 q => ?_⟩
          rw [cl_y]; exact hA i9 (by omega)
        · have c4 : i < (ntW w) := c4
          refine wn_ld (pc' := 26) (q := 0) (kin := 2) (v := .ref (0)) rfl (fun _ _ _ => rfl) rfl rfl ?_
          refine wn_get (pc' := 29) (v := .ref (52)) rfl rfl v1_g2 rfl ?_
          refine wn_ld (pc' := 30) (q := 2) (kin := 0) (v := .int (nI (i))) rfl (fun _ _ _ => rfl) rfl rfl ?_
          refine wn_ld (pc' := 31) (q := 1) (kin := 0) (v := .int (nI (y9))) rfl (fun _ _ _ => rfl) rfl rfl ?_
          refine wn_virS (pc' := 34) rfl rfl (by decide) rfl rfl v3_g2 (Nat.le_of_ble_eq_true rfl) (x_reach _ _ ls w hWf V_g2 RY_g2.2.1 i y9 (by omega) (by omega)) (fun r9 h5 e6 => ?_)
          obtain ⟨rfl, R_h5⟩ := e6
          have RY_h5 := RY.tr RY_g2 R_h5.ry
          have V_h5 := RY_h5.xv V
          obtain ⟨v0_h5, ⟨x9_h5, v1_h5⟩, ⟨v2_h5, ⟨sz_h5, rf_h5, rt_h5, rv_h5, ag_h5, vr_h5, sd_h5, tl_h5, l0_h5, l1_h5, l2_h5, l3_h5, l4_h5, l5_h5, l6_h5, l7_h5, l8_h5, g1_h5, g2_h5, g3_h5, g4_h5, g5_h5⟩, ⟨sec_h5, it_h5, fi_h5, se_h5, sg_h5, lst_h5, rs_h5, rp_h5, pj_h5, pk_h5, pv_h5, k0_h5, k1_h5, k2_h5, k3_h5, k4_h5, k5_h5, k6_h5, k7_h5, k8_h5, k9_h5, k10_h5, k11_h5, k12_h5, k13_h5⟩, ⟨hv_h5, hc_h5, y0_h5, y1_h5, y2_h5, y3_h5, y4_h5⟩, ⟨an_h5, wk_h5, n0_h5, n1_h5, n2_h5, n3_h5, n4_h5⟩⟩, v3_h5⟩ := id V_h5
          rw [e1, e3, e5] at l0_h5
          rw [e7, e9] at k1_h5
          show Wn _ _ 34 _ [] h5 _
          refine wn_incN (n := 1) (pc' := 37) (lv' := [(0, .ref (0)), (1, .int (nI (y9))), (2, .int (nI (i + 1)))]) rfl rfl rfl (Nat.le_of_ble_eq_true rfl) rfl (by decide) ?_
          refine wn_jp (pc' := 11) rfl rfl ?_
          refine wn_weak (lv' := [(0, .ref (0)), (1, .int (nI (y9))), (2, .int (nI (i + 1)))]) (by simp) ?_
          have z9 := ih_lp3 h5 (i + 1) (by omega) (by omega) RY_h5 (fun i9 q => by by_cases e : i9 = i; (subst e; exact R_h5.2.2.1.1); exact R_h5.2.2.2 i9 y9 (by omega) (by omega) (hA i9 (by omega)))
          exact z9
    refine wn_weak (lv' := [(0, .ref (0)), (1, .int (nI (y9))), (2, .int (nI (0)))]) (by simp) ?_
    have z9 := lp3 ((ntW w) + 1) h 0 (by omega) (by omega) (RY.rfl' SP) (fun _ q => absurd q (by omega))
    exact z9
  · have c1 : ¬ (iin y 61) := c1
    refine wn_ic (pc' := 8) (w := nI 0) rfl rfl (by decide) ?_
    exact wn_iret rfl rfl (by decide) ⟨congrArg (fun z => some (Value.int z)) (bI_f0 c1), (RY.rfl' SP), fun q => absurd q c1⟩

