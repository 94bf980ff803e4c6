/-! THE CLASS'S READER: lines -/
theorem x_readVillage (d : Nat) (h : aH) (t ct : Nat → Int32) (n p lr : Nat) (w : Nat → Int32) (hn : n ≤ 1200) (hp : p ≤ n) (hlr : lr = 24 ∨ lr = 3) (hJ : WJ w) (o1 : isB h 1 1200 ct) (o1v : ∀ x, x < 1200 → ct x = t x) (o2 : isO h 2 3 (rdS t lr (nI 0) (-1) n p)) (R1 : LandR h lr w) (R2 : LawsR h (lr + 9) w) (f0 : Nat) : Sp (Rn (d + 5)) 25 [.ref (2), .int (nI (f0))] h (fun r9 h9 => r9 = none ∧ FrL lr h h9 ∧ CS t n lr h9 (vilR t n f0 p w)) := by
  obtain ⟨sz, rf, rt, rv, ag, vr, sd, tl, l0, l1, l2, l3, l4, l5, l6, l7, l8, g1, g2, g3, g4, g5⟩ := id R1
  obtain ⟨sec, it, fi, se, sg, lst, rs, rp, pj, pk, pv, k0, k1, k2, k3, k4, k5, k6, k7, k8, k9, k10, k11, k12, k13⟩ := id R2
  obtain ⟨e0, e0b⟩ := wj_0 hJ
  obtain ⟨⟨e1, e2⟩, ⟨e3, e4⟩, ⟨e5, e6⟩⟩ := Wf_n hJ.wf
  obtain ⟨⟨e7, e8⟩, ⟨e9, e10⟩⟩ := Wf_m hJ.wf
  rw [e0, e1, e3, e5] at l0
  rw [e7, e9] at k1
  have hF := tkF_le (t := t) hp
  have hA := tkA_ge (t := t) (n := n) (p := p)
  have hA2 := tkA_le (t := t) hp
  have hK := tkK_le (t := t) (n := n) (p := p)
  refine Sp_of (by decide) (Nat.le_of_ble_eq_true rfl) ?_
  show Wn _ _ 0 [(0, .ref (2)), (1, .int (nI (f0)))] [] _ _
  refine wn_ld (pc' := 1) (q := 0) (kin := 2) (v := .ref (2)) rfl (fun _ _ _ => rfl) rfl rfl ?_
  refine wn_ld (pc' := 2) (q := 0) (kin := 2) (v := .ref (2)) rfl (fun _ _ _ => rfl) rfl rfl ?_
  refine wn_get (pc' := 5) (v := .ref (lr)) rfl rfl o2 rfl ?_
  refine wn_get (pc' := 8) (v := .int (nI (nvW w))) rfl rfl l0 rfl ?_
  refine wn_bp (pc' := 10) (w := nI 24) rfl rfl (by decide) ?_
  refine wn_ld (pc' := 11) (q := 1) (kin := 0) (v := .int (nI (f0))) rfl (fun _ _ _ => rfl) rfl rfl ?_
  refine wn_virS (pc' := 14) rfl rfl (by decide) rfl rfl o2 (Nat.le_of_ble_eq_true rfl) (x_refuseBeyond _ _ t ct n p lr hn hp o1 o1v o2 (nvW w) 24 f0 (by omega) (by omega)) (fun r9 h1 e2 => ?_)
  obtain ⟨rfl, f_h1, ⟨w_h1, o_h1⟩ | ⟨w_h1, o_h1⟩⟩ := e2
  · have fr_h1 := Fr.tr (Fr.rfl' [2] h) f_h1 (fun _ q => q)
    show Wn _ _ 14 _ [] h1 _
    refine wn_ld (pc' := 15) (q := 0) (kin := 2) (v := .ref (2)) rfl (fun _ _ _ => rfl) rfl rfl ?_
    refine wn_go (pc' := 17) (lv' := [(0, .ref (2)), (1, .int (nI (f0)))]) (st' := [.retAddr 1, .ref (2)]) rfl (fun _ _ _ k9 => ⟨by decide, k9⟩) ?_
    refine wn_virS (pc' := 20) rfl rfl (by decide) rfl rfl o_h1 (Nat.le_of_ble_eq_true rfl) (x_takeWord0 _ _ t ct n p lr hn hp ((fr2 fr_h1 (by decide)).trans o1) o1v o_h1 1 (by omega)) (fun r9 h3 e4 => ?_)
    obtain ⟨rfl, f_h3, ⟨w_h3, o_h3⟩ | ⟨w_h3, o_h3⟩⟩ := e4
    · have fr_h3 := Fr.tr fr_h1 f_h3 (fun _ q => q)
      have := tkF_le (t := t) (p := (tkA t n p)) (tkA_le hp)
      have := tkA_ge (t := t) (n := n) (p := (tkA t n p))
      have := tkA_le (t := t) (p := (tkA t n p)) (tkA_le hp)
      have := tkK_le (t := t) (n := n) (p := (tkA t n p))
      have g_h3 := wd_gt w_h3
      show Wn _ _ 20 _ [] h3 _
      refine wn_ld (pc' := 21) (q := 0) (kin := 2) (v := .ref (2)) rfl (fun _ _ _ => rfl) rfl rfl ?_
      refine wn_ic (pc' := 22) (w := nI 1) rfl rfl (by decide) ?_
      refine wn_bp (pc' := 24) (w := nI 99) rfl rfl (by decide) ?_
      refine wn_virS (pc' := 27) rfl rfl (by decide) rfl rfl o_h3 (Nat.le_of_ble_eq_true rfl) (x_num0 _ _ t ct n (tkA t n p) lr hn (tkA_le hp) ((fr2 fr_h3 (by decide)).trans o1) o1v o_h3 1 (by omega) (nI (99)) (99) (show (nI 99).toInt = 99 by decide) (by decide)) (fun r9 h5 e6 => ?_)
      obtain ⟨f_h5, ⟨w_h5, rfl, o_h5⟩ | ⟨w_h5, rfl, o_h5⟩⟩ := e6
      · have fr_h5 := Fr.tr fr_h3 f_h5 (fun _ q => q)
        have := tkF_le (t := t) (p := (tkA t n (tkA t n p))) (tkA_le (tkA_le hp))
        have := tkA_ge (t := t) (n := n) (p := (tkA t n (tkA t n p)))
        have := tkA_le (t := t) (p := (tkA t n (tkA t n p))) (tkA_le (tkA_le hp))
        have := tkK_le (t := t) (n := n) (p := (tkA t n (tkA t n p)))
        have b1_h5 := w_h5.2.1
        have b2_h5 := w_h5.2.2
        have g_h5 := nm_gt w_h5
        show Wn _ _ 27 _ [.int (nI (tkV t n (tkA t n p)))] h5 _
        refine wn_st (pc' := 28) (q := 2) (kin := 0) (lv' := [(0, .ref (2)), (1, .int (nI (f0))), (2, .int (nI (tkV t n (tkA t n p))))]) rfl (fun _ _ _ => rfl) rfl (Nat.le_of_ble_eq_true rfl) rfl ?_
        refine wn_ld (pc' := 29) (q := 0) (kin := 2) (v := .ref (2)) rfl (fun _ _ _ => rfl) rfl rfl ?_
        refine wn_virS (pc' := 32) rfl rfl (by decide) rfl rfl o_h5 (Nat.le_of_ble_eq_true rfl) (x_takeStop0 _ _ t ct n (tkA t n (tkA t n p)) lr hn (tkA_le (tkA_le hp)) ((fr2 fr_h5 (by decide)).trans o1) o1v o_h5) (fun r9 h7 e8 => ?_)
        obtain ⟨rfl, f_h7, ⟨w_h7, o_h7⟩ | ⟨w_h7, o_h7⟩⟩ := e8
        · have fr_h7 := Fr.tr fr_h5 f_h7 (fun _ q => q)
          have := tkF_le (t := t) (p := (tkA t n (tkA t n (tkA t n p)))) (tkA_le (tkA_le (tkA_le hp)))
          have := tkA_ge (t := t) (n := n) (p := (tkA t n (tkA t n (tkA t n p))))
          have := tkA_le (t := t) (p := (tkA t n (tkA t n (tkA t n p)))) (tkA_le (tkA_le (tkA_le hp)))
          have := tkK_le (t := t) (n := n) (p := (tkA t n (tkA t n (tkA t n p))))
          show Wn _ _ 32 _ [] h7 _
          refine wn_ld (pc' := 33) (q := 0) (kin := 2) (v := .ref (2)) rfl (fun _ _ _ => rfl) rfl rfl ?_
          refine wn_get (pc' := 36) (v := .int (nI (0))) rfl rfl o_h7 rfl ?_
          refine wn_ifN (t := 47) (f := 39) rfl rfl rfl (by omega) (fun c9 => ?_) (fun c9 => ?_)
          · have c9 : ¬ 0 = 0 := c9
            exact absurd c9 (by decide)
          · have c9 : 0 = 0 := c9
            refine wn_ld (pc' := 40) (q := 0) (kin := 2) (v := .ref (2)) rfl (fun _ _ _ => rfl) rfl rfl ?_
            refine wn_get (pc' := 43) (v := .ref (lr)) rfl rfl o_h7 rfl ?_
            refine wn_ld (pc' := 44) (q := 2) (kin := 0) (v := .int (nI (tkV t n (tkA t n p)))) rfl (fun _ _ _ => rfl) rfl rfl ?_
            refine wn_virS (pc' := 47) rfl rfl (by decide) rfl rfl ((fr2 fr_h7 (by omega)).trans l0) (Nat.le_of_ble_eq_true rfl) (x_addVillage _ _ lr w hJ (tkV t n (tkA t n p)) (by omega) (R1.kp (fun k p1 p2 => fr2 fr_h7 (by omega))) (R2.kp (fun k p1 p2 => fr2 fr_h7 (by omega)))) (fun r9 h10 e11 => ?_)
            obtain ⟨rfl, q_h10, L_h10, W_h10⟩ := e11
            show Wn _ _ 47 _ [] h10 _
            have eR : vilR t n f0 p w = .inr (_, _) := (pI_t w_h1).trans ((pI_t w_h3).trans ((pI_t w_h5).trans (pI_t w_h7)))
            refine wn_vret rfl rfl ⟨rfl, (FrL.f2 (FrL.rfl' lr h) fr_h7).q q_h10, ?_⟩
            rw [eR]
            exact CS_r ((q_h10.2 2 (by omega)).trans o_h7) L_h10 W_h10
        · have fr_h7 := Fr.tr fr_h5 f_h7 (fun _ q => q)
          show Wn _ _ 32 _ [] h7 _
          refine wn_ld (pc' := 33) (q := 0) (kin := 2) (v := .ref (2)) rfl (fun _ _ _ => rfl) rfl rfl ?_
          refine wn_get (pc' := 36) (v := .int (nI (1))) rfl rfl o_h7 rfl ?_
          refine wn_ifc (t := 47) (f := 39) rfl rfl rfl (fun c12 => ?_) (fun c12 => ?_)
          · have c12 : ¬ ((nI (1))) = 0 := c12
            have eR : vilR t n f0 p w = .inl (1, tkF t n (tkA t n (tkA t n p))) := (pI_t w_h1).trans ((pI_t w_h3).trans ((pI_t w_h5).trans (pI_f w_h7)))
            refine wn_vret rfl rfl ⟨rfl, FrL.f2 (FrL.rfl' lr h) fr_h7, ?_⟩
            rw [eR]
            exact CS_l (show ¬ nI 1 = 0 by decide) (tkA_le (tkA_le hp)) o_h7 ((R1.s R2).kp (fun k p1 p2 => fr2 fr_h7 (by omega)))
          · have c12 : ((nI (1))) = 0 := c12
            exact absurd c12 (show ¬ nI 1 = 0 by decide)
      · have fr_h5 := Fr.tr fr_h3 f_h5 (fun _ q => q)
        show Wn _ _ 27 _ [.int (-1)] h5 _
        refine wn_st (pc' := 28) (q := 2) (kin := 0) (lv' := [(0, .ref (2)), (1, .int (nI (f0))), (2, .int (-1))]) rfl (fun _ _ _ => rfl) rfl (Nat.le_of_ble_eq_true rfl) rfl ?_
        refine wn_ld (pc' := 29) (q := 0) (kin := 2) (v := .ref (2)) rfl (fun _ _ _ => rfl) rfl rfl ?_
        refine wn_virS (pc' := 32) rfl rfl (by decide) rfl rfl o_h5 (Nat.le_of_ble_eq_true rfl) (x_takeStopB _ _ t ct n (tkA t n p) lr (nI (nmF t n (tkA t n p))) (nI (tkF t n (tkA t n p))) hn (tkA_le hp) ((fr2 fr_h5 (by decide)).trans o1) o1v o_h5 nmF_nz) (fun r9 h13 e14 => ?_)
        obtain ⟨rfl, f_h13, p_h13, hp_h13, o_h13⟩ := e14
        have fr_h13 := Fr.tr fr_h5 f_h13 (fun _ q => q)
        show Wn _ _ 32 _ [] h13 _
        refine wn_ld (pc' := 33) (q := 0) (kin := 2) (v := .ref (2)) rfl (fun _ _ _ => rfl) rfl rfl ?_
        refine wn_get (pc' := 36) (v := .int (nI (nmF t n (tkA t n p)))) rfl rfl o_h13 rfl ?_
        refine wn_ifc (t := 47) (f := 39) rfl rfl rfl (fun c15 => ?_) (fun c15 => ?_)
        · have c15 : ¬ ((nI (nmF t n (tkA t n p)))) = 0 := c15
          have eR : vilR t n f0 p w = .inl (nmF t n (tkA t n p), tkF t n (tkA t n p)) := (pI_t w_h1).trans ((pI_t w_h3).trans (pI_f w_h5))
          refine wn_vret rfl rfl ⟨rfl, FrL.f2 (FrL.rfl' lr h) fr_h13, ?_⟩
          rw [eR]
          exact CS_l nmF_nz hp_h13 o_h13 ((R1.s R2).kp (fun k p1 p2 => fr2 fr_h13 (by omega)))
        · have c15 : ((nI (nmF t n (tkA t n p)))) = 0 := c15
          exact absurd c15 nmF_nz
    · have fr_h3 := Fr.tr fr_h1 f_h3 (fun _ q => q)
      show Wn _ _ 20 _ [] h3 _
      refine wn_ld (pc' := 21) (q := 0) (kin := 2) (v := .ref (2)) rfl (fun _ _ _ => rfl) rfl rfl ?_
      refine wn_ic (pc' := 22) (w := nI 1) rfl rfl (by decide) ?_
      refine wn_bp (pc' := 24) (w := nI 99) rfl rfl (by decide) ?_
      refine wn_virS (pc' := 27) rfl rfl (by decide) rfl rfl o_h3 (Nat.le_of_ble_eq_true rfl) (x_takeNumberB _ _ lr _ _ _ _ _ _ _ o_h3 (show ¬ nI 1 = 0 by decide) (nI (1)) (nI (99))) (fun r9 h16 e17 => ?_)
      obtain ⟨rfl, e9⟩ := e17
      rw [e9]
      show Wn _ _ 27 _ [.int (-1)] h3 _
      refine wn_st (pc' := 28) (q := 2) (kin := 0) (lv' := [(0, .ref (2)), (1, .int (nI (f0))), (2, .int (-1))]) rfl (fun _ _ _ => rfl) rfl (Nat.le_of_ble_eq_true rfl) rfl ?_
      refine wn_ld (pc' := 29) (q := 0) (kin := 2) (v := .ref (2)) rfl (fun _ _ _ => rfl) rfl rfl ?_
      refine wn_virS (pc' := 32) rfl rfl (by decide) rfl rfl o_h3 (Nat.le_of_ble_eq_true rfl) (x_takeStopB _ _ t ct n p lr (nI (1)) (nI (tkF t n p)) hn hp ((fr2 fr_h3 (by decide)).trans o1) o1v o_h3 (show ¬ nI 1 = 0 by decide)) (fun r9 h18 e19 => ?_)
      obtain ⟨rfl, f_h18, p_h18, hp_h18, o_h18⟩ := e19
      have fr_h18 := Fr.tr fr_h3 f_h18 (fun _ q => q)
      show Wn _ _ 32 _ [] h18 _
      refine wn_ld (pc' := 33) (q := 0) (kin := 2) (v := .ref (2)) rfl (fun _ _ _ => rfl) rfl rfl ?_
      refine wn_get (pc' := 36) (v := .int (nI (1))) rfl rfl o_h18 rfl ?_
      refine wn_ifc (t := 47) (f := 39) rfl rfl rfl (fun c20 => ?_) (fun c20 => ?_)
      · have c20 : ¬ ((nI (1))) = 0 := c20
        have eR : vilR t n f0 p w = .inl (1, tkF t n p) := (pI_t w_h1).trans (pI_f w_h3)
        refine wn_vret rfl rfl ⟨rfl, FrL.f2 (FrL.rfl' lr h) fr_h18, ?_⟩
        rw [eR]
        exact CS_l (show ¬ nI 1 = 0 by decide) hp_h18 o_h18 ((R1.s R2).kp (fun k p1 p2 => fr2 fr_h18 (by omega)))
      · have c20 : ((nI (1))) = 0 := c20
        exact absurd c20 (show ¬ nI 1 = 0 by decide)
  · have fr_h1 := Fr.tr (Fr.rfl' [2] h) f_h1 (fun _ q => q)
    show Wn _ _ 14 _ [] h1 _
    refine wn_ld (pc' := 15) (q := 0) (kin := 2) (v := .ref (2)) rfl (fun _ _ _ => rfl) rfl rfl ?_
    refine wn_go (pc' := 17) (lv' := [(0, .ref (2)), (1, .int (nI (f0)))]) (st' := [.retAddr 1, .ref (2)]) rfl (fun _ _ _ k9 => ⟨by decide, k9⟩) ?_
    refine wn_virS (pc' := 20) rfl rfl (by decide) rfl rfl o_h1 (Nat.le_of_ble_eq_true rfl) (x_takeWordB _ _ t ct n p lr (nI (3)) (nI (f0)) hn hp ((fr2 fr_h1 (by decide)).trans o1) o1v o_h1 (show ¬ nI 3 = 0 by decide) 1 (by omega)) (fun r9 h21 e22 => ?_)
    obtain ⟨rfl, f_h21, p_h21, hp_h21, o_h21⟩ := e22
    have fr_h21 := Fr.tr fr_h1 f_h21 (fun _ q => q)
    show Wn _ _ 20 _ [] h21 _
    refine wn_ld (pc' := 21) (q := 0) (kin := 2) (v := .ref (2)) rfl (fun _ _ _ => rfl) rfl rfl ?_
    refine wn_ic (pc' := 22) (w := nI 1) rfl rfl (by decide) ?_
    refine wn_bp (pc' := 24) (w := nI 99) rfl rfl (by decide) ?_
    refine wn_virS (pc' := 27) rfl rfl (by decide) rfl rfl o_h21 (Nat.le_of_ble_eq_true rfl) (x_takeNumberB _ _ lr _ _ _ _ _ _ _ o_h21 (show ¬ nI 3 = 0 by decide) (nI (1)) (nI (99))) (fun r9 h23 e24 => ?_)
    obtain ⟨rfl, e9⟩ := e24
    rw [e9]
    show Wn _ _ 27 _ [.int (-1)] h21 _
    refine wn_st (pc' := 28) (q := 2) (kin := 0) (lv' := [(0, .ref (2)), (1, .int (nI (f0))), (2, .int (-1))]) rfl (fun _ _ _ => rfl) rfl (Nat.le_of_ble_eq_true rfl) rfl ?_
    refine wn_ld (pc' := 29) (q := 0) (kin := 2) (v := .ref (2)) rfl (fun _ _ _ => rfl) rfl rfl ?_
    refine wn_virS (pc' := 32) rfl rfl (by decide) rfl rfl o_h21 (Nat.le_of_ble_eq_true rfl) (x_takeStopB _ _ t ct n p_h21 lr (nI (3)) (nI (f0)) hn hp_h21 ((fr2 fr_h21 (by decide)).trans o1) o1v o_h21 (show ¬ nI 3 = 0 by decide)) (fun r9 h25 e26 => ?_)
    obtain ⟨rfl, f_h25, p_h25, hp_h25, o_h25⟩ := e26
    have fr_h25 := Fr.tr fr_h21 f_h25 (fun _ q => q)
    show Wn _ _ 32 _ [] h25 _
    refine wn_ld (pc' := 33) (q := 0) (kin := 2) (v := .ref (2)) rfl (fun _ _ _ => rfl) rfl rfl ?_
    refine wn_get (pc' := 36) (v := .int (nI (3))) rfl rfl o_h25 rfl ?_
    refine wn_ifc (t := 47) (f := 39) rfl rfl rfl (fun c27 => ?_) (fun c27 => ?_)
    · have c27 : ¬ ((nI (3))) = 0 := c27
      have eR : vilR t n f0 p w = .inl (3, f0) := pI_f w_h1
      refine wn_vret rfl rfl ⟨rfl, FrL.f2 (FrL.rfl' lr h) fr_h25, ?_⟩
      rw [eR]
      exact CS_l (show ¬ nI 3 = 0 by decide) hp_h25 o_h25 ((R1.s R2).kp (fun k p1 p2 => fr2 fr_h25 (by omega)))
    · have c27 : ((nI (3))) = 0 := c27
      exact absurd c27 (show ¬ nI 3 = 0 by decide)

theorem x_readItem (d : Nat) (h : aH) (t ct : Nat → Int32) (n p lr : Nat) (w : Nat → Int32) (hn : n ≤ 1200) (hp : p ≤ n) (hlr : lr = 24 ∨ lr = 3) (hJ : WJ w) (o1 : isB h 1 1200 ct) (o1v : ∀ x, x < 1200 → ct x = t x) (o2 : isO h 2 3 (rdS t lr (nI 0) (-1) n p)) (R1 : LandR h lr w) (R2 : LawsR h (lr + 9) w) (f0 : Nat) : Sp (Rn (d + 5)) 27 [.ref (2), .int (nI (f0))] h (fun r9 h9 => r9 = none ∧ FrL lr h h9 ∧ CS t n lr h9 (itmR t n f0 p w)) := by
  obtain ⟨sz, rf, rt, rv, ag, vr, sd, tl, l0, l1, l2, l3, l4, l5, l6, l7, l8, g1, g2, g3, g4, g5⟩ := id R1
  obtain ⟨sec, it, fi, se, sg, lst, rs, rp, pj, pk, pv, k0, k1, k2, k3, k4, k5, k6, k7, k8, k9, k10, k11, k12, k13⟩ := id R2
  obtain ⟨e0, e0b⟩ := wj_0 hJ
  obtain ⟨⟨e1, e2⟩, ⟨e3, e4⟩, ⟨e5, e6⟩⟩ := Wf_n hJ.wf
  obtain ⟨⟨e7, e8⟩, ⟨e9, e10⟩⟩ := Wf_m hJ.wf
  rw [e0, e1, e3, e5] at l0
  rw [e7, e9] at k1
  have hF := tkF_le (t := t) hp
  have hA := tkA_ge (t := t) (n := n) (p := p)
  have hA2 := tkA_le (t := t) hp
  have hK := tkK_le (t := t) (n := n) (p := p)
  refine Sp_of (by decide) (Nat.le_of_ble_eq_true rfl) ?_
  show Wn _ _ 0 [(0, .ref (2)), (1, .int (nI (f0)))] [] _ _
  refine wn_ld (pc' := 1) (q := 0) (kin := 2) (v := .ref (2)) rfl (fun _ _ _ => rfl) rfl rfl ?_
  refine wn_ld (pc' := 2) (q := 0) (kin := 2) (v := .ref (2)) rfl (fun _ _ _ => rfl) rfl rfl ?_
  refine wn_get (pc' := 5) (v := .ref (lr)) rfl rfl o2 rfl ?_
  refine wn_get (pc' := 8) (v := .int (nI (ntW w))) rfl rfl l0 rfl ?_
  refine wn_bp (pc' := 10) (w := nI 10) rfl rfl (by decide) ?_
  refine wn_ld (pc' := 11) (q := 1) (kin := 0) (v := .int (nI (f0))) rfl (fun _ _ _ => rfl) rfl rfl ?_
  refine wn_virS (pc' := 14) rfl rfl (by decide) rfl rfl o2 (Nat.le_of_ble_eq_true rfl) (x_refuseBeyond _ _ t ct n p lr hn hp o1 o1v o2 (ntW w) 10 f0 (by omega) (by omega)) (fun r9 h1 e2 => ?_)
  obtain ⟨rfl, f_h1, ⟨w_h1, o_h1⟩ | ⟨w_h1, o_h1⟩⟩ := e2
  · have fr_h1 := Fr.tr (Fr.rfl' [2] h) f_h1 (fun _ q => q)
    show Wn _ _ 14 _ [] h1 _
    refine wn_ld (pc' := 15) (q := 0) (kin := 2) (v := .ref (2)) rfl (fun _ _ _ => rfl) rfl rfl ?_
    refine wn_go (pc' := 17) (lv' := [(0, .ref (2)), (1, .int (nI (f0)))]) (st' := [.retAddr 5, .ref (2)]) rfl (fun _ _ _ k9 => ⟨by decide, k9⟩) ?_
    refine wn_virS (pc' := 20) rfl rfl (by decide) rfl rfl o_h1 (Nat.le_of_ble_eq_true rfl) (x_takeWord0 _ _ t ct n p lr hn hp ((fr2 fr_h1 (by decide)).trans o1) o1v o_h1 5 (by omega)) (fun r9 h3 e4 => ?_)
    obtain ⟨rfl, f_h3, ⟨w_h3, o_h3⟩ | ⟨w_h3, o_h3⟩⟩ := e4
    · have fr_h3 := Fr.tr fr_h1 f_h3 (fun _ q => q)
      have := tkF_le (t := t) (p := (tkA t n p)) (tkA_le hp)
      have := tkA_ge (t := t) (n := n) (p := (tkA t n p))
      have := tkA_le (t := t) (p := (tkA t n p)) (tkA_le hp)
      have := tkK_le (t := t) (n := n) (p := (tkA t n p))
      have g_h3 := wd_gt w_h3
      show Wn _ _ 20 _ [] h3 _
      refine wn_ld (pc' := 21) (q := 0) (kin := 2) (v := .ref (2)) rfl (fun _ _ _ => rfl) rfl rfl ?_
      refine wn_ic (pc' := 22) (w := nI 2) rfl rfl (by decide) ?_
      refine wn_ic (pc' := 23) (w := nI 5) rfl rfl (by decide) ?_
      refine wn_virS (pc' := 26) rfl rfl (by decide) rfl rfl o_h3 (Nat.le_of_ble_eq_true rfl) (x_num0 _ _ t ct n (tkA t n p) lr hn (tkA_le hp) ((fr2 fr_h3 (by decide)).trans o1) o1v o_h3 2 (by omega) (nI (5)) (5) (show (nI 5).toInt = 5 by decide) (by decide)) (fun r9 h5 e6 => ?_)
      obtain ⟨f_h5, ⟨w_h5, rfl, o_h5⟩ | ⟨w_h5, rfl, o_h5⟩⟩ := e6
      · have fr_h5 := Fr.tr fr_h3 f_h5 (fun _ q => q)
        have := tkF_le (t := t) (p := (tkA t n (tkA t n p))) (tkA_le (tkA_le hp))
        have := tkA_ge (t := t) (n := n) (p := (tkA t n (tkA t n p)))
        have := tkA_le (t := t) (p := (tkA t n (tkA t n p))) (tkA_le (tkA_le hp))
        have := tkK_le (t := t) (n := n) (p := (tkA t n (tkA t n p)))
        have b1_h5 := w_h5.2.1
        have b2_h5 := w_h5.2.2
        have g_h5 := nm_gt w_h5
        show Wn _ _ 26 _ [.int (nI (tkV t n (tkA t n p)))] h5 _
        refine wn_st (pc' := 27) (q := 2) (kin := 0) (lv' := [(0, .ref (2)), (1, .int (nI (f0))), (2, .int (nI (tkV t n (tkA t n p))))]) rfl (fun _ _ _ => rfl) rfl (Nat.le_of_ble_eq_true rfl) rfl ?_
        refine wn_ld (pc' := 28) (q := 0) (kin := 2) (v := .ref (2)) rfl (fun _ _ _ => rfl) rfl rfl ?_
        refine wn_go (pc' := 30) (lv' := [(0, .ref (2)), (1, .int (nI (f0))), (2, .int (nI (tkV t n (tkA t n p))))]) (st' := [.retAddr 6, .ref (2)]) rfl (fun _ _ _ k9 => ⟨by decide, k9⟩) ?_
        refine wn_virS (pc' := 33) rfl rfl (by decide) rfl rfl o_h5 (Nat.le_of_ble_eq_true rfl) (x_takeWord0 _ _ t ct n (tkA t n (tkA t n p)) lr hn (tkA_le (tkA_le hp)) ((fr2 fr_h5 (by decide)).trans o1) o1v o_h5 6 (by omega)) (fun r9 h7 e8 => ?_)
        obtain ⟨rfl, f_h7, ⟨w_h7, o_h7⟩ | ⟨w_h7, o_h7⟩⟩ := e8
        · have fr_h7 := Fr.tr fr_h5 f_h7 (fun _ q => q)
          have := tkF_le (t := t) (p := (tkA t n (tkA t n (tkA t n p)))) (tkA_le (tkA_le (tkA_le hp)))
          have := tkA_ge (t := t) (n := n) (p := (tkA t n (tkA t n (tkA t n p))))
          have := tkA_le (t := t) (p := (tkA t n (tkA t n (tkA t n p)))) (tkA_le (tkA_le (tkA_le hp)))
          have := tkK_le (t := t) (n := n) (p := (tkA t n (tkA t n (tkA t n p))))
          have g_h7 := wd_gt w_h7
          show Wn _ _ 33 _ [] h7 _
          refine wn_ld (pc' := 34) (q := 0) (kin := 2) (v := .ref (2)) rfl (fun _ _ _ => rfl) rfl rfl ?_
          refine wn_ic (pc' := 35) (w := nI 0) rfl rfl (by decide) ?_
          refine wn_ld (pc' := 36) (q := 2) (kin := 0) (v := .int (nI (tkV t n (tkA t n p)))) rfl (fun _ _ _ => rfl) rfl rfl ?_
          refine wn_ic (pc' := 37) (w := nI 1) rfl rfl (by decide) ?_
          refine wn_pu (pc' := 38) (st' := [.int ((nI (tkV t n (tkA t n p))) - (nI (1))), .int (nI (0)), .ref (2)]) rfl (fun _ _ _ => rfl) rfl rfl ?_
          refine wn_virS (pc' := 41) rfl rfl (by decide) rfl rfl o_h7 (Nat.le_of_ble_eq_true rfl) (x_num0 _ _ t ct n (tkA t n (tkA t n (tkA t n p))) lr hn (tkA_le (tkA_le (tkA_le hp))) ((fr2 fr_h7 (by decide)).trans o1) o1v o_h7 0 (by omega) ((nI (tkV t n (tkA t n p))) - (nI (1))) (((tkV t n (tkA t n p) : Nat) : Int) - 1) (sub1 (by omega)) (by omega)) (fun r9 h9 e10 => ?_)
          obtain ⟨f_h9, ⟨w_h9, rfl, o_h9⟩ | ⟨w_h9, rfl, o_h9⟩⟩ := e10
          · have fr_h9 := Fr.tr fr_h7 f_h9 (fun _ q => q)
            have := tkF_le (t := t) (p := (tkA t n (tkA t n (tkA t n (tkA t n p))))) (tkA_le (tkA_le (tkA_le (tkA_le hp))))
            have := tkA_ge (t := t) (n := n) (p := (tkA t n (tkA t n (tkA t n (tkA t n p)))))
            have := tkA_le (t := t) (p := (tkA t n (tkA t n (tkA t n (tkA t n p))))) (tkA_le (tkA_le (tkA_le (tkA_le hp))))
            have := tkK_le (t := t) (n := n) (p := (tkA t n (tkA t n (tkA t n (tkA t n p)))))
            have b1_h9 := w_h9.2.1
            have b2_h9 := w_h9.2.2
            have g_h9 := nm_gt w_h9
            show Wn _ _ 41 _ [.int (nI (tkV t n (tkA t n (tkA t n (tkA t n p)))))] h9 _
            refine wn_st (pc' := 42) (q := 3) (kin := 0) (lv' := [(0, .ref (2)), (1, .int (nI (f0))), (2, .int (nI (tkV t n (tkA t n p)))), (3, .int (nI (tkV t n (tkA t n (tkA t n (tkA t n p))))))]) rfl (fun _ _ _ => rfl) rfl (Nat.le_of_ble_eq_true rfl) rfl ?_
            refine wn_ld (pc' := 43) (q := 0) (kin := 2) (v := .ref (2)) rfl (fun _ _ _ => rfl) rfl rfl ?_
            refine wn_virS (pc' := 46) rfl rfl (by decide) rfl rfl o_h9 (Nat.le_of_ble_eq_true rfl) (x_takeStop0 _ _ t ct n (tkA t n (tkA t n (tkA t n (tkA t n p)))) lr hn (tkA_le (tkA_le (tkA_le (tkA_le hp)))) ((fr2 fr_h9 (by decide)).trans o1) o1v o_h9) (fun r9 h11 e12 => ?_)
            obtain ⟨rfl, f_h11, ⟨w_h11, o_h11⟩ | ⟨w_h11, o_h11⟩⟩ := e12
            · have fr_h11 := Fr.tr fr_h9 f_h11 (fun _ q => q)
              have := tkF_le (t := t) (p := (tkA t n (tkA t n (tkA t n (tkA t n (tkA t n p)))))) (tkA_le (tkA_le (tkA_le (tkA_le (tkA_le hp)))))
              have := tkA_ge (t := t) (n := n) (p := (tkA t n (tkA t n (tkA t n (tkA t n (tkA t n p))))))
              have := tkA_le (t := t) (p := (tkA t n (tkA t n (tkA t n (tkA t n (tkA t n p)))))) (tkA_le (tkA_le (tkA_le (tkA_le (tkA_le hp)))))
              have := tkK_le (t := t) (n := n) (p := (tkA t n (tkA t n (tkA t n (tkA t n (tkA t n p))))))
              show Wn _ _ 46 _ [] h11 _
              refine wn_ld (pc' := 47) (q := 0) (kin := 2) (v := .ref (2)) rfl (fun _ _ _ => rfl) rfl rfl ?_
              refine wn_get (pc' := 50) (v := .int (nI (0))) rfl rfl o_h11 rfl ?_
              refine wn_ifN (t := 62) (f := 53) rfl rfl rfl (by omega) (fun c13 => ?_) (fun c13 => ?_)
              · have c13 : ¬ 0 = 0 := c13
                exact absurd c13 (by decide)
              · have c13 : 0 = 0 := c13
                refine wn_ld (pc' := 54) (q := 0) (kin := 2) (v := .ref (2)) rfl (fun _ _ _ => rfl) rfl rfl ?_
                refine wn_get (pc' := 57) (v := .ref (lr)) rfl rfl o_h11 rfl ?_
                refine wn_ld (pc' := 58) (q := 2) (kin := 0) (v := .int (nI (tkV t n (tkA t n p)))) rfl (fun _ _ _ => rfl) rfl rfl ?_
                refine wn_ld (pc' := 59) (q := 3) (kin := 0) (v := .int (nI (tkV t n (tkA t n (tkA t n (tkA t n p)))))) rfl (fun _ _ _ => rfl) rfl rfl ?_
                refine wn_virS (pc' := 62) rfl rfl (by decide) rfl rfl ((fr2 fr_h11 (by omega)).trans l0) (Nat.le_of_ble_eq_true rfl) (x_addItem _ _ lr w hJ (tkV t n (tkA t n p)) (tkV t n (tkA t n (tkA t n (tkA t n p)))) (by omega) (R1.kp (fun k p1 p2 => fr2 fr_h11 (by omega))) (R2.kp (fun k p1 p2 => fr2 fr_h11 (by omega)))) (fun r9 h14 e15 => ?_)
                obtain ⟨rfl, q_h14, L_h14, W_h14⟩ := e15
                show Wn _ _ 62 _ [] h14 _
                have eR : itmR t n f0 p w = .inr (_, _) := (pI_t w_h1).trans ((pI_t w_h3).trans ((pI_t w_h5).trans ((pI_t w_h7).trans ((pI_t w_h9).trans (pI_t w_h11)))))
                refine wn_vret rfl rfl ⟨rfl, (FrL.f2 (FrL.rfl' lr h) fr_h11).q q_h14, ?_⟩
                rw [eR]
                exact CS_r ((q_h14.2 2 (by omega)).trans o_h11) L_h14 W_h14
            · have fr_h11 := Fr.tr fr_h9 f_h11 (fun _ q => q)
              show Wn _ _ 46 _ [] h11 _
              refine wn_ld (pc' := 47) (q := 0) (kin := 2) (v := .ref (2)) rfl (fun _ _ _ => rfl) rfl rfl ?_
              refine wn_get (pc' := 50) (v := .int (nI (1))) rfl rfl o_h11 rfl ?_
              refine wn_ifc (t := 62) (f := 53) rfl rfl rfl (fun c16 => ?_) (fun c16 => ?_)
              · have c16 : ¬ ((nI (1))) = 0 := c16
                have eR : itmR t n f0 p w = .inl (1, tkF t n (tkA t n (tkA t n (tkA t n (tkA t n p))))) := (pI_t w_h1).trans ((pI_t w_h3).trans ((pI_t w_h5).trans ((pI_t w_h7).trans ((pI_t w_h9).trans (pI_f w_h11)))))
                refine wn_vret rfl rfl ⟨rfl, FrL.f2 (FrL.rfl' lr h) fr_h11, ?_⟩
                rw [eR]
                exact CS_l (show ¬ nI 1 = 0 by decide) (tkA_le (tkA_le (tkA_le (tkA_le hp)))) o_h11 ((R1.s R2).kp (fun k p1 p2 => fr2 fr_h11 (by omega)))
              · have c16 : ((nI (1))) = 0 := c16
                exact absurd c16 (show ¬ nI 1 = 0 by decide)
          · have fr_h9 := Fr.tr fr_h7 f_h9 (fun _ q => q)
            show Wn _ _ 41 _ [.int (-1)] h9 _
            refine wn_st (pc' := 42) (q := 3) (kin := 0) (lv' := [(0, .ref (2)), (1, .int (nI (f0))), (2, .int (nI (tkV t n (tkA t n p)))), (3, .int (-1))]) rfl (fun _ _ _ => rfl) rfl (Nat.le_of_ble_eq_true rfl) rfl ?_
            refine wn_ld (pc' := 43) (q := 0) (kin := 2) (v := .ref (2)) rfl (fun _ _ _ => rfl) rfl rfl ?_
            refine wn_virS (pc' := 46) rfl rfl (by decide) rfl rfl o_h9 (Nat.le_of_ble_eq_true rfl) (x_takeStopB _ _ t ct n (tkA t n (tkA t n (tkA t n p))) lr (nI (nmF t n (tkA t n (tkA t n (tkA t n p))))) (nI (tkF t n (tkA t n (tkA t n (tkA t n p))))) hn (tkA_le (tkA_le (tkA_le hp))) ((fr2 fr_h9 (by decide)).trans o1) o1v o_h9 nmF_nz) (fun r9 h17 e18 => ?_)
            obtain ⟨rfl, f_h17, p_h17, hp_h17, o_h17⟩ := e18
            have fr_h17 := Fr.tr fr_h9 f_h17 (fun _ q => q)
            show Wn _ _ 46 _ [] h17 _
            refine wn_ld (pc' := 47) (q := 0) (kin := 2) (v := .ref (2)) rfl (fun _ _ _ => rfl) rfl rfl ?_
            refine wn_get (pc' := 50) (v := .int (nI (nmF t n (tkA t n (tkA t n (tkA t n p)))))) rfl rfl o_h17 rfl ?_
            refine wn_ifc (t := 62) (f := 53) rfl rfl rfl (fun c19 => ?_) (fun c19 => ?_)
            · have c19 : ¬ ((nI (nmF t n (tkA t n (tkA t n (tkA t n p)))))) = 0 := c19
              have eR : itmR t n f0 p w = .inl (nmF t n (tkA t n (tkA t n (tkA t n p))), tkF t n (tkA t n (tkA t n (tkA t n p)))) := (pI_t w_h1).trans ((pI_t w_h3).trans ((pI_t w_h5).trans ((pI_t w_h7).trans (pI_f w_h9))))
              refine wn_vret rfl rfl ⟨rfl, FrL.f2 (FrL.rfl' lr h) fr_h17, ?_⟩
              rw [eR]
              exact CS_l nmF_nz hp_h17 o_h17 ((R1.s R2).kp (fun k p1 p2 => fr2 fr_h17 (by omega)))
            · have c19 : ((nI (nmF t n (tkA t n (tkA t n (tkA t n p)))))) = 0 := c19
              exact absurd c19 nmF_nz
        · have fr_h7 := Fr.tr fr_h5 f_h7 (fun _ q => q)
          show Wn _ _ 33 _ [] h7 _
          refine wn_ld (pc' := 34) (q := 0) (kin := 2) (v := .ref (2)) rfl (fun _ _ _ => rfl) rfl rfl ?_
          refine wn_ic (pc' := 35) (w := nI 0) rfl rfl (by decide) ?_
          refine wn_ld (pc' := 36) (q := 2) (kin := 0) (v := .int (nI (tkV t n (tkA t n p)))) rfl (fun _ _ _ => rfl) rfl rfl ?_
          refine wn_ic (pc' := 37) (w := nI 1) rfl rfl (by decide) ?_
          refine wn_pu (pc' := 38) (st' := [.int ((nI (tkV t n (tkA t n p))) - (nI (1))), .int (nI (0)), .ref (2)]) rfl (fun _ _ _ => rfl) rfl rfl ?_
          refine wn_virS (pc' := 41) rfl rfl (by decide) rfl rfl o_h7 (Nat.le_of_ble_eq_true rfl) (x_takeNumberB _ _ lr _ _ _ _ _ _ _ o_h7 (show ¬ nI 1 = 0 by decide) (nI (0)) ((nI (tkV t n (tkA t n p))) - (nI (1)))) (fun r9 h20 e21 => ?_)
          obtain ⟨rfl, e9⟩ := e21
          rw [e9]
          show Wn _ _ 41 _ [.int (-1)] h7 _
          refine wn_st (pc' := 42) (q := 3) (kin := 0) (lv' := [(0, .ref (2)), (1, .int (nI (f0))), (2, .int (nI (tkV t n (tkA t n p)))), (3, .int (-1))]) rfl (fun _ _ _ => rfl) rfl (Nat.le_of_ble_eq_true rfl) rfl ?_
          refine wn_ld (pc' := 43) (q := 0) (kin := 2) (v := .ref (2)) rfl (fun _ _ _ => rfl) rfl rfl ?_
          refine wn_virS (pc' := 46) rfl rfl (by decide) rfl rfl o_h7 (Nat.le_of_ble_eq_true rfl) (x_takeStopB _ _ t ct n (tkA t n (tkA t n p)) lr (nI (1)) (nI (tkF t n (tkA t n (tkA t n p)))) hn (tkA_le (tkA_le hp)) ((fr2 fr_h7 (by decide)).trans o1) o1v o_h7 (show ¬ nI 1 = 0 by decide)) (fun r9 h22 e23 => ?_)
          obtain ⟨rfl, f_h22, p_h22, hp_h22, o_h22⟩ := e23
          have fr_h22 := Fr.tr fr_h7 f_h22 (fun _ q => q)
          show Wn _ _ 46 _ [] h22 _
          refine wn_ld (pc' := 47) (q := 0) (kin := 2) (v := .ref (2)) rfl (fun _ _ _ => rfl) rfl rfl ?_
          refine wn_get (pc' := 50) (v := .int (nI (1))) rfl rfl o_h22 rfl ?_
          refine wn_ifc (t := 62) (f := 53) rfl rfl rfl (fun c24 => ?_) (fun c24 => ?_)
          · have c24 : ¬ ((nI (1))) = 0 := c24
            have eR : itmR t n f0 p w = .inl (1, tkF t n (tkA t n (tkA t n p))) := (pI_t w_h1).trans ((pI_t w_h3).trans ((pI_t w_h5).trans (pI_f w_h7)))
            refine wn_vret rfl rfl ⟨rfl, FrL.f2 (FrL.rfl' lr h) fr_h22, ?_⟩
            rw [eR]
            exact CS_l (show ¬ nI 1 = 0 by decide) hp_h22 o_h22 ((R1.s R2).kp (fun k p1 p2 => fr2 fr_h22 (by omega)))
          · have c24 : ((nI (1))) = 0 := c24
            exact absurd c24 (show ¬ nI 1 = 0 by decide)
      · have fr_h5 := Fr.tr fr_h3 f_h5 (fun _ q => q)
        show Wn _ _ 26 _ [.int (-1)] h5 _
        refine wn_st (pc' := 27) (q := 2) (kin := 0) (lv' := [(0, .ref (2)), (1, .int (nI (f0))), (2, .int (-1))]) rfl (fun _ _ _ => rfl) rfl (Nat.le_of_ble_eq_true rfl) rfl ?_
        refine wn_ld (pc' := 28) (q := 0) (kin := 2) (v := .ref (2)) rfl (fun _ _ _ => rfl) rfl rfl ?_
        refine wn_go (pc' := 30) (lv' := [(0, .ref (2)), (1, .int (nI (f0))), (2, .int (-1))]) (st' := [.retAddr 6, .ref (2)]) rfl (fun _ _ _ k9 => ⟨by decide, k9⟩) ?_
        refine wn_virS (pc' := 33) rfl rfl (by decide) rfl rfl o_h5 (Nat.le_of_ble_eq_true rfl) (x_takeWordB _ _ t ct n (tkA t n p) lr (nI (nmF t n (tkA t n p))) (nI (tkF t n (tkA t n p))) hn (tkA_le hp) ((fr2 fr_h5 (by decide)).trans o1) o1v o_h5 nmF_nz 6 (by omega)) (fun r9 h25 e26 => ?_)
        obtain ⟨rfl, f_h25, p_h25, hp_h25, o_h25⟩ := e26
        have fr_h25 := Fr.tr fr_h5 f_h25 (fun _ q => q)
        show Wn _ _ 33 _ [] h25 _
        refine wn_ld (pc' := 34) (q := 0) (kin := 2) (v := .ref (2)) rfl (fun _ _ _ => rfl) rfl rfl ?_
        refine wn_ic (pc' := 35) (w := nI 0) rfl rfl (by decide) ?_
        refine wn_ld (pc' := 36) (q := 2) (kin := 0) (v := .int (-1)) rfl (fun _ _ _ => rfl) rfl rfl ?_
        refine wn_ic (pc' := 37) (w := nI 1) rfl rfl (by decide) ?_
        refine wn_pu (pc' := 38) (st' := [.int ((-1) - (nI (1))), .int (nI (0)), .ref (2)]) rfl (fun _ _ _ => rfl) rfl rfl ?_
        refine wn_virS (pc' := 41) rfl rfl (by decide) rfl rfl o_h25 (Nat.le_of_ble_eq_true rfl) (x_takeNumberB _ _ lr _ _ _ _ _ _ _ o_h25 nmF_nz (nI (0)) ((-1) - (nI (1)))) (fun r9 h27 e28 => ?_)
        obtain ⟨rfl, e9⟩ := e28
        rw [e9]
        show Wn _ _ 41 _ [.int (-1)] h25 _
        refine wn_st (pc' := 42) (q := 3) (kin := 0) (lv' := [(0, .ref (2)), (1, .int (nI (f0))), (2, .int (-1)), (3, .int (-1))]) rfl (fun _ _ _ => rfl) rfl (Nat.le_of_ble_eq_true rfl) rfl ?_
        refine wn_ld (pc' := 43) (q := 0) (kin := 2) (v := .ref (2)) rfl (fun _ _ _ => rfl) rfl rfl ?_
        refine wn_virS (pc' := 46) rfl rfl (by decide) rfl rfl o_h25 (Nat.le_of_ble_eq_true rfl) (x_takeStopB _ _ t ct n p_h25 lr (nI (nmF t n (tkA t n p))) (nI (tkF t n (tkA t n p))) hn hp_h25 ((fr2 fr_h25 (by decide)).trans o1) o1v o_h25 nmF_nz) (fun r9 h29 e30 => ?_)
        obtain ⟨rfl, f_h29, p_h29, hp_h29, o_h29⟩ := e30
        have fr_h29 := Fr.tr fr_h25 f_h29 (fun _ q => q)
        show Wn _ _ 46 _ [] h29 _
        refine wn_ld (pc' := 47) (q := 0) (kin := 2) (v := .ref (2)) rfl (fun _ _ _ => rfl) rfl rfl ?_
        refine wn_get (pc' := 50) (v := .int (nI (nmF t n (tkA t n p)))) rfl rfl o_h29 rfl ?_
        refine wn_ifc (t := 62) (f := 53) rfl rfl rfl (fun c31 => ?_) (fun c31 => ?_)
        · have c31 : ¬ ((nI (nmF t n (tkA t n p)))) = 0 := c31
          have eR : itmR t n f0 p w = .inl (nmF t n (tkA t n p), tkF t n (tkA t n p)) := (pI_t w_h1).trans ((pI_t w_h3).trans (pI_f w_h5))
          refine wn_vret rfl rfl ⟨rfl, FrL.f2 (FrL.rfl' lr h) fr_h29, ?_⟩
          rw [eR]
          exact CS_l nmF_nz hp_h29 o_h29 ((R1.s R2).kp (fun k p1 p2 => fr2 fr_h29 (by omega)))
        · have c31 : ((nI (nmF t n (tkA t n p)))) = 0 := c31
          exact absurd c31 nmF_nz
    · have fr_h3 := Fr.tr fr_h1 f_h3 (fun _ q => q)
      show Wn _ _ 20 _ [] h3 _
      refine wn_ld (pc' := 21) (q := 0) (kin := 2) (v := .ref (2)) rfl (fun _ _ _ => rfl) rfl rfl ?_
      refine wn_ic (pc' := 22) (w := nI 2) rfl rfl (by decide) ?_
      refine wn_ic (pc' := 23) (w := nI 5) rfl rfl (by decide) ?_
      refine wn_virS (pc' := 26) rfl rfl (by decide) rfl rfl o_h3 (Nat.le_of_ble_eq_true rfl) (x_takeNumberB _ _ lr _ _ _ _ _ _ _ o_h3 (show ¬ nI 1 = 0 by decide) (nI (2)) (nI (5))) (fun r9 h32 e33 => ?_)
      obtain ⟨rfl, e9⟩ := e33
      rw [e9]
      show Wn _ _ 26 _ [.int (-1)] h3 _
      refine wn_st (pc' := 27) (q := 2) (kin := 0) (lv' := [(0, .ref (2)), (1, .int (nI (f0))), (2, .int (-1))]) rfl (fun _ _ _ => rfl) rfl (Nat.le_of_ble_eq_true rfl) rfl ?_
      refine wn_ld (pc' := 28) (q := 0) (kin := 2) (v := .ref (2)) rfl (fun _ _ _ => rfl) rfl rfl ?_
      refine wn_go (pc' := 30) (lv' := [(0, .ref (2)), (1, .int (nI (f0))), (2, .int (-1))]) (st' := [.retAddr 6, .ref (2)]) rfl (fun _ _ _ k9 => ⟨by decide, k9⟩) ?_
      refine wn_virS (pc' := 33) rfl rfl (by decide) rfl rfl o_h3 (Nat.le_of_ble_eq_true rfl) (x_takeWordB _ _ t ct n p lr (nI (1)) (nI (tkF t n p)) hn hp ((fr2 fr_h3 (by decide)).trans o1) o1v o_h3 (show ¬ nI 1 = 0 by decide) 6 (by omega)) (fun r9 h34 e35 => ?_)
      obtain ⟨rfl, f_h34, p_h34, hp_h34, o_h34⟩ := e35
      have fr_h34 := Fr.tr fr_h3 f_h34 (fun _ q => q)
      show Wn _ _ 33 _ [] h34 _
      refine wn_ld (pc' := 34) (q := 0) (kin := 2) (v := .ref (2)) rfl (fun _ _ _ => rfl) rfl rfl ?_
      refine wn_ic (pc' := 35) (w := nI 0) rfl rfl (by decide) ?_
      refine wn_ld (pc' := 36) (q := 2) (kin := 0) (v := .int (-1)) rfl (fun _ _ _ => rfl) rfl rfl ?_
      refine wn_ic (pc' := 37) (w := nI 1) rfl rfl (by decide) ?_
      refine wn_pu (pc' := 38) (st' := [.int ((-1) - (nI (1))), .int (nI (0)), .ref (2)]) rfl (fun _ _ _ => rfl) rfl rfl ?_
      refine wn_virS (pc' := 41) rfl rfl (by decide) rfl rfl o_h34 (Nat.le_of_ble_eq_true rfl) (x_takeNumberB _ _ lr _ _ _ _ _ _ _ o_h34 (show ¬ nI 1 = 0 by decide) (nI (0)) ((-1) - (nI (1)))) (fun r9 h36 e37 => ?_)
      obtain ⟨rfl, e9⟩ := e37
      rw [e9]
      show Wn _ _ 41 _ [.int (-1)] h34 _
      refine wn_st (pc' := 42) (q := 3) (kin := 0) (lv' := [(0, .ref (2)), (1, .int (nI (f0))), (2, .int (-1)), (3, .int (-1))]) rfl (fun _ _ _ => rfl) rfl (Nat.le_of_ble_eq_true rfl) rfl ?_
      refine wn_ld (pc' := 43) (q := 0) (kin := 2) (v := .ref (2)) rfl (fun _ _ _ => rfl) rfl rfl ?_
      refine wn_virS (pc' := 46) rfl rfl (by decide) rfl rfl o_h34 (Nat.le_of_ble_eq_true rfl) (x_takeStopB _ _ t ct n p_h34 lr (nI (1)) (nI (tkF t n p)) hn hp_h34 ((fr2 fr_h34 (by decide)).trans o1) o1v o_h34 (show ¬ nI 1 = 0 by decide)) (fun r9 h38 e39 => ?_)
      obtain ⟨rfl, f_h38, p_h38, hp_h38, o_h38⟩ := e39
      have fr_h38 := Fr.tr fr_h34 f_h38 (fun _ q => q)
      show Wn _ _ 46 _ [] h38 _
      refine wn_ld (pc' := 47) (q := 0) (kin := 2) (v := .ref (2)) rfl (fun _ _ _ => rfl) rfl rfl ?_
      refine wn_get (pc' := 50) (v := .int (nI (1))) rfl rfl o_h38 rfl ?_
      refine wn_ifc (t := 62) (f := 53) rfl rfl rfl (fun c40 => ?_) (fun c40 => ?_)
      · have c40 : ¬ ((nI (1))) = 0 := c40
        have eR : itmR t n f0 p w = .inl (1, tkF t n p) := (pI_t w_h1).trans (pI_f w_h3)
        refine wn_vret rfl rfl ⟨rfl, FrL.f2 (FrL.rfl' lr h) fr_h38, ?_⟩
        rw [eR]
        exact CS_l (show ¬ nI 1 = 0 by decide) hp_h38 o_h38 ((R1.s R2).kp (fun k p1 p2 => fr2 fr_h38 (by omega)))
      · have c40 : ((nI (1))) = 0 := c40
        exact absurd c40 (show ¬ nI 1 = 0 by decide)
  · have fr_h1 := Fr.tr (Fr.rfl' [2] h) f_h1 (fun _ q => q)
    show Wn _ _ 14 _ [] h1 _
    refine wn_ld (pc' := 15) (q := 0) (kin := 2) (v := .ref (2)) rfl (fun _ _ _ => rfl) rfl rfl ?_
    refine wn_go (pc' := 17) (lv' := [(0, .ref (2)), (1, .int (nI (f0)))]) (st' := [.retAddr 5, .ref (2)]) rfl (fun _ _ _ k9 => ⟨by decide, k9⟩) ?_
    refine wn_virS (pc' := 20) rfl rfl (by decide) rfl rfl o_h1 (Nat.le_of_ble_eq_true rfl) (x_takeWordB _ _ t ct n p lr (nI (3)) (nI (f0)) hn hp ((fr2 fr_h1 (by decide)).trans o1) o1v o_h1 (show ¬ nI 3 = 0 by decide) 5 (by omega)) (fun r9 h41 e42 => ?_)
    obtain ⟨rfl, f_h41, p_h41, hp_h41, o_h41⟩ := e42
    have fr_h41 := Fr.tr fr_h1 f_h41 (fun _ q => q)
    show Wn _ _ 20 _ [] h41 _
    refine wn_ld (pc' := 21) (q := 0) (kin := 2) (v := .ref (2)) rfl (fun _ _ _ => rfl) rfl rfl ?_
    refine wn_ic (pc' := 22) (w := nI 2) rfl rfl (by decide) ?_
    refine wn_ic (pc' := 23) (w := nI 5) rfl rfl (by decide) ?_
    refine wn_virS (pc' := 26) rfl rfl (by decide) rfl rfl o_h41 (Nat.le_of_ble_eq_true rfl) (x_takeNumberB _ _ lr _ _ _ _ _ _ _ o_h41 (show ¬ nI 3 = 0 by decide) (nI (2)) (nI (5))) (fun r9 h43 e44 => ?_)
    obtain ⟨rfl, e9⟩ := e44
    rw [e9]
    show Wn _ _ 26 _ [.int (-1)] h41 _
    refine wn_st (pc' := 27) (q := 2) (kin := 0) (lv' := [(0, .ref (2)), (1, .int (nI (f0))), (2, .int (-1))]) rfl (fun _ _ _ => rfl) rfl (Nat.le_of_ble_eq_true rfl) rfl ?_
    refine wn_ld (pc' := 28) (q := 0) (kin := 2) (v := .ref (2)) rfl (fun _ _ _ => rfl) rfl rfl ?_
    refine wn_go (pc' := 30) (lv' := [(0, .ref (2)), (1, .int (nI (f0))), (2, .int (-1))]) (st' := [.retAddr 6, .ref (2)]) rfl (fun _ _ _ k9 => ⟨by decide, k9⟩) ?_
    refine wn_virS (pc' := 33) rfl rfl (by decide) rfl rfl o_h41 (Nat.le_of_ble_eq_true rfl) (x_takeWordB _ _ t ct n p_h41 lr (nI (3)) (nI (f0)) hn hp_h41 ((fr2 fr_h41 (by decide)).trans o1) o1v o_h41 (show ¬ nI 3 = 0 by decide) 6 (by omega)) (fun r9 h45 e46 => ?_)
    obtain ⟨rfl, f_h45, p_h45, hp_h45, o_h45⟩ := e46
    have fr_h45 := Fr.tr fr_h41 f_h45 (fun _ q => q)
    show Wn _ _ 33 _ [] h45 _
    refine wn_ld (pc' := 34) (q := 0) (kin := 2) (v := .ref (2)) rfl (fun _ _ _ => rfl) rfl rfl ?_
    refine wn_ic (pc' := 35) (w := nI 0) rfl rfl (by decide) ?_
    refine wn_ld (pc' := 36) (q := 2) (kin := 0) (v := .int (-1)) rfl (fun _ _ _ => rfl) rfl rfl ?_
    refine wn_ic (pc' := 37) (w := nI 1) rfl rfl (by decide) ?_
    refine wn_pu (pc' := 38) (st' := [.int ((-1) - (nI (1))), .int (nI (0)), .ref (2)]) rfl (fun _ _ _ => rfl) rfl rfl ?_
    refine wn_virS (pc' := 41) rfl rfl (by decide) rfl rfl o_h45 (Nat.le_of_ble_eq_true rfl) (x_takeNumberB _ _ lr _ _ _ _ _ _ _ o_h45 (show ¬ nI 3 = 0 by decide) (nI (0)) ((-1) - (nI (1)))) (fun r9 h47 e48 => ?_)
    obtain ⟨rfl, e9⟩ := e48
    rw [e9]
    show Wn _ _ 41 _ [.int (-1)] h45 _
    refine wn_st (pc' := 42) (q := 3) (kin := 0) (lv' := [(0, .ref (2)), (1, .int (nI (f0))), (2, .int (-1)), (3, .int (-1))]) rfl (fun _ _ _ => rfl) rfl (Nat.le_of_ble_eq_true rfl) rfl ?_
    refine wn_ld (pc' := 43) (q := 0) (kin := 2) (v := .ref (2)) rfl (fun _ _ _ => rfl) rfl rfl ?_
    refine wn_virS (pc' := 46) rfl rfl (by decide) rfl rfl o_h45 (Nat.le_of_ble_eq_true rfl) (x_takeStopB _ _ t ct n p_h45 lr (nI (3)) (nI (f0)) hn hp_h45 ((fr2 fr_h45 (by decide)).trans o1) o1v o_h45 (show ¬ nI 3 = 0 by decide)) (fun r9 h49 e50 => ?_)
    obtain ⟨rfl, f_h49, p_h49, hp_h49, o_h49⟩ := e50
    have fr_h49 := Fr.tr fr_h45 f_h49 (fun _ q => q)
    show Wn _ _ 46 _ [] h49 _
    refine wn_ld (pc' := 47) (q := 0) (kin := 2) (v := .ref (2)) rfl (fun _ _ _ => rfl) rfl rfl ?_
    refine wn_get (pc' := 50) (v := .int (nI (3))) rfl rfl o_h49 rfl ?_
    refine wn_ifc (t := 62) (f := 53) rfl rfl rfl (fun c51 => ?_) (fun c51 => ?_)
    · have c51 : ¬ ((nI (3))) = 0 := c51
      have eR : itmR t n f0 p w = .inl (3, f0) := pI_f w_h1
      refine wn_vret rfl rfl ⟨rfl, FrL.f2 (FrL.rfl' lr h) fr_h49, ?_⟩
      rw [eR]
      exact CS_l (show ¬ nI 3 = 0 by decide) hp_h49 o_h49 ((R1.s R2).kp (fun k p1 p2 => fr2 fr_h49 (by omega)))
    · have c51 : ((nI (3))) = 0 := c51
      exact absurd c51 (show ¬ nI 3 = 0 by decide)

theorem x_readRoad (d : Nat) (h : aH) (t ct : Nat → Int32) (n p lr : Nat) (w : Nat → Int32) (hn : n ≤ 1200) (hp : p ≤ n) (hlr : lr = 24 ∨ lr = 3) (hJ : WJ w) (o1 : isB h 1 1200 ct) (o1v : ∀ x, x < 1200 → ct x = t x) (o2 : isO h 2 3 (rdS t lr (nI 0) (-1) n p)) (R1 : LandR h lr w) (R2 : LawsR h (lr + 9) w) (f0 : Nat) : Sp (Rn (d + 4)) 26 [.ref (2), .int (nI (f0))] h (fun r9 h9 => r9 = none ∧ FrL lr h h9 ∧ CS t n lr h9 (rodR t n f0 p w)) := by
  obtain ⟨sz, rf, rt, rv, ag, vr, sd, tl, l0, l1, l2, l3, l4, l5, l6, l7, l8, g1, g2, g3, g4, g5⟩ := id R1
  obtain ⟨sec, it, fi, se, sg, lst, rs, rp, pj, pk, pv, k0, k1, k2, k3, k4, k5, k6, k7, k8, k9, k10, k11, k12, k13⟩ := id R2
  obtain ⟨e0, e0b⟩ := wj_0 hJ
  obtain ⟨⟨e1, e2⟩, ⟨e3, e4⟩, ⟨e5, e6⟩⟩ := Wf_n hJ.wf
  obtain ⟨⟨e7, e8⟩, ⟨e9, e10⟩⟩ := Wf_m hJ.wf
  rw [e0, e1, e3, e5] at l0
  rw [e7, e9] at k1
  have hF := tkF_le (t := t) hp
  have hA := tkA_ge (t := t) (n := n) (p := p)
  have hA2 := tkA_le (t := t) hp
  have hK := tkK_le (t := t) (n := n) (p := p)
  refine Sp_of (by decide) (Nat.le_of_ble_eq_true rfl) ?_
  show Wn _ _ 0 [(0, .ref (2)), (1, .int (nI (f0)))] [] _ _
  refine wn_ld (pc' := 1) (q := 0) (kin := 2) (v := .ref (2)) rfl (fun _ _ _ => rfl) rfl rfl ?_
  refine wn_ld (pc' := 2) (q := 0) (kin := 2) (v := .ref (2)) rfl (fun _ _ _ => rfl) rfl rfl ?_
  refine wn_get (pc' := 5) (v := .ref (lr)) rfl rfl o2 rfl ?_
  refine wn_get (pc' := 8) (v := .int (nI (nrW w))) rfl rfl l0 rfl ?_
  refine wn_bp (pc' := 10) (w := nI 40) rfl rfl (by decide) ?_
  refine wn_ld (pc' := 11) (q := 1) (kin := 0) (v := .int (nI (f0))) rfl (fun _ _ _ => rfl) rfl rfl ?_
  refine wn_virS (pc' := 14) rfl rfl (by decide) rfl rfl o2 (Nat.le_of_ble_eq_true rfl) (x_refuseBeyond _ _ t ct n p lr hn hp o1 o1v o2 (nrW w) 40 f0 (by omega) (by omega)) (fun r9 h1 e2 => ?_)
  obtain ⟨rfl, f_h1, ⟨w_h1, o_h1⟩ | ⟨w_h1, o_h1⟩⟩ := e2
  · have fr_h1 := Fr.tr (Fr.rfl' [2] h) f_h1 (fun _ q => q)
    show Wn _ _ 14 _ [] h1 _
    refine wn_ld (pc' := 15) (q := 0) (kin := 2) (v := .ref (2)) rfl (fun _ _ _ => rfl) rfl rfl ?_
    refine wn_ic (pc' := 16) (w := nI 0) rfl rfl (by decide) ?_
    refine wn_ld (pc' := 17) (q := 0) (kin := 2) (v := .ref (2)) rfl (fun _ _ _ => rfl) rfl rfl ?_
    refine wn_get (pc' := 20) (v := .ref (lr)) rfl rfl o_h1 rfl ?_
    refine wn_get (pc' := 23) (v := .int (nI (nvW w))) rfl rfl ((fr2 fr_h1 (by omega)).trans l0) rfl ?_
    refine wn_ic (pc' := 24) (w := nI 1) rfl rfl (by decide) ?_
    refine wn_pu (pc' := 25) (st' := [.int ((nI (nvW w)) - (nI (1))), .int (nI (0)), .ref (2)]) rfl (fun _ _ _ => rfl) rfl rfl ?_
    refine wn_virS (pc' := 28) rfl rfl (by decide) rfl rfl o_h1 (Nat.le_of_ble_eq_true rfl) (x_num0 _ _ t ct n p lr hn hp ((fr2 fr_h1 (by decide)).trans o1) o1v o_h1 0 (by omega) ((nI (nvW w)) - (nI (1))) (((nvW w : Nat) : Int) - 1) (sub1 (by omega)) (by omega)) (fun r9 h3 e4 => ?_)
    obtain ⟨f_h3, ⟨w_h3, rfl, o_h3⟩ | ⟨w_h3, rfl, o_h3⟩⟩ := e4
    · have fr_h3 := Fr.tr fr_h1 f_h3 (fun _ q => q)
      have := tkF_le (t := t) (p := (tkA t n p)) (tkA_le hp)
      have := tkA_ge (t := t) (n := n) (p := (tkA t n p))
      have := tkA_le (t := t) (p := (tkA t n p)) (tkA_le hp)
      have := tkK_le (t := t) (n := n) (p := (tkA t n p))
      have b1_h3 := w_h3.2.1
      have b2_h3 := w_h3.2.2
      have g_h3 := nm_gt w_h3
      show Wn _ _ 28 _ [.int (nI (tkV t n p))] h3 _
      refine wn_st (pc' := 29) (q := 2) (kin := 0) (lv' := [(0, .ref (2)), (1, .int (nI (f0))), (2, .int (nI (tkV t n p)))]) rfl (fun _ _ _ => rfl) rfl (Nat.le_of_ble_eq_true rfl) rfl ?_
      refine wn_ld (pc' := 30) (q := 0) (kin := 2) (v := .ref (2)) rfl (fun _ _ _ => rfl) rfl rfl ?_
      refine wn_get (pc' := 33) (v := .int (nI (tkF t n (tkA t n p)))) rfl rfl o_h3 rfl ?_
      refine wn_st (pc' := 34) (q := 3) (kin := 0) (lv' := [(0, .ref (2)), (1, .int (nI (f0))), (2, .int (nI (tkV t n p))), (3, .int (nI (tkF t n (tkA t n p))))]) rfl (fun _ _ _ => rfl) rfl (Nat.le_of_ble_eq_true rfl) rfl ?_
      refine wn_ld (pc' := 35) (q := 0) (kin := 2) (v := .ref (2)) rfl (fun _ _ _ => rfl) rfl rfl ?_
      refine wn_ic (pc' := 36) (w := nI 0) rfl rfl (by decide) ?_
      refine wn_ld (pc' := 37) (q := 0) (kin := 2) (v := .ref (2)) rfl (fun _ _ _ => rfl) rfl rfl ?_
      refine wn_get (pc' := 40) (v := .ref (lr)) rfl rfl o_h3 rfl ?_
      refine wn_get (pc' := 43) (v := .int (nI (nvW w))) rfl rfl ((fr2 fr_h3 (by omega)).trans l0) rfl ?_
      refine wn_ic (pc' := 44) (w := nI 1) rfl rfl (by decide) ?_
      refine wn_pu (pc' := 45) (st' := [.int ((nI (nvW w)) - (nI (1))), .int (nI (0)), .ref (2)]) rfl (fun _ _ _ => rfl) rfl rfl ?_
      refine wn_virS (pc' := 48) rfl rfl (by decide) rfl rfl o_h3 (Nat.le_of_ble_eq_true rfl) (x_num0 _ _ t ct n (tkA t n p) lr hn (tkA_le hp) ((fr2 fr_h3 (by decide)).trans o1) o1v o_h3 0 (by omega) ((nI (nvW w)) - (nI (1))) (((nvW w : Nat) : Int) - 1) (sub1 (by omega)) (by omega)) (fun r9 h5 e6 => ?_)
      obtain ⟨f_h5, ⟨w_h5, rfl, o_h5⟩ | ⟨w_h5, rfl, o_h5⟩⟩ := e6
      · have fr_h5 := Fr.tr fr_h3 f_h5 (fun _ q => q)
        have := tkF_le (t := t) (p := (tkA t n (tkA t n p))) (tkA_le (tkA_le hp))
        have := tkA_ge (t := t) (n := n) (p := (tkA t n (tkA t n p)))
        have := tkA_le (t := t) (p := (tkA t n (tkA t n p))) (tkA_le (tkA_le hp))
        have := tkK_le (t := t) (n := n) (p := (tkA t n (tkA t n p)))
        have b1_h5 := w_h5.2.1
        have b2_h5 := w_h5.2.2
        have g_h5 := nm_gt w_h5
        show Wn _ _ 48 _ [.int (nI (tkV t n (tkA t n p)))] h5 _
        refine wn_st (pc' := 50) (q := 4) (kin := 0) (lv' := [(0, .ref (2)), (1, .int (nI (f0))), (2, .int (nI (tkV t n p))), (3, .int (nI (tkF t n (tkA t n p)))), (4, .int (nI (tkV t n (tkA t n p))))]) rfl (fun _ _ _ => rfl) rfl (Nat.le_of_ble_eq_true rfl) rfl ?_
        refine wn_ld (pc' := 51) (q := 2) (kin := 0) (v := .int (nI (tkV t n p))) rfl (fun _ _ _ => rfl) rfl rfl ?_
        refine wn_ld (pc' := 53) (q := 4) (kin := 0) (v := .int (nI (tkV t n (tkA t n p)))) rfl (fun _ _ _ => rfl) rfl rfl ?_
        refine wn_icmpN (t := 62) (f := 56) rfl rfl rfl (by omega) (by omega) (fun c7 => ?_) (fun c7 => ?_)
        · have c7 : ¬ (tkV t n p) = (tkV t n (tkA t n p)) := c7
          refine wn_ld (pc' := 63) (q := 0) (kin := 2) (v := .ref (2)) rfl (fun _ _ _ => rfl) rfl rfl ?_
          refine wn_go (pc' := 65) (lv' := [(0, .ref (2)), (1, .int (nI (f0))), (2, .int (nI (tkV t n p))), (3, .int (nI (tkF t n (tkA t n p)))), (4, .int (nI (tkV t n (tkA t n p))))]) (st' := [.retAddr 3, .ref (2)]) rfl (fun _ _ _ k9 => ⟨by decide, k9⟩) ?_
          refine wn_virS (pc' := 68) rfl rfl (by decide) rfl rfl o_h5 (Nat.le_of_ble_eq_true rfl) (x_tryWord _ _ t ct n (tkA t n (tkA t n p)) lr (nI (0)) (-1) hn (tkA_le (tkA_le hp)) ((fr2 fr_h5 (by decide)).trans o1) o1v o_h5 3 (by omega)) (fun r9 h8 e9 => ?_)
          obtain ⟨rfl, f_h8, o_h8⟩ := e9
          by_cases w_h8 : isWd t n (tkA t n (tkA t n p)) 3
          · rw [wdP_t w_h8] at o_h8
            have fr_h8 := Fr.tr fr_h5 f_h8 (fun _ q => q)
            rw [← bI_t1 w_h8]
            have := tkF_le (t := t) (p := (tkA t n (tkA t n (tkA t n p)))) (tkA_le (tkA_le (tkA_le hp)))
            have := tkA_ge (t := t) (n := n) (p := (tkA t n (tkA t n (tkA t n p))))
            have := tkA_le (t := t) (p := (tkA t n (tkA t n (tkA t n p)))) (tkA_le (tkA_le (tkA_le hp)))
            have := tkK_le (t := t) (n := n) (p := (tkA t n (tkA t n (tkA t n p))))
            show Wn _ _ 68 _ [.int (nI (1))] h8 _
            refine wn_st (pc' := 70) (q := 5) (kin := 0) (lv' := [(0, .ref (2)), (1, .int (nI (f0))), (2, .int (nI (tkV t n p))), (3, .int (nI (tkF t n (tkA t n p)))), (4, .int (nI (tkV t n (tkA t n p)))), (5, .int (nI (1)))]) rfl (fun _ _ _ => rfl) rfl (Nat.le_of_ble_eq_true rfl) rfl ?_
            refine wn_ld (pc' := 71) (q := 0) (kin := 2) (v := .ref (2)) rfl (fun _ _ _ => rfl) rfl rfl ?_
            refine wn_virS (pc' := 74) rfl rfl (by decide) rfl rfl o_h8 (Nat.le_of_ble_eq_true rfl) (x_takeStop0 _ _ t ct n (tkA t n (tkA t n (tkA t n p))) lr hn (tkA_le (tkA_le (tkA_le hp))) ((fr2 fr_h8 (by decide)).trans o1) o1v o_h8) (fun r9 h10 e11 => ?_)
            obtain ⟨rfl, f_h10, ⟨w_h10, o_h10⟩ | ⟨w_h10, o_h10⟩⟩ := e11
            · have fr_h10 := Fr.tr fr_h8 f_h10 (fun _ q => q)
              have := tkF_le (t := t) (p := (tkA t n (tkA t n (tkA t n (tkA t n p))))) (tkA_le (tkA_le (tkA_le (tkA_le hp))))
              have := tkA_ge (t := t) (n := n) (p := (tkA t n (tkA t n (tkA t n (tkA t n p)))))
              have := tkA_le (t := t) (p := (tkA t n (tkA t n (tkA t n (tkA t n p))))) (tkA_le (tkA_le (tkA_le (tkA_le hp))))
              have := tkK_le (t := t) (n := n) (p := (tkA t n (tkA t n (tkA t n (tkA t n p)))))
              show Wn _ _ 74 _ [] h10 _
              refine wn_ld (pc' := 75) (q := 0) (kin := 2) (v := .ref (2)) rfl (fun _ _ _ => rfl) rfl rfl ?_
              refine wn_get (pc' := 78) (v := .int (nI (0))) rfl rfl o_h10 rfl ?_
              refine wn_ifN (t := 93) (f := 81) rfl rfl rfl (by omega) (fun c12 => ?_) (fun c12 => ?_)
              · have c12 : ¬ 0 = 0 := c12
                exact absurd c12 (by decide)
              · have c12 : 0 = 0 := c12
                refine wn_ld (pc' := 82) (q := 0) (kin := 2) (v := .ref (2)) rfl (fun _ _ _ => rfl) rfl rfl ?_
                refine wn_get (pc' := 85) (v := .ref (lr)) rfl rfl o_h10 rfl ?_
                refine wn_ld (pc' := 86) (q := 2) (kin := 0) (v := .int (nI (tkV t n p))) rfl (fun _ _ _ => rfl) rfl rfl ?_
                refine wn_ld (pc' := 88) (q := 4) (kin := 0) (v := .int (nI (tkV t n (tkA t n p)))) rfl (fun _ _ _ => rfl) rfl rfl ?_
                refine wn_ld (pc' := 90) (q := 5) (kin := 0) (v := .int (nI (1))) rfl (fun _ _ _ => rfl) rfl rfl ?_
                refine wn_virS (pc' := 93) rfl rfl (by decide) rfl rfl ((fr2 fr_h10 (by omega)).trans l0) (Nat.le_of_ble_eq_true rfl) (x_addRoad _ _ lr w hJ (tkV t n p) (tkV t n (tkA t n p)) 1 (by omega) (by omega) (by omega) (by omega) (by omega) (R1.kp (fun k p1 p2 => fr2 fr_h10 (by omega))) (R2.kp (fun k p1 p2 => fr2 fr_h10 (by omega)))) (fun r9 h13 e14 => ?_)
                obtain ⟨rfl, q_h13, L_h13, W_h13⟩ := e14
                show Wn _ _ 93 _ [] h13 _
                have eR : rodR t n f0 p w = .inr (_, _) := (pI_t w_h1).trans ((pI_t w_h3).trans ((pI_f (fun q => c7 q.2.symm)).trans ((pI_t w_h5).trans ((pI_t w_h8).trans (pI_t w_h10)))))
                refine wn_vret rfl rfl ⟨rfl, (FrL.f2 (FrL.rfl' lr h) fr_h10).q q_h13, ?_⟩
                rw [eR]
                exact CS_r ((q_h13.2 2 (by omega)).trans o_h10) L_h13 W_h13
            · have fr_h10 := Fr.tr fr_h8 f_h10 (fun _ q => q)
              show Wn _ _ 74 _ [] h10 _
              refine wn_ld (pc' := 75) (q := 0) (kin := 2) (v := .ref (2)) rfl (fun _ _ _ => rfl) rfl rfl ?_
              refine wn_get (pc' := 78) (v := .int (nI (1))) rfl rfl o_h10 rfl ?_
              refine wn_ifc (t := 93) (f := 81) rfl rfl rfl (fun c15 => ?_) (fun c15 => ?_)
              · have c15 : ¬ ((nI (1))) = 0 := c15
                have eR : rodR t n f0 p w = .inl (1, tkF t n (tkA t n (tkA t n (tkA t n p)))) := (pI_t w_h1).trans ((pI_t w_h3).trans ((pI_f (fun q => c7 q.2.symm)).trans ((pI_t w_h5).trans ((pI_t w_h8).trans (pI_f w_h10)))))
                refine wn_vret rfl rfl ⟨rfl, FrL.f2 (FrL.rfl' lr h) fr_h10, ?_⟩
                rw [eR]
                exact CS_l (show ¬ nI 1 = 0 by decide) (tkA_le (tkA_le (tkA_le hp))) o_h10 ((R1.s R2).kp (fun k p1 p2 => fr2 fr_h10 (by omega)))
              · have c15 : ((nI (1))) = 0 := c15
                exact absurd c15 (show ¬ nI 1 = 0 by decide)
          · rw [wdP_f w_h8] at o_h8
            have fr_h8 := Fr.tr fr_h5 f_h8 (fun _ q => q)
            rw [← bI_f0 w_h8]
            show Wn _ _ 68 _ [.int (nI (0))] h8 _
            refine wn_st (pc' := 70) (q := 5) (kin := 0) (lv' := [(0, .ref (2)), (1, .int (nI (f0))), (2, .int (nI (tkV t n p))), (3, .int (nI (tkF t n (tkA t n p)))), (4, .int (nI (tkV t n (tkA t n p)))), (5, .int (nI (0)))]) rfl (fun _ _ _ => rfl) rfl (Nat.le_of_ble_eq_true rfl) rfl ?_
            refine wn_ld (pc' := 71) (q := 0) (kin := 2) (v := .ref (2)) rfl (fun _ _ _ => rfl) rfl rfl ?_
            refine wn_virS (pc' := 74) rfl rfl (by decide) rfl rfl o_h8 (Nat.le_of_ble_eq_true rfl) (x_takeStop0 _ _ t ct n (tkA t n (tkA t n p)) lr hn (tkA_le (tkA_le hp)) ((fr2 fr_h8 (by decide)).trans o1) o1v o_h8) (fun r9 h16 e17 => ?_)
            obtain ⟨rfl, f_h16, ⟨w_h16, o_h16⟩ | ⟨w_h16, o_h16⟩⟩ := e17
            · have fr_h16 := Fr.tr fr_h8 f_h16 (fun _ q => q)
              have := tkF_le (t := t) (p := (tkA t n (tkA t n (tkA t n p)))) (tkA_le (tkA_le (tkA_le hp)))
              have := tkA_ge (t := t) (n := n) (p := (tkA t n (tkA t n (tkA t n p))))
              have := tkA_le (t := t) (p := (tkA t n (tkA t n (tkA t n p)))) (tkA_le (tkA_le (tkA_le hp)))
              have := tkK_le (t := t) (n := n) (p := (tkA t n (tkA t n (tkA t n p))))
              show Wn _ _ 74 _ [] h16 _
              refine wn_ld (pc' := 75) (q := 0) (kin := 2) (v := .ref (2)) rfl (fun _ _ _ => rfl) rfl rfl ?_
              refine wn_get (pc' := 78) (v := .int (nI (0))) rfl rfl o_h16 rfl ?_
              refine wn_ifN (t := 93) (f := 81) rfl rfl rfl (by omega) (fun c18 => ?_) (fun c18 => ?_)
              · have c18 : ¬ 0 = 0 := c18
                exact absurd c18 (by decide)
              · have c18 : 0 = 0 := c18
                refine wn_ld (pc' := 82) (q := 0) (kin := 2) (v := .ref (2)) rfl (fun _ _ _ => rfl) rfl rfl ?_
                refine wn_get (pc' := 85) (v := .ref (lr)) rfl rfl o_h16 rfl ?_
                refine wn_ld (pc' := 86) (q := 2) (kin := 0) (v := .int (nI (tkV t n p))) rfl (fun _ _ _ => rfl) rfl rfl ?_
                refine wn_ld (pc' := 88) (q := 4) (kin := 0) (v := .int (nI (tkV t n (tkA t n p)))) rfl (fun _ _ _ => rfl) rfl rfl ?_
                refine wn_ld (pc' := 90) (q := 5) (kin := 0) (v := .int (nI (0))) rfl (fun _ _ _ => rfl) rfl rfl ?_
                refine wn_virS (pc' := 93) rfl rfl (by decide) rfl rfl ((fr2 fr_h16 (by omega)).trans l0) (Nat.le_of_ble_eq_true rfl) (x_addRoad _ _ lr w hJ (tkV t n p) (tkV t n (tkA t n p)) 0 (by omega) (by omega) (by omega) (by omega) (by omega) (R1.kp (fun k p1 p2 => fr2 fr_h16 (by omega))) (R2.kp (fun k p1 p2 => fr2 fr_h16 (by omega)))) (fun r9 h19 e20 => ?_)
                obtain ⟨rfl, q_h19, L_h19, W_h19⟩ := e20
                show Wn _ _ 93 _ [] h19 _
                have eR : rodR t n f0 p w = .inr (_, _) := (pI_t w_h1).trans ((pI_t w_h3).trans ((pI_f (fun q => c7 q.2.symm)).trans ((pI_t w_h5).trans ((pI_f w_h8).trans (pI_t w_h16)))))
                refine wn_vret rfl rfl ⟨rfl, (FrL.f2 (FrL.rfl' lr h) fr_h16).q q_h19, ?_⟩
                rw [eR]
                exact CS_r ((q_h19.2 2 (by omega)).trans o_h16) L_h19 W_h19
            · have fr_h16 := Fr.tr fr_h8 f_h16 (fun _ q => q)
              show Wn _ _ 74 _ [] h16 _
              refine wn_ld (pc' := 75) (q := 0) (kin := 2) (v := .ref (2)) rfl (fun _ _ _ => rfl) rfl rfl ?_
              refine wn_get (pc' := 78) (v := .int (nI (1))) rfl rfl o_h16 rfl ?_
              refine wn_ifc (t := 93) (f := 81) rfl rfl rfl (fun c21 => ?_) (fun c21 => ?_)
              · have c21 : ¬ ((nI (1))) = 0 := c21
                have eR : rodR t n f0 p w = .inl (1, tkF t n (tkA t n (tkA t n p))) := (pI_t w_h1).trans ((pI_t w_h3).trans ((pI_f (fun q => c7 q.2.symm)).trans ((pI_t w_h5).trans ((pI_f w_h8).trans (pI_f w_h16)))))
                refine wn_vret rfl rfl ⟨rfl, FrL.f2 (FrL.rfl' lr h) fr_h16, ?_⟩
                rw [eR]
                exact CS_l (show ¬ nI 1 = 0 by decide) (tkA_le (tkA_le hp)) o_h16 ((R1.s R2).kp (fun k p1 p2 => fr2 fr_h16 (by omega)))
              · have c21 : ((nI (1))) = 0 := c21
                exact absurd c21 (show ¬ nI 1 = 0 by decide)
        · have c7 : (tkV t n p) = (tkV t n (tkA t n p)) := c7
          refine wn_ld (pc' := 57) (q := 0) (kin := 2) (v := .ref (2)) rfl (fun _ _ _ => rfl) rfl rfl ?_
          refine wn_ic (pc' := 58) (w := nI 2) rfl rfl (by decide) ?_
          refine wn_ld (pc' := 59) (q := 3) (kin := 0) (v := .int (nI (tkF t n (tkA t n p)))) rfl (fun _ _ _ => rfl) rfl rfl ?_
          refine wn_virS (pc' := 62) rfl rfl (by decide) rfl rfl o_h5 (Nat.le_of_ble_eq_true rfl) (x_refuse0 _ _ lr n _ _ _ _ _ o_h5 (nI (2)) (nI (tkF t n (tkA t n p)))) (fun r9 h22 e23 => ?_)
          obtain ⟨rfl, f_h22, o_h22⟩ := e23
          have fr_h22 := Fr.tr fr_h5 f_h22 (fun _ q => q)
          show Wn _ _ 62 _ [] h22 _
          refine wn_ld (pc' := 63) (q := 0) (kin := 2) (v := .ref (2)) rfl (fun _ _ _ => rfl) rfl rfl ?_
          refine wn_go (pc' := 65) (lv' := [(0, .ref (2)), (1, .int (nI (f0))), (2, .int (nI (tkV t n p))), (3, .int (nI (tkF t n (tkA t n p)))), (4, .int (nI (tkV t n (tkA t n p))))]) (st' := [.retAddr 3, .ref (2)]) rfl (fun _ _ _ k9 => ⟨by decide, k9⟩) ?_
          refine wn_virS (pc' := 68) rfl rfl (by decide) rfl rfl o_h22 (Nat.le_of_ble_eq_true rfl) (x_tryWord _ _ t ct n (tkA t n (tkA t n p)) lr (nI (2)) (nI (tkF t n (tkA t n p))) hn (tkA_le (tkA_le hp)) ((fr2 fr_h22 (by decide)).trans o1) o1v o_h22 3 (by omega)) (fun r9 h24 e25 => ?_)
          obtain ⟨rfl, f_h24, o_h24⟩ := e25
          have fr_h24 := Fr.tr fr_h22 f_h24 (fun _ q => q)
          show Wn _ _ 68 _ [.int (bI (isWd t n (tkA t n (tkA t n p)) 3))] h24 _
          refine wn_st (pc' := 70) (q := 5) (kin := 0) (lv' := [(0, .ref (2)), (1, .int (nI (f0))), (2, .int (nI (tkV t n p))), (3, .int (nI (tkF t n (tkA t n p)))), (4, .int (nI (tkV t n (tkA t n p)))), (5, .int (bI (isWd t n (tkA t n (tkA t n p)) 3)))]) rfl (fun _ _ _ => rfl) rfl (Nat.le_of_ble_eq_true rfl) rfl ?_
          refine wn_ld (pc' := 71) (q := 0) (kin := 2) (v := .ref (2)) rfl (fun _ _ _ => rfl) rfl rfl ?_
          refine wn_virS (pc' := 74) rfl rfl (by decide) rfl rfl o_h24 (Nat.le_of_ble_eq_true rfl) (x_takeStopB _ _ t ct n (wdP t n (tkA t n (tkA t n p)) 3) lr (nI (2)) (nI (tkF t n (tkA t n p))) hn (wdP_le (tkA_le (tkA_le hp))) ((fr2 fr_h24 (by decide)).trans o1) o1v o_h24 (show ¬ nI 2 = 0 by decide)) (fun r9 h26 e27 => ?_)
          obtain ⟨rfl, f_h26, p_h26, hp_h26, o_h26⟩ := e27
          have fr_h26 := Fr.tr fr_h24 f_h26 (fun _ q => q)
          show Wn _ _ 74 _ [] h26 _
          refine wn_ld (pc' := 75) (q := 0) (kin := 2) (v := .ref (2)) rfl (fun _ _ _ => rfl) rfl rfl ?_
          refine wn_get (pc' := 78) (v := .int (nI (2))) rfl rfl o_h26 rfl ?_
          refine wn_ifN (t := 93) (f := 81) rfl rfl rfl (by omega) (fun c28 => ?_) (fun c28 => ?_)
          · have c28 : ¬ 2 = 0 := c28
            have eR : rodR t n f0 p w = .inl (2, tkF t n (tkA t n p)) := (pI_t w_h1).trans ((pI_t w_h3).trans (pI_t ⟨w_h5.1, c7.symm⟩))
            refine wn_vret rfl rfl ⟨rfl, FrL.f2 (FrL.rfl' lr h) fr_h26, ?_⟩
            rw [eR]
            exact CS_l (show ¬ nI 2 = 0 by decide) hp_h26 o_h26 ((R1.s R2).kp (fun k p1 p2 => fr2 fr_h26 (by omega)))
          · have c28 : 2 = 0 := c28
            exact absurd c28 (by decide)
      · have fr_h5 := Fr.tr fr_h3 f_h5 (fun _ q => q)
        show Wn _ _ 48 _ [.int (-1)] h5 _
        refine wn_st (pc' := 50) (q := 4) (kin := 0) (lv' := [(0, .ref (2)), (1, .int (nI (f0))), (2, .int (nI (tkV t n p))), (3, .int (nI (tkF t n (tkA t n p)))), (4, .int (-1))]) rfl (fun _ _ _ => rfl) rfl (Nat.le_of_ble_eq_true rfl) rfl ?_
        refine wn_ld (pc' := 51) (q := 2) (kin := 0) (v := .int (nI (tkV t n p))) rfl (fun _ _ _ => rfl) rfl rfl ?_
        refine wn_ld (pc' := 53) (q := 4) (kin := 0) (v := .int (-1)) rfl (fun _ _ _ => rfl) rfl rfl ?_
        refine wn_icmp (t := 62) (f := 56) rfl rfl rfl (fun c29 => ?_) (fun c29 => ?_)
        · have c29 : ¬ ((nI (tkV t n p))) = ((-1)) := c29
          refine wn_ld (pc' := 63) (q := 0) (kin := 2) (v := .ref (2)) rfl (fun _ _ _ => rfl) rfl rfl ?_
          refine wn_go (pc' := 65) (lv' := [(0, .ref (2)), (1, .int (nI (f0))), (2, .int (nI (tkV t n p))), (3, .int (nI (tkF t n (tkA t n p)))), (4, .int (-1))]) (st' := [.retAddr 3, .ref (2)]) rfl (fun _ _ _ k9 => ⟨by decide, k9⟩) ?_
          refine wn_virS (pc' := 68) rfl rfl (by decide) rfl rfl o_h5 (Nat.le_of_ble_eq_true rfl) (x_tryWord _ _ t ct n (tkA t n p) lr (nI (nmF t n (tkA t n p))) (nI (tkF t n (tkA t n p))) hn (tkA_le hp) ((fr2 fr_h5 (by decide)).trans o1) o1v o_h5 3 (by omega)) (fun r9 h30 e31 => ?_)
          obtain ⟨rfl, f_h30, o_h30⟩ := e31
          have fr_h30 := Fr.tr fr_h5 f_h30 (fun _ q => q)
          show Wn _ _ 68 _ [.int (bI (isWd t n (tkA t n p) 3))] h30 _
          refine wn_st (pc' := 70) (q := 5) (kin := 0) (lv' := [(0, .ref (2)), (1, .int (nI (f0))), (2, .int (nI (tkV t n p))), (3, .int (nI (tkF t n (tkA t n p)))), (4, .int (-1)), (5, .int (bI (isWd t n (tkA t n p) 3)))]) rfl (fun _ _ _ => rfl) rfl (Nat.le_of_ble_eq_true rfl) rfl ?_
          refine wn_ld (pc' := 71) (q := 0) (kin := 2) (v := .ref (2)) rfl (fun _ _ _ => rfl) rfl rfl ?_
          refine wn_virS (pc' := 74) rfl rfl (by decide) rfl rfl o_h30 (Nat.le_of_ble_eq_true rfl) (x_takeStopB _ _ t ct n (wdP t n (tkA t n p) 3) lr (nI (nmF t n (tkA t n p))) (nI (tkF t n (tkA t n p))) hn (wdP_le (tkA_le hp)) ((fr2 fr_h30 (by decide)).trans o1) o1v o_h30 nmF_nz) (fun r9 h32 e33 => ?_)
          obtain ⟨rfl, f_h32, p_h32, hp_h32, o_h32⟩ := e33
          have fr_h32 := Fr.tr fr_h30 f_h32 (fun _ q => q)
          show Wn _ _ 74 _ [] h32 _
          refine wn_ld (pc' := 75) (q := 0) (kin := 2) (v := .ref (2)) rfl (fun _ _ _ => rfl) rfl rfl ?_
          refine wn_get (pc' := 78) (v := .int (nI (nmF t n (tkA t n p)))) rfl rfl o_h32 rfl ?_
          refine wn_ifc (t := 93) (f := 81) rfl rfl rfl (fun c34 => ?_) (fun c34 => ?_)
          · have c34 : ¬ ((nI (nmF t n (tkA t n p)))) = 0 := c34
            have eR : rodR t n f0 p w = .inl (nmF t n (tkA t n p), tkF t n (tkA t n p)) := (pI_t w_h1).trans ((pI_t w_h3).trans ((pI_f (fun q => w_h5 ⟨q.1, Nat.zero_le _, by have q2 := q.2; omega⟩)).trans (pI_f w_h5)))
            refine wn_vret rfl rfl ⟨rfl, FrL.f2 (FrL.rfl' lr h) fr_h32, ?_⟩
            rw [eR]
            exact CS_l nmF_nz hp_h32 o_h32 ((R1.s R2).kp (fun k p1 p2 => fr2 fr_h32 (by omega)))
          · have c34 : ((nI (nmF t n (tkA t n p)))) = 0 := c34
            exact absurd c34 nmF_nz
        · have c29 : ((nI (tkV t n p))) = ((-1)) := c29
          exact absurd c29 (nI_m1 (by omega))
    · have fr_h3 := Fr.tr fr_h1 f_h3 (fun _ q => q)
      show Wn _ _ 28 _ [.int (-1)] h3 _
      refine wn_st (pc' := 29) (q := 2) (kin := 0) (lv' := [(0, .ref (2)), (1, .int (nI (f0))), (2, .int (-1))]) rfl (fun _ _ _ => rfl) rfl (Nat.le_of_ble_eq_true rfl) rfl ?_
      refine wn_ld (pc' := 30) (q := 0) (kin := 2) (v := .ref (2)) rfl (fun _ _ _ => rfl) rfl rfl ?_
      refine wn_get (pc' := 33) (v := .int (nI (tkF t n p))) rfl rfl o_h3 rfl ?_
      refine wn_st (pc' := 34) (q := 3) (kin := 0) (lv' := [(0, .ref (2)), (1, .int (nI (f0))), (2, .int (-1)), (3, .int (nI (tkF t n p)))]) rfl (fun _ _ _ => rfl) rfl (Nat.le_of_ble_eq_true rfl) rfl ?_
      refine wn_ld (pc' := 35) (q := 0) (kin := 2) (v := .ref (2)) rfl (fun _ _ _ => rfl) rfl rfl ?_
      refine wn_ic (pc' := 36) (w := nI 0) rfl rfl (by decide) ?_
      refine wn_ld (pc' := 37) (q := 0) (kin := 2) (v := .ref (2)) rfl (fun _ _ _ => rfl) rfl rfl ?_
      refine wn_get (pc' := 40) (v := .ref (lr)) rfl rfl o_h3 rfl ?_
      refine wn_get (pc' := 43) (v := .int (nI (nvW w))) rfl rfl ((fr2 fr_h3 (by omega)).trans l0) rfl ?_
      refine wn_ic (pc' := 44) (w := nI 1) rfl rfl (by decide) ?_
      refine wn_pu (pc' := 45) (st' := [.int ((nI (nvW w)) - (nI (1))), .int (nI (0)), .ref (2)]) rfl (fun _ _ _ => rfl) rfl rfl ?_
      refine wn_virS (pc' := 48) rfl rfl (by decide) rfl rfl o_h3 (Nat.le_of_ble_eq_true rfl) (x_takeNumberB _ _ lr _ _ _ _ _ _ _ o_h3 nmF_nz (nI (0)) ((nI (nvW w)) - (nI (1)))) (fun r9 h35 e36 => ?_)
      obtain ⟨rfl, e9⟩ := e36
      rw [e9]
      show Wn _ _ 48 _ [.int (-1)] h3 _
      refine wn_st (pc' := 50) (q := 4) (kin := 0) (lv' := [(0, .ref (2)), (1, .int (nI (f0))), (2, .int (-1)), (3, .int (nI (tkF t n p))), (4, .int (-1))]) rfl (fun _ _ _ => rfl) rfl (Nat.le_of_ble_eq_true rfl) rfl ?_
      refine wn_ld (pc' := 51) (q := 2) (kin := 0) (v := .int (-1)) rfl (fun _ _ _ => rfl) rfl rfl ?_
      refine wn_ld (pc' := 53) (q := 4) (kin := 0) (v := .int (-1)) rfl (fun _ _ _ => rfl) rfl rfl ?_
      refine wn_icmp (t := 62) (f := 56) rfl rfl rfl (fun c37 => ?_) (fun c37 => ?_)
      · have c37 : ¬ ((-1) : Int32) = ((-1)) := c37
        exact absurd c37 (by decide)
      · have c37 : ((-1) : Int32) = ((-1)) := c37
        refine wn_ld (pc' := 57) (q := 0) (kin := 2) (v := .ref (2)) rfl (fun _ _ _ => rfl) rfl rfl ?_
        refine wn_ic (pc' := 58) (w := nI 2) rfl rfl (by decide) ?_
        refine wn_ld (pc' := 59) (q := 3) (kin := 0) (v := .int (nI (tkF t n p))) rfl (fun _ _ _ => rfl) rfl rfl ?_
        refine wn_virS (pc' := 62) rfl rfl (by decide) rfl rfl o_h3 (Nat.le_of_ble_eq_true rfl) (x_refuseB _ _ lr n _ _ _ _ _ _ o_h3 (nI (2)) (nI (tkF t n p)) nmF_nz) (fun r9 h38 e39 => ?_)
        obtain ⟨rfl, e9⟩ := e39
        rw [e9]
        show Wn _ _ 62 _ [] h3 _
        refine wn_ld (pc' := 63) (q := 0) (kin := 2) (v := .ref (2)) rfl (fun _ _ _ => rfl) rfl rfl ?_
        refine wn_go (pc' := 65) (lv' := [(0, .ref (2)), (1, .int (nI (f0))), (2, .int (-1)), (3, .int (nI (tkF t n p))), (4, .int (-1))]) (st' := [.retAddr 3, .ref (2)]) rfl (fun _ _ _ k9 => ⟨by decide, k9⟩) ?_
        refine wn_virS (pc' := 68) rfl rfl (by decide) rfl rfl o_h3 (Nat.le_of_ble_eq_true rfl) (x_tryWord _ _ t ct n p lr (nI (nmF t n p)) (nI (tkF t n p)) hn hp ((fr2 fr_h3 (by decide)).trans o1) o1v o_h3 3 (by omega)) (fun r9 h40 e41 => ?_)
        obtain ⟨rfl, f_h40, o_h40⟩ := e41
        have fr_h40 := Fr.tr fr_h3 f_h40 (fun _ q => q)
        show Wn _ _ 68 _ [.int (bI (isWd t n p 3))] h40 _
        refine wn_st (pc' := 70) (q := 5) (kin := 0) (lv' := [(0, .ref (2)), (1, .int (nI (f0))), (2, .int (-1)), (3, .int (nI (tkF t n p))), (4, .int (-1)), (5, .int (bI (isWd t n p 3)))]) rfl (fun _ _ _ => rfl) rfl (Nat.le_of_ble_eq_true rfl) rfl ?_
        refine wn_ld (pc' := 71) (q := 0) (kin := 2) (v := .ref (2)) rfl (fun _ _ _ => rfl) rfl rfl ?_
        refine wn_virS (pc' := 74) rfl rfl (by decide) rfl rfl o_h40 (Nat.le_of_ble_eq_true rfl) (x_takeStopB _ _ t ct n (wdP t n p 3) lr (nI (nmF t n p)) (nI (tkF t n p)) hn (wdP_le hp) ((fr2 fr_h40 (by decide)).trans o1) o1v o_h40 nmF_nz) (fun r9 h42 e43 => ?_)
        obtain ⟨rfl, f_h42, p_h42, hp_h42, o_h42⟩ := e43
        have fr_h42 := Fr.tr fr_h40 f_h42 (fun _ q => q)
        show Wn _ _ 74 _ [] h42 _
        refine wn_ld (pc' := 75) (q := 0) (kin := 2) (v := .ref (2)) rfl (fun _ _ _ => rfl) rfl rfl ?_
        refine wn_get (pc' := 78) (v := .int (nI (nmF t n p))) rfl rfl o_h42 rfl ?_
        refine wn_ifc (t := 93) (f := 81) rfl rfl rfl (fun c44 => ?_) (fun c44 => ?_)
        · have c44 : ¬ ((nI (nmF t n p))) = 0 := c44
          have eR : rodR t n f0 p w = .inl (nmF t n p, tkF t n p) := (pI_t w_h1).trans (pI_f w_h3)
          refine wn_vret rfl rfl ⟨rfl, FrL.f2 (FrL.rfl' lr h) fr_h42, ?_⟩
          rw [eR]
          exact CS_l nmF_nz hp_h42 o_h42 ((R1.s R2).kp (fun k p1 p2 => fr2 fr_h42 (by omega)))
        · have c44 : ((nI (nmF t n p))) = 0 := c44
          exact absurd c44 nmF_nz
  · have fr_h1 := Fr.tr (Fr.rfl' [2] h) f_h1 (fun _ q => q)
    show Wn _ _ 14 _ [] h1 _
    refine wn_ld (pc' := 15) (q := 0) (kin := 2) (v := .ref (2)) rfl (fun _ _ _ => rfl) rfl rfl ?_
    refine wn_ic (pc' := 16) (w := nI 0) rfl rfl (by decide) ?_
    refine wn_ld (pc' := 17) (q := 0) (kin := 2) (v := .ref (2)) rfl (fun _ _ _ => rfl) rfl rfl ?_
    refine wn_get (pc' := 20) (v := .ref (lr)) rfl rfl o_h1 rfl ?_
    refine wn_get (pc' := 23) (v := .int (nI (nvW w))) rfl rfl ((fr2 fr_h1 (by omega)).trans l0) rfl ?_
    refine wn_ic (pc' := 24) (w := nI 1) rfl rfl (by decide) ?_
    refine wn_pu (pc' := 25) (st' := [.int ((nI (nvW w)) - (nI (1))), .int (nI (0)), .ref (2)]) rfl (fun _ _ _ => rfl) rfl rfl ?_
    refine wn_virS (pc' := 28) rfl rfl (by decide) rfl rfl o_h1 (Nat.le_of_ble_eq_true rfl) (x_takeNumberB _ _ lr _ _ _ _ _ _ _ o_h1 (show ¬ nI 3 = 0 by decide) (nI (0)) ((nI (nvW w)) - (nI (1)))) (fun r9 h45 e46 => ?_)
    obtain ⟨rfl, e9⟩ := e46
    rw [e9]
    show Wn _ _ 28 _ [.int (-1)] h1 _
    refine wn_st (pc' := 29) (q := 2) (kin := 0) (lv' := [(0, .ref (2)), (1, .int (nI (f0))), (2, .int (-1))]) rfl (fun _ _ _ => rfl) rfl (Nat.le_of_ble_eq_true rfl) rfl ?_
    refine wn_ld (pc' := 30) (q := 0) (kin := 2) (v := .ref (2)) rfl (fun _ _ _ => rfl) rfl rfl ?_
    refine wn_get (pc' := 33) (v := .int (nI (tkF t n p))) rfl rfl o_h1 rfl ?_
    refine wn_st (pc' := 34) (q := 3) (kin := 0) (lv' := [(0, .ref (2)), (1, .int (nI (f0))), (2, .int (-1)), (3, .int (nI (tkF t n p)))]) rfl (fun _ _ _ => rfl) rfl (Nat.le_of_ble_eq_true rfl) rfl ?_
    refine wn_ld (pc' := 35) (q := 0) (kin := 2) (v := .ref (2)) rfl (fun _ _ _ => rfl) rfl rfl ?_
    refine wn_ic (pc' := 36) (w := nI 0) rfl rfl (by decide) ?_
    refine wn_ld (pc' := 37) (q := 0) (kin := 2) (v := .ref (2)) rfl (fun _ _ _ => rfl) rfl rfl ?_
    refine wn_get (pc' := 40) (v := .ref (lr)) rfl rfl o_h1 rfl ?_
    refine wn_get (pc' := 43) (v := .int (nI (nvW w))) rfl rfl ((fr2 fr_h1 (by omega)).trans l0) rfl ?_
    refine wn_ic (pc' := 44) (w := nI 1) rfl rfl (by decide) ?_
    refine wn_pu (pc' := 45) (st' := [.int ((nI (nvW w)) - (nI (1))), .int (nI (0)), .ref (2)]) rfl (fun _ _ _ => rfl) rfl rfl ?_
    refine wn_virS (pc' := 48) rfl rfl (by decide) rfl rfl o_h1 (Nat.le_of_ble_eq_true rfl) (x_takeNumberB _ _ lr _ _ _ _ _ _ _ o_h1 (show ¬ nI 3 = 0 by decide) (nI (0)) ((nI (nvW w)) - (nI (1)))) (fun r9 h47 e48 => ?_)
    obtain ⟨rfl, e9⟩ := e48
    rw [e9]
    show Wn _ _ 48 _ [.int (-1)] h1 _
    refine wn_st (pc' := 50) (q := 4) (kin := 0) (lv' := [(0, .ref (2)), (1, .int (nI (f0))), (2, .int (-1)), (3, .int (nI (tkF t n p))), (4, .int (-1))]) rfl (fun _ _ _ => rfl) rfl (Nat.le_of_ble_eq_true rfl) rfl ?_
    refine wn_ld (pc' := 51) (q := 2) (kin := 0) (v := .int (-1)) rfl (fun _ _ _ => rfl) rfl rfl ?_
    refine wn_ld (pc' := 53) (q := 4) (kin := 0) (v := .int (-1)) rfl (fun _ _ _ => rfl) rfl rfl ?_
    refine wn_icmp (t := 62) (f := 56) rfl rfl rfl (fun c49 => ?_) (fun c49 => ?_)
    · have c49 : ¬ ((-1) : Int32) = ((-1)) := c49
      exact absurd c49 (by decide)
    · have c49 : ((-1) : Int32) = ((-1)) := c49
      refine wn_ld (pc' := 57) (q := 0) (kin := 2) (v := .ref (2)) rfl (fun _ _ _ => rfl) rfl rfl ?_
      refine wn_ic (pc' := 58) (w := nI 2) rfl rfl (by decide) ?_
      refine wn_ld (pc' := 59) (q := 3) (kin := 0) (v := .int (nI (tkF t n p))) rfl (fun _ _ _ => rfl) rfl rfl ?_
      refine wn_virS (pc' := 62) rfl rfl (by decide) rfl rfl o_h1 (Nat.le_of_ble_eq_true rfl) (x_refuseB _ _ lr n _ _ _ _ _ _ o_h1 (nI (2)) (nI (tkF t n p)) (show ¬ nI 3 = 0 by decide)) (fun r9 h50 e51 => ?_)
      obtain ⟨rfl, e9⟩ := e51
      rw [e9]
      show Wn _ _ 62 _ [] h1 _
      refine wn_ld (pc' := 63) (q := 0) (kin := 2) (v := .ref (2)) rfl (fun _ _ _ => rfl) rfl rfl ?_
      refine wn_go (pc' := 65) (lv' := [(0, .ref (2)), (1, .int (nI (f0))), (2, .int (-1)), (3, .int (nI (tkF t n p))), (4, .int (-1))]) (st' := [.retAddr 3, .ref (2)]) rfl (fun _ _ _ k9 => ⟨by decide, k9⟩) ?_
      refine wn_virS (pc' := 68) rfl rfl (by decide) rfl rfl o_h1 (Nat.le_of_ble_eq_true rfl) (x_tryWord _ _ t ct n p lr (nI (3)) (nI (f0)) hn hp ((fr2 fr_h1 (by decide)).trans o1) o1v o_h1 3 (by omega)) (fun r9 h52 e53 => ?_)
      obtain ⟨rfl, f_h52, o_h52⟩ := e53
      have fr_h52 := Fr.tr fr_h1 f_h52 (fun _ q => q)
      show Wn _ _ 68 _ [.int (bI (isWd t n p 3))] h52 _
      refine wn_st (pc' := 70) (q := 5) (kin := 0) (lv' := [(0, .ref (2)), (1, .int (nI (f0))), (2, .int (-1)), (3, .int (nI (tkF t n p))), (4, .int (-1)), (5, .int (bI (isWd t n p 3)))]) rfl (fun _ _ _ => rfl) rfl (Nat.le_of_ble_eq_true rfl) rfl ?_
      refine wn_ld (pc' := 71) (q := 0) (kin := 2) (v := .ref (2)) rfl (fun _ _ _ => rfl) rfl rfl ?_
      refine wn_virS (pc' := 74) rfl rfl (by decide) rfl rfl o_h52 (Nat.le_of_ble_eq_true rfl) (x_takeStopB _ _ t ct n (wdP t n p 3) lr (nI (3)) (nI (f0)) hn (wdP_le hp) ((fr2 fr_h52 (by decide)).trans o1) o1v o_h52 (show ¬ nI 3 = 0 by decide)) (fun r9 h54 e55 => ?_)
      obtain ⟨rfl, f_h54, p_h54, hp_h54, o_h54⟩ := e55
      have fr_h54 := Fr.tr fr_h52 f_h54 (fun _ q => q)
      show Wn _ _ 74 _ [] h54 _
      refine wn_ld (pc' := 75) (q := 0) (kin := 2) (v := .ref (2)) rfl (fun _ _ _ => rfl) rfl rfl ?_
      refine wn_get (pc' := 78) (v := .int (nI (3))) rfl rfl o_h54 rfl ?_
      refine wn_ifc (t := 93) (f := 81) rfl rfl rfl (fun c56 => ?_) (fun c56 => ?_)
      · have c56 : ¬ ((nI (3))) = 0 := c56
        have eR : rodR t n f0 p w = .inl (3, f0) := pI_f w_h1
        refine wn_vret rfl rfl ⟨rfl, FrL.f2 (FrL.rfl' lr h) fr_h54, ?_⟩
        rw [eR]
        exact CS_l (show ¬ nI 3 = 0 by decide) hp_h54 o_h54 ((R1.s R2).kp (fun k p1 p2 => fr2 fr_h54 (by omega)))
      · have c56 : ((nI (3))) = 0 := c56
        exact absurd c56 (show ¬ nI 3 = 0 by decide)

theorem x_readSaying (d : Nat) (h : aH) (t ct : Nat → Int32) (n p lr : Nat) (w : Nat → Int32) (hn : n ≤ 1200) (hp : p ≤ n) (hlr : lr = 24 ∨ lr = 3) (hJ : WJ w) (o1 : isB h 1 1200 ct) (o1v : ∀ x, x < 1200 → ct x = t x) (o2 : isO h 2 3 (rdS t lr (nI 0) (-1) n p)) (R1 : LandR h lr w) (R2 : LawsR h (lr + 9) w) : Sp (Rn (d + 4)) 28 [.ref (2)] h (fun r9 h9 => r9 = none ∧ FrL lr h h9 ∧ CS t n lr h9 (sayR t n p w)) := by
  obtain ⟨sz, rf, rt, rv, ag, vr, sd, tl, l0, l1, l2, l3, l4, l5, l6, l7, l8, g1, g2, g3, g4, g5⟩ := id R1
  obtain ⟨sec, it, fi, se, sg, lst, rs, rp, pj, pk, pv, k0, k1, k2, k3, k4, k5, k6, k7, k8, k9, k10, k11, k12, k13⟩ := id R2
  obtain ⟨e0, e0b⟩ := wj_0 hJ
  obtain ⟨⟨e1, e2⟩, ⟨e3, e4⟩, ⟨e5, e6⟩⟩ := Wf_n hJ.wf
  obtain ⟨⟨e7, e8⟩, ⟨e9, e10⟩⟩ := Wf_m hJ.wf
  rw [e0, e1, e3, e5] at l0
  rw [e7, e9] at k1
  have hF := tkF_le (t := t) hp
  have hA := tkA_ge (t := t) (n := n) (p := p)
  have hA2 := tkA_le (t := t) hp
  have hK := tkK_le (t := t) (n := n) (p := p)
  refine Sp_of (by decide) (Nat.le_of_ble_eq_true rfl) ?_
  show Wn _ _ 0 [(0, .ref (2))] [] _ _
  refine wn_ld (pc' := 1) (q := 0) (kin := 2) (v := .ref (2)) rfl (fun _ _ _ => rfl) rfl rfl ?_
  refine wn_ic (pc' := 2) (w := nI 0) rfl rfl (by decide) ?_
  refine wn_ld (pc' := 3) (q := 0) (kin := 2) (v := .ref (2)) rfl (fun _ _ _ => rfl) rfl rfl ?_
  refine wn_get (pc' := 6) (v := .ref (lr)) rfl rfl o2 rfl ?_
  refine wn_get (pc' := 9) (v := .int (nI (nvW w))) rfl rfl l0 rfl ?_
  refine wn_ic (pc' := 10) (w := nI 1) rfl rfl (by decide) ?_
  refine wn_pu (pc' := 11) (st' := [.int ((nI (nvW w)) - (nI (1))), .int (nI (0)), .ref (2)]) rfl (fun _ _ _ => rfl) rfl rfl ?_
  refine wn_virS (pc' := 14) rfl rfl (by decide) rfl rfl o2 (Nat.le_of_ble_eq_true rfl) (x_num0 _ _ t ct n p lr hn hp o1 o1v o2 0 (by omega) ((nI (nvW w)) - (nI (1))) (((nvW w : Nat) : Int) - 1) (sub1 (by omega)) (by omega)) (fun r9 h1 e2 => ?_)
  obtain ⟨f_h1, ⟨w_h1, rfl, o_h1⟩ | ⟨w_h1, rfl, o_h1⟩⟩ := e2
  · have fr_h1 := Fr.tr (Fr.rfl' [2] h) f_h1 (fun _ q => q)
    have := tkF_le (t := t) (p := (tkA t n p)) (tkA_le hp)
    have := tkA_ge (t := t) (n := n) (p := (tkA t n p))
    have := tkA_le (t := t) (p := (tkA t n p)) (tkA_le hp)
    have := tkK_le (t := t) (n := n) (p := (tkA t n p))
    have b1_h1 := w_h1.2.1
    have b2_h1 := w_h1.2.2
    have g_h1 := nm_gt w_h1
    show Wn _ _ 14 _ [.int (nI (tkV t n p))] h1 _
    refine wn_st (pc' := 15) (q := 1) (kin := 0) (lv' := [(0, .ref (2)), (1, .int (nI (tkV t n p)))]) rfl (fun _ _ _ => rfl) rfl (Nat.le_of_ble_eq_true rfl) rfl ?_
    refine wn_ld (pc' := 16) (q := 0) (kin := 2) (v := .ref (2)) rfl (fun _ _ _ => rfl) rfl rfl ?_
    refine wn_get (pc' := 19) (v := .int (nI (tkF t n (tkA t n p)))) rfl rfl o_h1 rfl ?_
    refine wn_st (pc' := 20) (q := 2) (kin := 0) (lv' := [(0, .ref (2)), (1, .int (nI (tkV t n p))), (2, .int (nI (tkF t n (tkA t n p))))]) rfl (fun _ _ _ => rfl) rfl (Nat.le_of_ble_eq_true rfl) rfl ?_
    refine wn_ld (pc' := 21) (q := 0) (kin := 2) (v := .ref (2)) rfl (fun _ _ _ => rfl) rfl rfl ?_
    refine wn_ic (pc' := 22) (w := nI 0) rfl rfl (by decide) ?_
    refine wn_ld (pc' := 23) (q := 0) (kin := 2) (v := .ref (2)) rfl (fun _ _ _ => rfl) rfl rfl ?_
    refine wn_get (pc' := 26) (v := .ref (lr)) rfl rfl o_h1 rfl ?_
    refine wn_get (pc' := 29) (v := .int (nI (ntW w))) rfl rfl ((fr2 fr_h1 (by omega)).trans l0) rfl ?_
    refine wn_ic (pc' := 30) (w := nI 1) rfl rfl (by decide) ?_
    refine wn_pu (pc' := 31) (st' := [.int ((nI (ntW w)) - (nI (1))), .int (nI (0)), .ref (2)]) rfl (fun _ _ _ => rfl) rfl rfl ?_
    refine wn_virS (pc' := 34) rfl rfl (by decide) rfl rfl o_h1 (Nat.le_of_ble_eq_true rfl) (x_num0 _ _ t ct n (tkA t n p) lr hn (tkA_le hp) ((fr2 fr_h1 (by decide)).trans o1) o1v o_h1 0 (by omega) ((nI (ntW w)) - (nI (1))) (((ntW w : Nat) : Int) - 1) (sub1 (by omega)) (by omega)) (fun r9 h3 e4 => ?_)
    obtain ⟨f_h3, ⟨w_h3, rfl, o_h3⟩ | ⟨w_h3, rfl, o_h3⟩⟩ := e4
    · have fr_h3 := Fr.tr fr_h1 f_h3 (fun _ q => q)
      have := tkF_le (t := t) (p := (tkA t n (tkA t n p))) (tkA_le (tkA_le hp))
      have := tkA_ge (t := t) (n := n) (p := (tkA t n (tkA t n p)))
      have := tkA_le (t := t) (p := (tkA t n (tkA t n p))) (tkA_le (tkA_le hp))
      have := tkK_le (t := t) (n := n) (p := (tkA t n (tkA t n p)))
      have b1_h3 := w_h3.2.1
      have b2_h3 := w_h3.2.2
      have g_h3 := nm_gt w_h3
      show Wn _ _ 34 _ [.int (nI (tkV t n (tkA t n p)))] h3 _
      refine wn_st (pc' := 35) (q := 3) (kin := 0) (lv' := [(0, .ref (2)), (1, .int (nI (tkV t n p))), (2, .int (nI (tkF t n (tkA t n p)))), (3, .int (nI (tkV t n (tkA t n p))))]) rfl (fun _ _ _ => rfl) rfl (Nat.le_of_ble_eq_true rfl) rfl ?_
      refine wn_ld (pc' := 36) (q := 0) (kin := 2) (v := .ref (2)) rfl (fun _ _ _ => rfl) rfl rfl ?_
      refine wn_get (pc' := 39) (v := .int (nI (0))) rfl rfl o_h3 rfl ?_
      refine wn_ifN (t := 60) (f := 42) rfl rfl rfl (by omega) (fun c5 => ?_) (fun c5 => ?_)
      · have c5 : ¬ 0 = 0 := c5
        exact absurd c5 (by decide)
      · have c5 : 0 = 0 := c5
        refine wn_ld (pc' := 43) (q := 0) (kin := 2) (v := .ref (2)) rfl (fun _ _ _ => rfl) rfl rfl ?_
        refine wn_get (pc' := 46) (v := .ref (lr)) rfl rfl o_h3 rfl ?_
        refine wn_ld (pc' := 47) (q := 1) (kin := 0) (v := .int (nI (tkV t n p))) rfl (fun _ _ _ => rfl) rfl rfl ?_
        refine wn_ld (pc' := 48) (q := 3) (kin := 0) (v := .int (nI (tkV t n (tkA t n p)))) rfl (fun _ _ _ => rfl) rfl rfl ?_
        refine wn_virI (pc' := 51) rfl rfl (by decide) rfl rfl ((fr2 fr_h3 (by omega)).trans l0) (Nat.le_of_ble_eq_true rfl) (x_isToldR _ _ lr w hJ (tkV t n p) (tkV t n (tkA t n p)) (by omega) (by omega) (R1.kp (fun k p1 p2 => fr2 fr_h3 (by omega))) (R2.kp (fun k p1 p2 => fr2 fr_h3 (by omega)))) ?_
        refine wn_ifeqB (t := 60) (f := 54) rfl rfl rfl (fun c6 => ?_) (fun c6 => ?_)
        · have c6 : ¬ (¬ w (216 + 10 * (tkV t n p) + (tkV t n (tkA t n p))) = -1) := c6
          refine wn_ld (pc' := 61) (q := 0) (kin := 2) (v := .ref (2)) rfl (fun _ _ _ => rfl) rfl rfl ?_
          refine wn_ic (pc' := 62) (w := nI 0) rfl rfl (by decide) ?_
          refine wn_ld (pc' := 63) (q := 0) (kin := 2) (v := .ref (2)) rfl (fun _ _ _ => rfl) rfl rfl ?_
          refine wn_ld (pc' := 64) (q := 3) (kin := 0) (v := .int (nI (tkV t n (tkA t n p)))) rfl (fun _ _ _ => rfl) rfl rfl ?_
          have := wf_vab hJ.wf (show (tkV t n (tkA t n p)) < ntW w by omega)
          refine wn_virI (pc' := 67) rfl rfl (by decide) rfl rfl o_h3 (Nat.le_of_ble_eq_true rfl) (x_hvX _ _ lr w (by omega) hJ (R1.kp (fun k p1 p2 => fr2 fr_h3 (by omega))) o_h3 (tkV t n (tkA t n p)) (by omega) (wf_vab hJ.wf (by omega))) ?_
          refine wn_virS (pc' := 70) rfl rfl (by decide) rfl rfl o_h3 (Nat.le_of_ble_eq_true rfl) (x_num0 _ _ t ct n (tkA t n (tkA t n p)) lr hn (tkA_le (tkA_le hp)) ((fr2 fr_h3 (by decide)).trans o1) o1v o_h3 0 (by omega) (nI (vaW w (tkV t n (tkA t n p)) - 1)) (((vaW w (tkV t n (tkA t n p)) : Nat) : Int) - 1) (pre1 (by omega) (by omega)) (by omega)) (fun r9 h7 e8 => ?_)
          obtain ⟨f_h7, ⟨w_h7, rfl, o_h7⟩ | ⟨w_h7, rfl, o_h7⟩⟩ := e8
          · have fr_h7 := Fr.tr fr_h3 f_h7 (fun _ q => q)
            have := tkF_le (t := t) (p := (tkA t n (tkA t n (tkA t n p)))) (tkA_le (tkA_le (tkA_le hp)))
            have := tkA_ge (t := t) (n := n) (p := (tkA t n (tkA t n (tkA t n p))))
            have := tkA_le (t := t) (p := (tkA t n (tkA t n (tkA t n p)))) (tkA_le (tkA_le (tkA_le hp)))
            have := tkK_le (t := t) (n := n) (p := (tkA t n (tkA t n (tkA t n p))))
            have b1_h7 := w_h7.2.1
            have b2_h7 := w_h7.2.2
            have g_h7 := nm_gt w_h7
            show Wn _ _ 70 _ [.int (nI (tkV t n (tkA t n (tkA t n p))))] h7 _
            refine wn_st (pc' := 72) (q := 4) (kin := 0) (lv' := [(0, .ref (2)), (1, .int (nI (tkV t n p))), (2, .int (nI (tkF t n (tkA t n p)))), (3, .int (nI (tkV t n (tkA t n p)))), (4, .int (nI (tkV t n (tkA t n (tkA t n p)))))]) rfl (fun _ _ _ => rfl) rfl (Nat.le_of_ble_eq_true rfl) rfl ?_
            refine wn_ld (pc' := 73) (q := 0) (kin := 2) (v := .ref (2)) rfl (fun _ _ _ => rfl) rfl rfl ?_
            refine wn_virS (pc' := 76) rfl rfl (by decide) rfl rfl o_h7 (Nat.le_of_ble_eq_true rfl) (x_takeStop0 _ _ t ct n (tkA t n (tkA t n (tkA t n p))) lr hn (tkA_le (tkA_le (tkA_le hp))) ((fr2 fr_h7 (by decide)).trans o1) o1v o_h7) (fun r9 h9 e10 => ?_)
            obtain ⟨rfl, f_h9, ⟨w_h9, o_h9⟩ | ⟨w_h9, o_h9⟩⟩ := e10
            · have fr_h9 := Fr.tr fr_h7 f_h9 (fun _ q => q)
              have := tkF_le (t := t) (p := (tkA t n (tkA t n (tkA t n (tkA t n p))))) (tkA_le (tkA_le (tkA_le (tkA_le hp))))
              have := tkA_ge (t := t) (n := n) (p := (tkA t n (tkA t n (tkA t n (tkA t n p)))))
              have := tkA_le (t := t) (p := (tkA t n (tkA t n (tkA t n (tkA t n p))))) (tkA_le (tkA_le (tkA_le (tkA_le hp))))
              have := tkK_le (t := t) (n := n) (p := (tkA t n (tkA t n (tkA t n (tkA t n p)))))
              show Wn _ _ 76 _ [] h9 _
              refine wn_ld (pc' := 77) (q := 0) (kin := 2) (v := .ref (2)) rfl (fun _ _ _ => rfl) rfl rfl ?_
              refine wn_get (pc' := 80) (v := .int (nI (0))) rfl rfl o_h9 rfl ?_
              refine wn_ifN (t := 94) (f := 83) rfl rfl rfl (by omega) (fun c11 => ?_) (fun c11 => ?_)
              · have c11 : ¬ 0 = 0 := c11
                exact absurd c11 (by decide)
              · have c11 : 0 = 0 := c11
                refine wn_ld (pc' := 84) (q := 0) (kin := 2) (v := .ref (2)) rfl (fun _ _ _ => rfl) rfl rfl ?_
                refine wn_get (pc' := 87) (v := .ref (lr)) rfl rfl o_h9 rfl ?_
                refine wn_ld (pc' := 88) (q := 1) (kin := 0) (v := .int (nI (tkV t n p))) rfl (fun _ _ _ => rfl) rfl rfl ?_
                refine wn_ld (pc' := 89) (q := 3) (kin := 0) (v := .int (nI (tkV t n (tkA t n p)))) rfl (fun _ _ _ => rfl) rfl rfl ?_
                refine wn_ld (pc' := 91) (q := 4) (kin := 0) (v := .int (nI (tkV t n (tkA t n (tkA t n p))))) rfl (fun _ _ _ => rfl) rfl rfl ?_
                refine wn_virS (pc' := 94) rfl rfl (by decide) rfl rfl ((fr2 fr_h9 (by omega)).trans l0) (Nat.le_of_ble_eq_true rfl) (x_tell _ _ lr w hJ (tkV t n p) (tkV t n (tkA t n p)) (tkV t n (tkA t n (tkA t n p))) (by omega) (by omega) (R1.kp (fun k p1 p2 => fr2 fr_h9 (by omega))) (R2.kp (fun k p1 p2 => fr2 fr_h9 (by omega)))) (fun r9 h12 e13 => ?_)
                obtain ⟨rfl, q_h12, L_h12, W_h12⟩ := e13
                show Wn _ _ 94 _ [] h12 _
                have eR : sayR t n p w = .inr (_, _) := (pI_t w_h1).trans ((pI_f (fun q => c6 q.2.2)).trans ((pI_t w_h3).trans ((pI_t w_h7).trans (pI_t w_h9))))
                refine wn_vret rfl rfl ⟨rfl, (FrL.f2 (FrL.rfl' lr h) fr_h9).q q_h12, ?_⟩
                rw [eR]
                exact CS_r ((q_h12.2 2 (by omega)).trans o_h9) L_h12 W_h12
            · have fr_h9 := Fr.tr fr_h7 f_h9 (fun _ q => q)
              show Wn _ _ 76 _ [] h9 _
              refine wn_ld (pc' := 77) (q := 0) (kin := 2) (v := .ref (2)) rfl (fun _ _ _ => rfl) rfl rfl ?_
              refine wn_get (pc' := 80) (v := .int (nI (1))) rfl rfl o_h9 rfl ?_
              refine wn_ifc (t := 94) (f := 83) rfl rfl rfl (fun c14 => ?_) (fun c14 => ?_)
              · have c14 : ¬ ((nI (1))) = 0 := c14
                have eR : sayR t n p w = .inl (1, tkF t n (tkA t n (tkA t n (tkA t n p)))) := (pI_t w_h1).trans ((pI_f (fun q => c6 q.2.2)).trans ((pI_t w_h3).trans ((pI_t w_h7).trans (pI_f w_h9))))
                refine wn_vret rfl rfl ⟨rfl, FrL.f2 (FrL.rfl' lr h) fr_h9, ?_⟩
                rw [eR]
                exact CS_l (show ¬ nI 1 = 0 by decide) (tkA_le (tkA_le (tkA_le hp))) o_h9 ((R1.s R2).kp (fun k p1 p2 => fr2 fr_h9 (by omega)))
              · have c14 : ((nI (1))) = 0 := c14
                exact absurd c14 (show ¬ nI 1 = 0 by decide)
          · have fr_h7 := Fr.tr fr_h3 f_h7 (fun _ q => q)
            show Wn _ _ 70 _ [.int (-1)] h7 _
            refine wn_st (pc' := 72) (q := 4) (kin := 0) (lv' := [(0, .ref (2)), (1, .int (nI (tkV t n p))), (2, .int (nI (tkF t n (tkA t n p)))), (3, .int (nI (tkV t n (tkA t n p)))), (4, .int (-1))]) rfl (fun _ _ _ => rfl) rfl (Nat.le_of_ble_eq_true rfl) rfl ?_
            refine wn_ld (pc' := 73) (q := 0) (kin := 2) (v := .ref (2)) rfl (fun _ _ _ => rfl) rfl rfl ?_
            refine wn_virS (pc' := 76) rfl rfl (by decide) rfl rfl o_h7 (Nat.le_of_ble_eq_true rfl) (x_takeStopB _ _ t ct n (tkA t n (tkA t n p)) lr (nI (nmF t n (tkA t n (tkA t n p)))) (nI (tkF t n (tkA t n (tkA t n p)))) hn (tkA_le (tkA_le hp)) ((fr2 fr_h7 (by decide)).trans o1) o1v o_h7 nmF_nz) (fun r9 h15 e16 => ?_)
            obtain ⟨rfl, f_h15, p_h15, hp_h15, o_h15⟩ := e16
            have fr_h15 := Fr.tr fr_h7 f_h15 (fun _ q => q)
            show Wn _ _ 76 _ [] h15 _
            refine wn_ld (pc' := 77) (q := 0) (kin := 2) (v := .ref (2)) rfl (fun _ _ _ => rfl) rfl rfl ?_
            refine wn_get (pc' := 80) (v := .int (nI (nmF t n (tkA t n (tkA t n p))))) rfl rfl o_h15 rfl ?_
            refine wn_ifc (t := 94) (f := 83) rfl rfl rfl (fun c17 => ?_) (fun c17 => ?_)
            · have c17 : ¬ ((nI (nmF t n (tkA t n (tkA t n p))))) = 0 := c17
              have eR : sayR t n p w = .inl (nmF t n (tkA t n (tkA t n p)), tkF t n (tkA t n (tkA t n p))) := (pI_t w_h1).trans ((pI_f (fun q => c6 q.2.2)).trans ((pI_t w_h3).trans (pI_f w_h7)))
              refine wn_vret rfl rfl ⟨rfl, FrL.f2 (FrL.rfl' lr h) fr_h15, ?_⟩
              rw [eR]
              exact CS_l nmF_nz hp_h15 o_h15 ((R1.s R2).kp (fun k p1 p2 => fr2 fr_h15 (by omega)))
            · have c17 : ((nI (nmF t n (tkA t n (tkA t n p))))) = 0 := c17
              exact absurd c17 nmF_nz
        · have c6 : (¬ w (216 + 10 * (tkV t n p) + (tkV t n (tkA t n p))) = -1) := c6
          refine wn_ld (pc' := 55) (q := 0) (kin := 2) (v := .ref (2)) rfl (fun _ _ _ => rfl) rfl rfl ?_
          refine wn_ic (pc' := 56) (w := nI 2) rfl rfl (by decide) ?_
          refine wn_ld (pc' := 57) (q := 2) (kin := 0) (v := .int (nI (tkF t n (tkA t n p)))) rfl (fun _ _ _ => rfl) rfl rfl ?_
          refine wn_virS (pc' := 60) rfl rfl (by decide) rfl rfl o_h3 (Nat.le_of_ble_eq_true rfl) (x_refuse0 _ _ lr n _ _ _ _ _ o_h3 (nI (2)) (nI (tkF t n (tkA t n p)))) (fun r9 h18 e19 => ?_)
          obtain ⟨rfl, f_h18, o_h18⟩ := e19
          have fr_h18 := Fr.tr fr_h3 f_h18 (fun _ q => q)
          show Wn _ _ 60 _ [] h18 _
          refine wn_ld (pc' := 61) (q := 0) (kin := 2) (v := .ref (2)) rfl (fun _ _ _ => rfl) rfl rfl ?_
          refine wn_ic (pc' := 62) (w := nI 0) rfl rfl (by decide) ?_
          refine wn_ld (pc' := 63) (q := 0) (kin := 2) (v := .ref (2)) rfl (fun _ _ _ => rfl) rfl rfl ?_
          refine wn_ld (pc' := 64) (q := 3) (kin := 0) (v := .int (nI (tkV t n (tkA t n p)))) rfl (fun _ _ _ => rfl) rfl rfl ?_
          have := wf_vab hJ.wf (show (tkV t n (tkA t n p)) < ntW w by omega)
          refine wn_virI (pc' := 67) rfl rfl (by decide) rfl rfl o_h18 (Nat.le_of_ble_eq_true rfl) (x_hvX _ _ lr w (by omega) hJ (R1.kp (fun k p1 p2 => fr2 fr_h18 (by omega))) o_h18 (tkV t n (tkA t n p)) (by omega) (wf_vab hJ.wf (by omega))) ?_
          refine wn_virS (pc' := 70) rfl rfl (by decide) rfl rfl o_h18 (Nat.le_of_ble_eq_true rfl) (x_takeNumberB _ _ lr _ _ _ _ _ _ _ o_h18 (show ¬ nI 2 = 0 by decide) (nI (0)) (nI (vaW w (tkV t n (tkA t n p)) - 1))) (fun r9 h20 e21 => ?_)
          obtain ⟨rfl, e9⟩ := e21
          rw [e9]
          show Wn _ _ 70 _ [.int (-1)] h18 _
          refine wn_st (pc' := 72) (q := 4) (kin := 0) (lv' := [(0, .ref (2)), (1, .int (nI (tkV t n p))), (2, .int (nI (tkF t n (tkA t n p)))), (3, .int (nI (tkV t n (tkA t n p)))), (4, .int (-1))]) rfl (fun _ _ _ => rfl) rfl (Nat.le_of_ble_eq_true rfl) rfl ?_
          refine wn_ld (pc' := 73) (q := 0) (kin := 2) (v := .ref (2)) rfl (fun _ _ _ => rfl) rfl rfl ?_
          refine wn_virS (pc' := 76) rfl rfl (by decide) rfl rfl o_h18 (Nat.le_of_ble_eq_true rfl) (x_takeStopB _ _ t ct n (tkA t n (tkA t n p)) lr (nI (2)) (nI (tkF t n (tkA t n p))) hn (tkA_le (tkA_le hp)) ((fr2 fr_h18 (by decide)).trans o1) o1v o_h18 (show ¬ nI 2 = 0 by decide)) (fun r9 h22 e23 => ?_)
          obtain ⟨rfl, f_h22, p_h22, hp_h22, o_h22⟩ := e23
          have fr_h22 := Fr.tr fr_h18 f_h22 (fun _ q => q)
          show Wn _ _ 76 _ [] h22 _
          refine wn_ld (pc' := 77) (q := 0) (kin := 2) (v := .ref (2)) rfl (fun _ _ _ => rfl) rfl rfl ?_
          refine wn_get (pc' := 80) (v := .int (nI (2))) rfl rfl o_h22 rfl ?_
          refine wn_ifN (t := 94) (f := 83) rfl rfl rfl (by omega) (fun c24 => ?_) (fun c24 => ?_)
          · have c24 : ¬ 2 = 0 := c24
            have eR : sayR t n p w = .inl (2, tkF t n (tkA t n p)) := (pI_t w_h1).trans (pI_t ⟨w_h3.1, by omega, c6⟩)
            refine wn_vret rfl rfl ⟨rfl, FrL.f2 (FrL.rfl' lr h) fr_h22, ?_⟩
            rw [eR]
            exact CS_l (show ¬ nI 2 = 0 by decide) hp_h22 o_h22 ((R1.s R2).kp (fun k p1 p2 => fr2 fr_h22 (by omega)))
          · have c24 : 2 = 0 := c24
            exact absurd c24 (by decide)
    · have fr_h3 := Fr.tr fr_h1 f_h3 (fun _ q => q)
      show Wn _ _ 34 _ [.int (-1)] h3 _
      refine wn_st (pc' := 35) (q := 3) (kin := 0) (lv' := [(0, .ref (2)), (1, .int (nI (tkV t n p))), (2, .int (nI (tkF t n (tkA t n p)))), (3, .int (-1))]) rfl (fun _ _ _ => rfl) rfl (Nat.le_of_ble_eq_true rfl) rfl ?_
      refine wn_ld (pc' := 36) (q := 0) (kin := 2) (v := .ref (2)) rfl (fun _ _ _ => rfl) rfl rfl ?_
      refine wn_get (pc' := 39) (v := .int (nI (nmF t n (tkA t n p)))) rfl rfl o_h3 rfl ?_
      refine wn_ifc (t := 60) (f := 42) rfl rfl rfl (fun c25 => ?_) (fun c25 => ?_)
      · have c25 : ¬ ((nI (nmF t n (tkA t n p)))) = 0 := c25
        refine wn_ld (pc' := 61) (q := 0) (kin := 2) (v := .ref (2)) rfl (fun _ _ _ => rfl) rfl rfl ?_
        refine wn_ic (pc' := 62) (w := nI 0) rfl rfl (by decide) ?_
        refine wn_ld (pc' := 63) (q := 0) (kin := 2) (v := .ref (2)) rfl (fun _ _ _ => rfl) rfl rfl ?_
        refine wn_ld (pc' := 64) (q := 3) (kin := 0) (v := .int (-1)) rfl (fun _ _ _ => rfl) rfl rfl ?_
        refine wn_virI (pc' := 67) rfl rfl (by decide) rfl rfl o_h3 (Nat.le_of_ble_eq_true rfl) (x_hvN _ _) ?_
        refine wn_virS (pc' := 70) rfl rfl (by decide) rfl rfl o_h3 (Nat.le_of_ble_eq_true rfl) (x_takeNumberB _ _ lr _ _ _ _ _ _ _ o_h3 nmF_nz (nI (0)) (-1)) (fun r9 h26 e27 => ?_)
        obtain ⟨rfl, e9⟩ := e27
        rw [e9]
        show Wn _ _ 70 _ [.int (-1)] h3 _
        refine wn_st (pc' := 72) (q := 4) (kin := 0) (lv' := [(0, .ref (2)), (1, .int (nI (tkV t n p))), (2, .int (nI (tkF t n (tkA t n p)))), (3, .int (-1)), (4, .int (-1))]) rfl (fun _ _ _ => rfl) rfl (Nat.le_of_ble_eq_true rfl) rfl ?_
        refine wn_ld (pc' := 73) (q := 0) (kin := 2) (v := .ref (2)) rfl (fun _ _ _ => rfl) rfl rfl ?_
        refine wn_virS (pc' := 76) rfl rfl (by decide) rfl rfl o_h3 (Nat.le_of_ble_eq_true rfl) (x_takeStopB _ _ t ct n (tkA t n p) lr (nI (nmF t n (tkA t n p))) (nI (tkF t n (tkA t n p))) hn (tkA_le hp) ((fr2 fr_h3 (by decide)).trans o1) o1v o_h3 nmF_nz) (fun r9 h28 e29 => ?_)
        obtain ⟨rfl, f_h28, p_h28, hp_h28, o_h28⟩ := e29
        have fr_h28 := Fr.tr fr_h3 f_h28 (fun _ q => q)
        show Wn _ _ 76 _ [] h28 _
        refine wn_ld (pc' := 77) (q := 0) (kin := 2) (v := .ref (2)) rfl (fun _ _ _ => rfl) rfl rfl ?_
        refine wn_get (pc' := 80) (v := .int (nI (nmF t n (tkA t n p)))) rfl rfl o_h28 rfl ?_
        refine wn_ifc (t := 94) (f := 83) rfl rfl rfl (fun c30 => ?_) (fun c30 => ?_)
        · have c30 : ¬ ((nI (nmF t n (tkA t n p)))) = 0 := c30
          have eR : sayR t n p w = .inl (nmF t n (tkA t n p), tkF t n (tkA t n p)) := (pI_t w_h1).trans ((pI_f (fun q => w_h3 ⟨q.1, Nat.zero_le _, by have q2 := q.2.1; omega⟩)).trans (pI_f w_h3))
          refine wn_vret rfl rfl ⟨rfl, FrL.f2 (FrL.rfl' lr h) fr_h28, ?_⟩
          rw [eR]
          exact CS_l nmF_nz hp_h28 o_h28 ((R1.s R2).kp (fun k p1 p2 => fr2 fr_h28 (by omega)))
        · have c30 : ((nI (nmF t n (tkA t n p)))) = 0 := c30
          exact absurd c30 c25
      · have c25 : ((nI (nmF t n (tkA t n p)))) = 0 := c25
        exact absurd c25 nmF_nz
  · have fr_h1 := Fr.tr (Fr.rfl' [2] h) f_h1 (fun _ q => q)
    show Wn _ _ 14 _ [.int (-1)] h1 _
    refine wn_st (pc' := 15) (q := 1) (kin := 0) (lv' := [(0, .ref (2)), (1, .int (-1))]) rfl (fun _ _ _ => rfl) rfl (Nat.le_of_ble_eq_true rfl) rfl ?_
    refine wn_ld (pc' := 16) (q := 0) (kin := 2) (v := .ref (2)) rfl (fun _ _ _ => rfl) rfl rfl ?_
    refine wn_get (pc' := 19) (v := .int (nI (tkF t n p))) rfl rfl o_h1 rfl ?_
    refine wn_st (pc' := 20) (q := 2) (kin := 0) (lv' := [(0, .ref (2)), (1, .int (-1)), (2, .int (nI (tkF t n p)))]) rfl (fun _ _ _ => rfl) rfl (Nat.le_of_ble_eq_true rfl) rfl ?_
    refine wn_ld (pc' := 21) (q := 0) (kin := 2) (v := .ref (2)) rfl (fun _ _ _ => rfl) rfl rfl ?_
    refine wn_ic (pc' := 22) (w := nI 0) rfl rfl (by decide) ?_
    refine wn_ld (pc' := 23) (q := 0) (kin := 2) (v := .ref (2)) rfl (fun _ _ _ => rfl) rfl rfl ?_
    refine wn_get (pc' := 26) (v := .ref (lr)) rfl rfl o_h1 rfl ?_
    refine wn_get (pc' := 29) (v := .int (nI (ntW w))) rfl rfl ((fr2 fr_h1 (by omega)).trans l0) rfl ?_
    refine wn_ic (pc' := 30) (w := nI 1) rfl rfl (by decide) ?_
    refine wn_pu (pc' := 31) (st' := [.int ((nI (ntW w)) - (nI (1))), .int (nI (0)), .ref (2)]) rfl (fun _ _ _ => rfl) rfl rfl ?_
    refine wn_virS (pc' := 34) rfl rfl (by decide) rfl rfl o_h1 (Nat.le_of_ble_eq_true rfl) (x_takeNumberB _ _ lr _ _ _ _ _ _ _ o_h1 nmF_nz (nI (0)) ((nI (ntW w)) - (nI (1)))) (fun r9 h31 e32 => ?_)
    obtain ⟨rfl, e9⟩ := e32
    rw [e9]
    show Wn _ _ 34 _ [.int (-1)] h1 _
    refine wn_st (pc' := 35) (q := 3) (kin := 0) (lv' := [(0, .ref (2)), (1, .int (-1)), (2, .int (nI (tkF t n p))), (3, .int (-1))]) rfl (fun _ _ _ => rfl) rfl (Nat.le_of_ble_eq_true rfl) rfl ?_
    refine wn_ld (pc' := 36) (q := 0) (kin := 2) (v := .ref (2)) rfl (fun _ _ _ => rfl) rfl rfl ?_
    refine wn_get (pc' := 39) (v := .int (nI (nmF t n p))) rfl rfl o_h1 rfl ?_
    refine wn_ifc (t := 60) (f := 42) rfl rfl rfl (fun c33 => ?_) (fun c33 => ?_)
    · have c33 : ¬ ((nI (nmF t n p))) = 0 := c33
      refine wn_ld (pc' := 61) (q := 0) (kin := 2) (v := .ref (2)) rfl (fun _ _ _ => rfl) rfl rfl ?_
      refine wn_ic (pc' := 62) (w := nI 0) rfl rfl (by decide) ?_
      refine wn_ld (pc' := 63) (q := 0) (kin := 2) (v := .ref (2)) rfl (fun _ _ _ => rfl) rfl rfl ?_
      refine wn_ld (pc' := 64) (q := 3) (kin := 0) (v := .int (-1)) rfl (fun _ _ _ => rfl) rfl rfl ?_
      refine wn_virI (pc' := 67) rfl rfl (by decide) rfl rfl o_h1 (Nat.le_of_ble_eq_true rfl) (x_hvN _ _) ?_
      refine wn_virS (pc' := 70) rfl rfl (by decide) rfl rfl o_h1 (Nat.le_of_ble_eq_true rfl) (x_takeNumberB _ _ lr _ _ _ _ _ _ _ o_h1 nmF_nz (nI (0)) (-1)) (fun r9 h34 e35 => ?_)
      obtain ⟨rfl, e9⟩ := e35
      rw [e9]
      show Wn _ _ 70 _ [.int (-1)] h1 _
      refine wn_st (pc' := 72) (q := 4) (kin := 0) (lv' := [(0, .ref (2)), (1, .int (-1)), (2, .int (nI (tkF t n p))), (3, .int (-1)), (4, .int (-1))]) rfl (fun _ _ _ => rfl) rfl (Nat.le_of_ble_eq_true rfl) rfl ?_
      refine wn_ld (pc' := 73) (q := 0) (kin := 2) (v := .ref (2)) rfl (fun _ _ _ => rfl) rfl rfl ?_
      refine wn_virS (pc' := 76) rfl rfl (by decide) rfl rfl o_h1 (Nat.le_of_ble_eq_true rfl) (x_takeStopB _ _ t ct n p lr (nI (nmF t n p)) (nI (tkF t n p)) hn hp ((fr2 fr_h1 (by decide)).trans o1) o1v o_h1 nmF_nz) (fun r9 h36 e37 => ?_)
      obtain ⟨rfl, f_h36, p_h36, hp_h36, o_h36⟩ := e37
      have fr_h36 := Fr.tr fr_h1 f_h36 (fun _ q => q)
      show Wn _ _ 76 _ [] h36 _
      refine wn_ld (pc' := 77) (q := 0) (kin := 2) (v := .ref (2)) rfl (fun _ _ _ => rfl) rfl rfl ?_
      refine wn_get (pc' := 80) (v := .int (nI (nmF t n p))) rfl rfl o_h36 rfl ?_
      refine wn_ifc (t := 94) (f := 83) rfl rfl rfl (fun c38 => ?_) (fun c38 => ?_)
      · have c38 : ¬ ((nI (nmF t n p))) = 0 := c38
        have eR : sayR t n p w = .inl (nmF t n p, tkF t n p) := pI_f w_h1
        refine wn_vret rfl rfl ⟨rfl, FrL.f2 (FrL.rfl' lr h) fr_h36, ?_⟩
        rw [eR]
        exact CS_l nmF_nz hp_h36 o_h36 ((R1.s R2).kp (fun k p1 p2 => fr2 fr_h36 (by omega)))
      · have c38 : ((nI (nmF t n p))) = 0 := c38
        exact absurd c38 c33
    · have c33 : ((nI (nmF t n p))) = 0 := c33
      exact absurd c33 nmF_nz

theorem x_readLaw (d : Nat) (h : aH) (t ct : Nat → Int32) (n p lr : Nat) (w : Nat → Int32) (hn : n ≤ 1200) (hp : p ≤ n) (hlr : lr = 24 ∨ lr = 3) (hJ : WJ w) (o1 : isB h 1 1200 ct) (o1v : ∀ x, x < 1200 → ct x = t x) (o2 : isO h 2 3 (rdS t lr (nI 0) (-1) n p)) (R1 : LandR h lr w) (R2 : LawsR h (lr + 9) w) (h53 : 5 * npW w + 3 ≤ p) (f0 : Nat) : Sp (Rn (d + 6)) 29 [.ref (2), .int (nI (f0))] h (fun r9 h9 => r9 = none ∧ FrL lr h h9 ∧ ∃ r, LawR t n f0 p w r ∧ CS t n lr h9 r) := by
  obtain ⟨sz, rf, rt, rv, ag, vr, sd, tl, l0, l1, l2, l3, l4, l5, l6, l7, l8, g1, g2, g3, g4, g5⟩ := id R1
  obtain ⟨sec, it, fi, se, sg, lst, rs, rp, pj, pk, pv, k0, k1, k2, k3, k4, k5, k6, k7, k8, k9, k10, k11, k12, k13⟩ := id R2
  obtain ⟨e0, e0b⟩ := wj_0 hJ
  obtain ⟨⟨e1, e2⟩, ⟨e3, e4⟩, ⟨e5, e6⟩⟩ := Wf_n hJ.wf
  obtain ⟨⟨e7, e8⟩, ⟨e9, e10⟩⟩ := Wf_m hJ.wf
  rw [e0, e1, e3, e5] at l0
  rw [e7, e9] at k1
  have hF := tkF_le (t := t) hp
  have hA := tkA_ge (t := t) (n := n) (p := p)
  have hA2 := tkA_le (t := t) hp
  have hK := tkK_le (t := t) (n := n) (p := p)
  refine Sp_of (by decide) (Nat.le_of_ble_eq_true rfl) ?_
  show Wn _ _ 0 [(0, .ref (2)), (1, .int (nI (f0)))] [] _ _
  refine wn_ld (pc' := 1) (q := 0) (kin := 2) (v := .ref (2)) rfl (fun _ _ _ => rfl) rfl rfl ?_
  refine wn_ld (pc' := 2) (q := 0) (kin := 2) (v := .ref (2)) rfl (fun _ _ _ => rfl) rfl rfl ?_
  refine wn_get (pc' := 5) (v := .ref (lr)) rfl rfl o2 rfl ?_
  refine wn_get (pc' := 8) (v := .ref (lr + 9)) rfl rfl l0 rfl ?_
  refine wn_get (pc' := 11) (v := .int (nI (nlW w))) rfl rfl k1 rfl ?_
  refine wn_bp (pc' := 13) (w := nI 20) rfl rfl (by decide) ?_
  refine wn_ld (pc' := 14) (q := 1) (kin := 0) (v := .int (nI (f0))) rfl (fun _ _ _ => rfl) rfl rfl ?_
  refine wn_virS (pc' := 17) rfl rfl (by decide) rfl rfl o2 (Nat.le_of_ble_eq_true rfl) (x_refuseBeyond _ _ t ct n p lr hn hp o1 o1v o2 (nlW w) 20 f0 (by omega) (by omega)) (fun r9 h1 e2 => ?_)
  obtain ⟨rfl, f_h1, ⟨w_h1, o_h1⟩ | ⟨w_h1, o_h1⟩⟩ := e2
  · have fr_h1 := Fr.tr (Fr.rfl' [2] h) f_h1 (fun _ q => q)
    show Wn _ _ 17 _ [] h1 _
    refine wn_ld (pc' := 18) (q := 0) (kin := 2) (v := .ref (2)) rfl (fun _ _ _ => rfl) rfl rfl ?_
    refine wn_ic (pc' := 19) (w := nI 0) rfl rfl (by decide) ?_
    refine wn_ld (pc' := 20) (q := 0) (kin := 2) (v := .ref (2)) rfl (fun _ _ _ => rfl) rfl rfl ?_
    refine wn_get (pc' := 23) (v := .ref (lr)) rfl rfl o_h1 rfl ?_
    refine wn_get (pc' := 26) (v := .int (nI (ntW w))) rfl rfl ((fr2 fr_h1 (by omega)).trans l0) rfl ?_
    refine wn_ic (pc' := 27) (w := nI 1) rfl rfl (by decide) ?_
    refine wn_pu (pc' := 28) (st' := [.int ((nI (ntW w)) - (nI (1))), .int (nI (0)), .ref (2)]) rfl (fun _ _ _ => rfl) rfl rfl ?_
    refine wn_virS (pc' := 31) rfl rfl (by decide) rfl rfl o_h1 (Nat.le_of_ble_eq_true rfl) (x_num0 _ _ t ct n p lr hn hp ((fr2 fr_h1 (by decide)).trans o1) o1v o_h1 0 (by omega) ((nI (ntW w)) - (nI (1))) (((ntW w : Nat) : Int) - 1) (sub1 (by omega)) (by omega)) (fun r9 h3 e4 => ?_)
    obtain ⟨f_h3, ⟨w_h3, rfl, o_h3⟩ | ⟨w_h3, rfl, o_h3⟩⟩ := e4
    · have fr_h3 := Fr.tr fr_h1 f_h3 (fun _ q => q)
      have := tkF_le (t := t) (p := (tkA t n p)) (tkA_le hp)
      have := tkA_ge (t := t) (n := n) (p := (tkA t n p))
      have := tkA_le (t := t) (p := (tkA t n p)) (tkA_le hp)
      have := tkK_le (t := t) (n := n) (p := (tkA t n p))
      have b1_h3 := w_h3.2.1
      have b2_h3 := w_h3.2.2
      have g_h3 := nm_gt w_h3
      show Wn _ _ 31 _ [.int (nI (tkV t n p))] h3 _
      refine wn_st (pc' := 32) (q := 2) (kin := 0) (lv' := [(0, .ref (2)), (1, .int (nI (f0))), (2, .int (nI (tkV t n p)))]) rfl (fun _ _ _ => rfl) rfl (Nat.le_of_ble_eq_true rfl) rfl ?_
      refine wn_ld (pc' := 33) (q := 0) (kin := 2) (v := .ref (2)) rfl (fun _ _ _ => rfl) rfl rfl ?_
      refine wn_ld (pc' := 34) (q := 2) (kin := 0) (v := .int (nI (tkV t n p))) rfl (fun _ _ _ => rfl) rfl rfl ?_
      have := wf_vab hJ.wf (show (tkV t n p) < ntW w by omega)
      refine wn_virI (pc' := 37) rfl rfl (by decide) rfl rfl o_h3 (Nat.le_of_ble_eq_true rfl) (x_hvX _ _ lr w (by omega) hJ (R1.kp (fun k p1 p2 => fr2 fr_h3 (by omega))) o_h3 (tkV t n p) (by omega) (wf_vab hJ.wf (by omega))) ?_
      refine wn_st (pc' := 38) (q := 3) (kin := 0) (lv' := [(0, .ref (2)), (1, .int (nI (f0))), (2, .int (nI (tkV t n p))), (3, .int (nI (vaW w (tkV t n p) - 1)))]) rfl (fun _ _ _ => rfl) rfl (Nat.le_of_ble_eq_true rfl) rfl ?_
      refine wn_ld (pc' := 39) (q := 0) (kin := 2) (v := .ref (2)) rfl (fun _ _ _ => rfl) rfl rfl ?_
      refine wn_ic (pc' := 40) (w := nI 0) rfl rfl (by decide) ?_
      refine wn_ld (pc' := 41) (q := 3) (kin := 0) (v := .int (nI (vaW w (tkV t n p) - 1))) rfl (fun _ _ _ => rfl) rfl rfl ?_
      refine wn_virS (pc' := 44) rfl rfl (by decide) rfl rfl o_h3 (Nat.le_of_ble_eq_true rfl) (x_num0 _ _ t ct n (tkA t n p) lr hn (tkA_le hp) ((fr2 fr_h3 (by decide)).trans o1) o1v o_h3 0 (by omega) (nI (vaW w (tkV t n p) - 1)) (((vaW w (tkV t n p) : Nat) : Int) - 1) (pre1 (by omega) (by omega)) (by omega)) (fun r9 h5 e6 => ?_)
      obtain ⟨f_h5, ⟨w_h5, rfl, o_h5⟩ | ⟨w_h5, rfl, o_h5⟩⟩ := e6
      · have fr_h5 := Fr.tr fr_h3 f_h5 (fun _ q => q)
        have := tkF_le (t := t) (p := (tkA t n (tkA t n p))) (tkA_le (tkA_le hp))
        have := tkA_ge (t := t) (n := n) (p := (tkA t n (tkA t n p)))
        have := tkA_le (t := t) (p := (tkA t n (tkA t n p))) (tkA_le (tkA_le hp))
        have := tkK_le (t := t) (n := n) (p := (tkA t n (tkA t n p)))
        have b1_h5 := w_h5.2.1
        have b2_h5 := w_h5.2.2
        have g_h5 := nm_gt w_h5
        show Wn _ _ 44 _ [.int (nI (tkV t n (tkA t n p)))] h5 _
        refine wn_st (pc' := 46) (q := 4) (kin := 0) (lv' := [(0, .ref (2)), (1, .int (nI (f0))), (2, .int (nI (tkV t n p))), (3, .int (nI (vaW w (tkV t n p) - 1))), (4, .int (nI (tkV t n (tkA t n p))))]) rfl (fun _ _ _ => rfl) rfl (Nat.le_of_ble_eq_true rfl) rfl ?_
        refine wn_ld (pc' := 47) (q := 0) (kin := 2) (v := .ref (2)) rfl (fun _ _ _ => rfl) rfl rfl ?_
        refine wn_go (pc' := 49) (lv' := [(0, .ref (2)), (1, .int (nI (f0))), (2, .int (nI (tkV t n p))), (3, .int (nI (vaW w (tkV t n p) - 1))), (4, .int (nI (tkV t n (tkA t n p))))]) (st' := [.retAddr 9, .ref (2)]) rfl (fun _ _ _ k9 => ⟨by decide, k9⟩) ?_
        refine wn_virS (pc' := 52) rfl rfl (by decide) rfl rfl o_h5 (Nat.le_of_ble_eq_true rfl) (x_takeWord0 _ _ t ct n (tkA t n (tkA t n p)) lr hn (tkA_le (tkA_le hp)) ((fr2 fr_h5 (by decide)).trans o1) o1v o_h5 9 (by omega)) (fun r9 h7 e8 => ?_)
        obtain ⟨rfl, f_h7, ⟨w_h7, o_h7⟩ | ⟨w_h7, o_h7⟩⟩ := e8
        · have fr_h7 := Fr.tr fr_h5 f_h7 (fun _ q => q)
          have := tkF_le (t := t) (p := (tkA t n (tkA t n (tkA t n p)))) (tkA_le (tkA_le (tkA_le hp)))
          have := tkA_ge (t := t) (n := n) (p := (tkA t n (tkA t n (tkA t n p))))
          have := tkA_le (t := t) (p := (tkA t n (tkA t n (tkA t n p)))) (tkA_le (tkA_le (tkA_le hp)))
          have := tkK_le (t := t) (n := n) (p := (tkA t n (tkA t n (tkA t n p))))
          have g_h7 := wd_gt w_h7
          show Wn _ _ 52 _ [] h7 _
          refine wn_ld (pc' := 53) (q := 0) (kin := 2) (v := .ref (2)) rfl (fun _ _ _ => rfl) rfl rfl ?_
          refine wn_ic (pc' := 54) (w := nI 0) rfl rfl (by decide) ?_
          refine wn_ld (pc' := 55) (q := 3) (kin := 0) (v := .int (nI (vaW w (tkV t n p) - 1))) rfl (fun _ _ _ => rfl) rfl rfl ?_
          refine wn_virS (pc' := 58) rfl rfl (by decide) rfl rfl o_h7 (Nat.le_of_ble_eq_true rfl) (x_num0 _ _ t ct n (tkA t n (tkA t n (tkA t n p))) lr hn (tkA_le (tkA_le (tkA_le hp))) ((fr2 fr_h7 (by decide)).trans o1) o1v o_h7 0 (by omega) (nI (vaW w (tkV t n p) - 1)) (((vaW w (tkV t n p) : Nat) : Int) - 1) (pre1 (by omega) (by omega)) (by omega)) (fun r9 h9 e10 => ?_)
          obtain ⟨f_h9, ⟨w_h9, rfl, o_h9⟩ | ⟨w_h9, rfl, o_h9⟩⟩ := e10
          · have fr_h9 := Fr.tr fr_h7 f_h9 (fun _ q => q)
            have := tkF_le (t := t) (p := (tkA t n (tkA t n (tkA t n (tkA t n p))))) (tkA_le (tkA_le (tkA_le (tkA_le hp))))
            have := tkA_ge (t := t) (n := n) (p := (tkA t n (tkA t n (tkA t n (tkA t n p)))))
            have := tkA_le (t := t) (p := (tkA t n (tkA t n (tkA t n (tkA t n p))))) (tkA_le (tkA_le (tkA_le (tkA_le hp))))
            have := tkK_le (t := t) (n := n) (p := (tkA t n (tkA t n (tkA t n (tkA t n p)))))
            have b1_h9 := w_h9.2.1
            have b2_h9 := w_h9.2.2
            have g_h9 := nm_gt w_h9
            show Wn _ _ 58 _ [.int (nI (tkV t n (tkA t n (tkA t n (tkA t n p)))))] h9 _
            refine wn_st (pc' := 60) (q := 5) (kin := 0) (lv' := [(0, .ref (2)), (1, .int (nI (f0))), (2, .int (nI (tkV t n p))), (3, .int (nI (vaW w (tkV t n p) - 1))), (4, .int (nI (tkV t n (tkA t n p)))), (5, .int (nI (tkV t n (tkA t n (tkA t n (tkA t n p))))))]) rfl (fun _ _ _ => rfl) rfl (Nat.le_of_ble_eq_true rfl) rfl ?_
            refine wn_ld (pc' := 61) (q := 0) (kin := 2) (v := .ref (2)) rfl (fun _ _ _ => rfl) rfl rfl ?_
            refine wn_go (pc' := 63) (lv' := [(0, .ref (2)), (1, .int (nI (f0))), (2, .int (nI (tkV t n p))), (3, .int (nI (vaW w (tkV t n p) - 1))), (4, .int (nI (tkV t n (tkA t n p)))), (5, .int (nI (tkV t n (tkA t n (tkA t n (tkA t n p))))))]) (st' := [.retAddr 10, .ref (2)]) rfl (fun _ _ _ k9 => ⟨by decide, k9⟩) ?_
            refine wn_virS (pc' := 66) rfl rfl (by decide) rfl rfl o_h9 (Nat.le_of_ble_eq_true rfl) (x_takeWord0 _ _ t ct n (tkA t n (tkA t n (tkA t n (tkA t n p)))) lr hn (tkA_le (tkA_le (tkA_le (tkA_le hp)))) ((fr2 fr_h9 (by decide)).trans o1) o1v o_h9 10 (by omega)) (fun r9 h11 e12 => ?_)
            obtain ⟨rfl, f_h11, ⟨w_h11, o_h11⟩ | ⟨w_h11, o_h11⟩⟩ := e12
            · have fr_h11 := Fr.tr fr_h9 f_h11 (fun _ q => q)
              have := tkF_le (t := t) (p := (tkA t n (tkA t n (tkA t n (tkA t n (tkA t n p)))))) (tkA_le (tkA_le (tkA_le (tkA_le (tkA_le hp)))))
              have := tkA_ge (t := t) (n := n) (p := (tkA t n (tkA t n (tkA t n (tkA t n (tkA t n p))))))
              have := tkA_le (t := t) (p := (tkA t n (tkA t n (tkA t n (tkA t n (tkA t n p)))))) (tkA_le (tkA_le (tkA_le (tkA_le (tkA_le hp)))))
              have := tkK_le (t := t) (n := n) (p := (tkA t n (tkA t n (tkA t n (tkA t n (tkA t n p))))))
              have g_h11 := wd_gt w_h11
              show Wn _ _ 66 _ [] h11 _
              refine wn_ld (pc' := 67) (q := 0) (kin := 2) (v := .ref (2)) rfl (fun _ _ _ => rfl) rfl rfl ?_
              refine wn_get (pc' := 70) (v := .ref (lr)) rfl rfl o_h11 rfl ?_
              refine wn_get (pc' := 73) (v := .ref (lr + 9)) rfl rfl ((fr2 fr_h11 (by omega)).trans l0) rfl ?_
              refine wn_get (pc' := 76) (v := .int (nI (npW w))) rfl rfl ((fr2 fr_h11 (by omega)).trans k1) rfl ?_
              refine wn_st (pc' := 78) (q := 6) (kin := 0) (lv' := [(0, .ref (2)), (1, .int (nI (f0))), (2, .int (nI (tkV t n p))), (3, .int (nI (vaW w (tkV t n p) - 1))), (4, .int (nI (tkV t n (tkA t n p)))), (5, .int (nI (tkV t n (tkA t n (tkA t n (tkA t n p)))))), (6, .int (nI (npW w)))]) rfl (fun _ _ _ => rfl) rfl (Nat.le_of_ble_eq_true rfl) rfl ?_
              refine wn_ld (pc' := 79) (q := 0) (kin := 2) (v := .ref (2)) rfl (fun _ _ _ => rfl) rfl rfl ?_
              refine wn_ld (pc' := 80) (q := 3) (kin := 0) (v := .int (nI (vaW w (tkV t n p) - 1))) rfl (fun _ _ _ => rfl) rfl rfl ?_
              refine wn_virS (pc' := 83) rfl rfl (by decide) rfl rfl o_h11 (Nat.le_of_ble_eq_true rfl) (x_readSum _ _ t ct n (tkA t n (tkA t n (tkA t n (tkA t n (tkA t n p))))) lr w hn (tkA_le (tkA_le (tkA_le (tkA_le (tkA_le hp))))) hlr hJ ((fr2 fr_h11 (by decide)).trans o1) o1v o_h11 (R1.kp (fun k p1 p2 => fr2 fr_h11 (by omega))) (R2.kp (fun k p1 p2 => fr2 fr_h11 (by omega))) (by omega) 0 rfl (by omega) (nI (vaW w (tkV t n p) - 1)) (((vaW w (tkV t n p) : Nat) : Int) - 1) (pre1 (by omega) (by omega)) (by omega)) (fun r9 h13 e14 => ?_)
              obtain ⟨rfl, fl0_h13, r_h13, sm_h13, CS_h13⟩ := e14
              have fl_h13 := FrL.tr (FrL.f2 (FrL.rfl' lr h) fr_h11) fl0_h13
              rcases r_h13 with e9a | ⟨pa, wa⟩
              · obtain ⟨hb_h13, p_h13, hp_h13, o_h13, S_h13⟩ := CS_h13
                have := tkF_le (t := t) (p := p_h13) hp_h13
                have := tkA_ge (t := t) (n := n) (p := p_h13)
                have := tkA_le (t := t) (p := p_h13) hp_h13
                have := tkK_le (t := t) (n := n) (p := p_h13)
                obtain ⟨x0, x1, x2, x3, x4, x5, sz9, rf9, rt9, rv9, ag9, vr9, sd9, tl9, it9, fi9, se9, sg9, ls9, rs9, rp9, pj9, pk9, pv9, d0, d1, d2, d3, d4, d5, d6, d7, d8, d9, d10, _⟩ := id S_h13
                show Wn _ _ 83 _ [] h13 _
                refine wn_ld (pc' := 84) (q := 0) (kin := 2) (v := .ref (2)) rfl (fun _ _ _ => rfl) rfl rfl ?_
                refine wn_virS (pc' := 87) rfl rfl (by decide) rfl rfl o_h13 (Nat.le_of_ble_eq_true rfl) (x_signB _ _ t ct n p_h13 lr (nI (e9a.1)) (nI (e9a.2)) hn hp_h13 ((fl_h13.2 1 (by decide) (by omega)).trans o1) o1v o_h13 hb_h13) (fun r9 h15 e16 => ?_)
                obtain ⟨sx_h15, rfl, f_h15, p_h15, hp_h15, o_h15⟩ := e16
                have fr_h15 := Fr.tr (Fr.rfl' [2] h13) f_h15 (fun _ q => q)
                show Wn _ _ 87 _ [.int (sx_h15)] h15 _
                refine wn_st (pc' := 89) (q := 7) (kin := 0) (lv' := [(0, .ref (2)), (1, .int (nI (f0))), (2, .int (nI (tkV t n p))), (3, .int (nI (vaW w (tkV t n p) - 1))), (4, .int (nI (tkV t n (tkA t n p)))), (5, .int (nI (tkV t n (tkA t n (tkA t n (tkA t n p)))))), (6, .int (nI (npW w))), (7, .int (sx_h15))]) rfl (fun _ _ _ => rfl) rfl (Nat.le_of_ble_eq_true rfl) rfl ?_
                refine wn_ld (pc' := 90) (q := 0) (kin := 2) (v := .ref (2)) rfl (fun _ _ _ => rfl) rfl rfl ?_
                refine wn_get (pc' := 93) (v := .ref (lr)) rfl rfl o_h15 rfl ?_
                refine wn_get (pc' := 96) (v := .ref (lr + 9)) rfl rfl ((fr2 fr_h15 (by omega)).trans d0) rfl ?_
                refine wn_get (pc' := 99) (v := .int (x5)) rfl rfl ((fr2 fr_h15 (by omega)).trans d10) rfl ?_
                refine wn_st (pc' := 101) (q := 8) (kin := 0) (lv' := [(0, .ref (2)), (1, .int (nI (f0))), (2, .int (nI (tkV t n p))), (3, .int (nI (vaW w (tkV t n p) - 1))), (4, .int (nI (tkV t n (tkA t n p)))), (5, .int (nI (tkV t n (tkA t n (tkA t n (tkA t n p)))))), (6, .int (nI (npW w))), (7, .int (sx_h15)), (8, .int (x5))]) rfl (fun _ _ _ => rfl) rfl (Nat.le_of_ble_eq_true rfl) rfl ?_
                refine wn_ld (pc' := 102) (q := 0) (kin := 2) (v := .ref (2)) rfl (fun _ _ _ => rfl) rfl rfl ?_
                refine wn_ld (pc' := 103) (q := 3) (kin := 0) (v := .int (nI (vaW w (tkV t n p) - 1))) rfl (fun _ _ _ => rfl) rfl rfl ?_
                refine wn_virS (pc' := 106) rfl rfl (by decide) rfl rfl o_h15 (Nat.le_of_ble_eq_true rfl) (x_readSumB _ _ lr _ _ _ _ _ _ _ o_h15 hb_h13 (nI (vaW w (tkV t n p) - 1))) (fun r9 h17 e18 => ?_)
                obtain ⟨rfl, e9⟩ := e18
                rw [e9]
                show Wn _ _ 106 _ [] h15 _
                refine wn_ld (pc' := 107) (q := 0) (kin := 2) (v := .ref (2)) rfl (fun _ _ _ => rfl) rfl rfl ?_
                refine wn_virS (pc' := 110) rfl rfl (by decide) rfl rfl o_h15 (Nat.le_of_ble_eq_true rfl) (x_takeStopB _ _ t ct n p_h15 lr (nI (e9a.1)) (nI (e9a.2)) hn hp_h15 ((fr2 fr_h15 (by decide)).trans ((fl_h13.2 1 (by decide) (by omega)).trans o1)) o1v o_h15 hb_h13) (fun r9 h19 e20 => ?_)
                obtain ⟨rfl, f_h19, p_h19, hp_h19, o_h19⟩ := e20
                have fr_h19 := Fr.tr fr_h15 f_h19 (fun _ q => q)
                show Wn _ _ 110 _ [] h19 _
                refine wn_ld (pc' := 111) (q := 0) (kin := 2) (v := .ref (2)) rfl (fun _ _ _ => rfl) rfl rfl ?_
                refine wn_get (pc' := 114) (v := .int (nI (e9a.1))) rfl rfl o_h19 rfl ?_
                refine wn_ifc (t := 151) (f := 117) rfl rfl rfl (fun c21 => ?_) (fun c21 => ?_)
                · have c21 : ¬ ((nI (e9a.1))) = 0 := c21
                  have eR : LawR t n f0 p w (.inl (e9a.1, e9a.2)) := Or.inl ⟨w_h1, Or.inl ⟨w_h3, Or.inl ⟨w_h5, Or.inl ⟨w_h7, Or.inl ⟨w_h9, Or.inl ⟨w_h11, ⟨_, sm_h13, rfl⟩⟩⟩⟩⟩⟩⟩
                  exact wn_vret rfl rfl ⟨rfl, FrL.f2 fl_h13 fr_h19, _, eR, CS_l hb_h13 hp_h19 o_h19 (S_h13.kp (fun k p1 p2 => fr2 fr_h19 (by omega)))⟩
                · have c21 : ((nI (e9a.1))) = 0 := c21
                  exact absurd c21 hb_h13
              · obtain ⟨Ja, Sa, ya1, ya2, hpa⟩ := SumR_i (by omega) hn sm_h13 hJ (by omega) (tkA_le (tkA_le (tkA_le (tkA_le (tkA_le hp)))))
                have Ja : WJ wa := Ja
                have Sa : SmJ 0 w wa := Sa
                have ya1 : 5 * npW wa ≤ pa := ya1
                have ya2 : tkA t n (tkA t n (tkA t n (tkA t n (tkA t n p)))) < pa := ya2
                have hpa : pa ≤ n := hpa
                have ta := Sa.nt
                have ua := Sa.nl
                have va := Sa.va (i := tkV t n p) (by omega)
                obtain ⟨o_h13, R1_h13, R2_h13⟩ := CS_h13
                obtain ⟨sza, rfa, rta, rva, aga, vra, sda, tla, l0a, l1a, l2a, l3a, l4a, l5a, l6a, l7a, l8a, g1a, g2a, g3a, g4a, g5a⟩ := id R1_h13
                obtain ⟨seca, ita, fia, sea, sga, lsta, rsa, rpa, pja, pka, pva, k0a, k1a, k2a, k3a, k4a, k5a, k6a, k7a, k8a, k9a, k10a, k11a, k12a, k13a⟩ := id R2_h13
                obtain ⟨e0a, e0ba⟩ := wj_0 Ja
                obtain ⟨⟨e1a, e2a⟩, ⟨e3a, e4a⟩, ⟨e5a, e6a⟩⟩ := Wf_n Ja.wf
                obtain ⟨⟨e7a, e8a⟩, ⟨e9a, e10a⟩⟩ := Wf_m Ja.wf
                rw [e0a, e1a, e3a, e5a] at l0a
                rw [e7a, e9a] at k1a
                have := tkF_le (t := t) (p := pa) hpa
                have := tkA_ge (t := t) (n := n) (p := pa)
                have := tkA_le (t := t) (p := pa) hpa
                have := tkK_le (t := t) (n := n) (p := pa)
                show Wn _ _ 83 _ [] h13 _
                refine wn_ld (pc' := 84) (q := 0) (kin := 2) (v := .ref (2)) rfl (fun _ _ _ => rfl) rfl rfl ?_
                refine wn_virS (pc' := 87) rfl rfl (by decide) rfl rfl o_h13 (Nat.le_of_ble_eq_true rfl) (x_sign0 _ _ t ct n pa lr hn hpa ((fl_h13.2 1 (by decide) (by omega)).trans o1) o1v o_h13) (fun r9 h22 e23 => ?_)
                obtain ⟨f_h22, ⟨w_h22, rfl, o_h22⟩ | ⟨w_h22, rfl, o_h22⟩ | ⟨w_h22, rfl, o_h22⟩ | ⟨w_h22, w2_h22, w3_h22, rfl, o_h22⟩⟩ := e23
                · have fr_h22 := Fr.tr (Fr.rfl' [2] h13) f_h22 (fun _ q => q)
                  have := tkF_le (t := t) (p := (tkA t n pa)) (tkA_le hpa)
                  have := tkA_ge (t := t) (n := n) (p := (tkA t n pa))
                  have := tkA_le (t := t) (p := (tkA t n pa)) (tkA_le hpa)
                  have := tkK_le (t := t) (n := n) (p := (tkA t n pa))
                  have l9 := litL4
                  have g9 := wd_gt w_h22
                  show Wn _ _ 87 _ [.int (nI (0))] h22 _
                  refine wn_st (pc' := 89) (q := 7) (kin := 0) (lv' := [(0, .ref (2)), (1, .int (nI (f0))), (2, .int (nI (tkV t n p))), (3, .int (nI (vaW w (tkV t n p) - 1))), (4, .int (nI (tkV t n (tkA t n p)))), (5, .int (nI (tkV t n (tkA t n (tkA t n (tkA t n p)))))), (6, .int (nI (npW w))), (7, .int (nI (0)))]) rfl (fun _ _ _ => rfl) rfl (Nat.le_of_ble_eq_true rfl) rfl ?_
                  refine wn_ld (pc' := 90) (q := 0) (kin := 2) (v := .ref (2)) rfl (fun _ _ _ => rfl) rfl rfl ?_
                  refine wn_get (pc' := 93) (v := .ref (lr)) rfl rfl o_h22 rfl ?_
                  refine wn_get (pc' := 96) (v := .ref (lr + 9)) rfl rfl ((fr2 fr_h22 (by omega)).trans l0a) rfl ?_
                  refine wn_get (pc' := 99) (v := .int (nI (npW wa))) rfl rfl ((fr2 fr_h22 (by omega)).trans k1a) rfl ?_
                  refine wn_st (pc' := 101) (q := 8) (kin := 0) (lv' := [(0, .ref (2)), (1, .int (nI (f0))), (2, .int (nI (tkV t n p))), (3, .int (nI (vaW w (tkV t n p) - 1))), (4, .int (nI (tkV t n (tkA t n p)))), (5, .int (nI (tkV t n (tkA t n (tkA t n (tkA t n p)))))), (6, .int (nI (npW w))), (7, .int (nI (0))), (8, .int (nI (npW wa)))]) rfl (fun _ _ _ => rfl) rfl (Nat.le_of_ble_eq_true rfl) rfl ?_
                  refine wn_ld (pc' := 102) (q := 0) (kin := 2) (v := .ref (2)) rfl (fun _ _ _ => rfl) rfl rfl ?_
                  refine wn_ld (pc' := 103) (q := 3) (kin := 0) (v := .int (nI (vaW w (tkV t n p) - 1))) rfl (fun _ _ _ => rfl) rfl rfl ?_
                  refine wn_virS (pc' := 106) rfl rfl (by decide) rfl rfl o_h22 (Nat.le_of_ble_eq_true rfl) (x_readSum _ _ t ct n (tkA t n pa) lr wa hn (tkA_le hpa) hlr Ja ((fr2 fr_h22 (by decide)).trans ((fl_h13.2 1 (by decide) (by omega)).trans o1)) o1v o_h22 (R1_h13.kp (fun k p1 p2 => fr2 fr_h22 (by omega))) (R2_h13.kp (fun k p1 p2 => fr2 fr_h22 (by omega))) (by omega) 4 rfl (by omega) (nI (vaW w (tkV t n p) - 1)) (((vaW w (tkV t n p) : Nat) : Int) - 1) (pre1 (by omega) (by omega)) (by omega)) (fun r9 h24 e25 => ?_)
                  obtain ⟨rfl, fl0_h24, r_h24, sm_h24, CS_h24⟩ := e25
                  have fl_h24 := FrL.tr (FrL.f2 fl_h13 fr_h22) fl0_h24
                  rcases r_h24 with e9b | ⟨pb, wb⟩
                  · obtain ⟨hb_h24, p_h24, hp_h24, o_h24, S_h24⟩ := CS_h24
                    have := tkF_le (t := t) (p := p_h24) hp_h24
                    have := tkA_ge (t := t) (n := n) (p := p_h24)
                    have := tkA_le (t := t) (p := p_h24) hp_h24
                    have := tkK_le (t := t) (n := n) (p := p_h24)
                    obtain ⟨x0, x1, x2, x3, x4, x5, sz9, rf9, rt9, rv9, ag9, vr9, sd9, tl9, it9, fi9, se9, sg9, ls9, rs9, rp9, pj9, pk9, pv9, d0, d1, d2, d3, d4, d5, d6, d7, d8, d9, d10, _⟩ := id S_h24
                    show Wn _ _ 106 _ [] h24 _
                    refine wn_ld (pc' := 107) (q := 0) (kin := 2) (v := .ref (2)) rfl (fun _ _ _ => rfl) rfl rfl ?_
                    refine wn_virS (pc' := 110) rfl rfl (by decide) rfl rfl o_h24 (Nat.le_of_ble_eq_true rfl) (x_takeStopB _ _ t ct n p_h24 lr (nI (e9b.1)) (nI (e9b.2)) hn hp_h24 ((fl_h24.2 1 (by decide) (by omega)).trans o1) o1v o_h24 hb_h24) (fun r9 h26 e27 => ?_)
                    obtain ⟨rfl, f_h26, p_h26, hp_h26, o_h26⟩ := e27
                    have fr_h26 := Fr.tr (Fr.rfl' [2] h24) f_h26 (fun _ q => q)
                    show Wn _ _ 110 _ [] h26 _
                    refine wn_ld (pc' := 111) (q := 0) (kin := 2) (v := .ref (2)) rfl (fun _ _ _ => rfl) rfl rfl ?_
                    refine wn_get (pc' := 114) (v := .int (nI (e9b.1))) rfl rfl o_h26 rfl ?_
                    refine wn_ifc (t := 151) (f := 117) rfl rfl rfl (fun c28 => ?_) (fun c28 => ?_)
                    · have c28 : ¬ ((nI (e9b.1))) = 0 := c28
                      have eR : LawR t n f0 p w (.inl (e9b.1, e9b.2)) := Or.inl ⟨w_h1, Or.inl ⟨w_h3, Or.inl ⟨w_h5, Or.inl ⟨w_h7, Or.inl ⟨w_h9, Or.inl ⟨w_h11, ⟨_, sm_h13, Or.inl ⟨w_h22, ⟨_, sm_h24, rfl⟩⟩⟩⟩⟩⟩⟩⟩⟩
                      exact wn_vret rfl rfl ⟨rfl, FrL.f2 fl_h24 fr_h26, _, eR, CS_l hb_h24 hp_h26 o_h26 (S_h24.kp (fun k p1 p2 => fr2 fr_h26 (by omega)))⟩
                    · have c28 : ((nI (e9b.1))) = 0 := c28
                      exact absurd c28 hb_h24
                  · obtain ⟨Jb, Sb, yb1, yb2, hpb⟩ := SumR_i (by omega) hn sm_h24 Ja (by omega) (tkA_le hpa)
                    have Jb : WJ wb := Jb
                    have Sb : SmJ 4 wa wb := Sb
                    have yb1 : 5 * npW wb ≤ pb := yb1
                    have yb2 : tkA t n pa < pb := yb2
                    have hpb : pb ≤ n := hpb
                    have tb := Sb.nt
                    have ub := Sb.nl
                    have vb := Sb.va (i := tkV t n p) (by omega)
                    obtain ⟨o_h24, R1_h24, R2_h24⟩ := CS_h24
                    obtain ⟨szb, rfb, rtb, rvb, agb, vrb, sdb, tlb, l0b, l1b, l2b, l3b, l4b, l5b, l6b, l7b, l8b, g1b, g2b, g3b, g4b, g5b⟩ := id R1_h24
                    obtain ⟨secb, itb, fib, seb, sgb, lstb, rsb, rpb, pjb, pkb, pvb, k0b, k1b, k2b, k3b, k4b, k5b, k6b, k7b, k8b, k9b, k10b, k11b, k12b, k13b⟩ := id R2_h24
                    obtain ⟨e0b, e0bb⟩ := wj_0 Jb
                    obtain ⟨⟨e1b, e2b⟩, ⟨e3b, e4b⟩, ⟨e5b, e6b⟩⟩ := Wf_n Jb.wf
                    obtain ⟨⟨e7b, e8b⟩, ⟨e9b, e10b⟩⟩ := Wf_m Jb.wf
                    rw [e0b, e1b, e3b, e5b] at l0b
                    rw [e7b, e9b] at k1b
                    have := tkF_le (t := t) (p := pb) hpb
                    have := tkA_ge (t := t) (n := n) (p := pb)
                    have := tkA_le (t := t) (p := pb) hpb
                    have := tkK_le (t := t) (n := n) (p := pb)
                    show Wn _ _ 106 _ [] h24 _
                    refine wn_ld (pc' := 107) (q := 0) (kin := 2) (v := .ref (2)) rfl (fun _ _ _ => rfl) rfl rfl ?_
                    refine wn_virS (pc' := 110) rfl rfl (by decide) rfl rfl o_h24 (Nat.le_of_ble_eq_true rfl) (x_takeStop0 _ _ t ct n pb lr hn hpb ((fl_h24.2 1 (by decide) (by omega)).trans o1) o1v o_h24) (fun r9 h29 e30 => ?_)
                    obtain ⟨rfl, f_h29, ⟨w_h29, o_h29⟩ | ⟨w_h29, o_h29⟩⟩ := e30
                    · have fr_h29 := Fr.tr (Fr.rfl' [2] h24) f_h29 (fun _ q => q)
                      have := tkF_le (t := t) (p := (tkA t n pb)) (tkA_le hpb)
                      have := tkA_ge (t := t) (n := n) (p := (tkA t n pb))
                      have := tkA_le (t := t) (p := (tkA t n pb)) (tkA_le hpb)
                      have := tkK_le (t := t) (n := n) (p := (tkA t n pb))
                      show Wn _ _ 110 _ [] h29 _
                      refine wn_ld (pc' := 111) (q := 0) (kin := 2) (v := .ref (2)) rfl (fun _ _ _ => rfl) rfl rfl ?_
                      refine wn_get (pc' := 114) (v := .int (nI (0))) rfl rfl o_h29 rfl ?_
                      refine wn_ifN (t := 151) (f := 117) rfl rfl rfl (by omega) (fun c31 => ?_) (fun c31 => ?_)
                      · have c31 : ¬ 0 = 0 := c31
                        exact absurd c31 (by decide)
                      · have c31 : 0 = 0 := c31
                        refine wn_ld (pc' := 118) (q := 0) (kin := 2) (v := .ref (2)) rfl (fun _ _ _ => rfl) rfl rfl ?_
                        refine wn_get (pc' := 121) (v := .ref (lr)) rfl rfl o_h29 rfl ?_
                        refine wn_get (pc' := 124) (v := .ref (lr + 9)) rfl rfl ((fr2 fr_h29 (by omega)).trans l0b) rfl ?_
                        refine wn_ld (pc' := 125) (q := 2) (kin := 0) (v := .int (nI (tkV t n p))) rfl (fun _ _ _ => rfl) rfl rfl ?_
                        refine wn_ld (pc' := 127) (q := 4) (kin := 0) (v := .int (nI (tkV t n (tkA t n p)))) rfl (fun _ _ _ => rfl) rfl rfl ?_
                        refine wn_ld (pc' := 129) (q := 5) (kin := 0) (v := .int (nI (tkV t n (tkA t n (tkA t n (tkA t n p)))))) rfl (fun _ _ _ => rfl) rfl rfl ?_
                        refine wn_ld (pc' := 131) (q := 7) (kin := 0) (v := .int (nI (0))) rfl (fun _ _ _ => rfl) rfl rfl ?_
                        refine wn_ld (pc' := 133) (q := 6) (kin := 0) (v := .int (nI (npW w))) rfl (fun _ _ _ => rfl) rfl rfl ?_
                        refine wn_ld (pc' := 135) (q := 8) (kin := 0) (v := .int (nI (npW wa))) rfl (fun _ _ _ => rfl) rfl rfl ?_
                        refine wn_virS (pc' := 138) rfl rfl (by decide) rfl rfl ((fr2 fr_h29 (by omega)).trans k1b) (Nat.le_of_ble_eq_true rfl) (x_addLaw0 _ _ lr wb Jb (tkV t n p) (tkV t n (tkA t n p)) (tkV t n (tkA t n (tkA t n (tkA t n p)))) 0 (npW w) (npW wa) (by omega) (by omega) (by omega) (by omega) (by omega) (Sa.lw Sb (by omega)) (R1_h24.kp (fun k p1 p2 => fr2 fr_h29 (by omega))) (R2_h24.kp (fun k p1 p2 => fr2 fr_h29 (by omega)))) (fun r9 h32 e33 => ?_)
                        obtain ⟨rfl, q_h32, L_h32, W_h32⟩ := e33
                        have J9 := Jb.law (i' := (tkV t n p)) (a := (tkV t n (tkA t n p))) (b := (tkV t n (tkA t n (tkA t n (tkA t n p))))) (s := 0) (bg := (npW w)) (by omega) (by omega) (by omega) (by omega) (by omega) (Sa.lw Sb (by omega))
                        obtain ⟨_, _, _, _, _, _, _, _, m0, _⟩ := id L_h32
                        rw [(wj_0 J9).1] at m0
                        show Wn _ _ 138 _ [] h32 _
                        refine wn_ld (pc' := 139) (q := 0) (kin := 2) (v := .ref (2)) rfl (fun _ _ _ => rfl) rfl rfl ?_
                        refine wn_get (pc' := 142) (v := .ref (lr)) rfl rfl ((q_h32.2 2 (by omega)).trans o_h29) rfl ?_
                        refine wn_pu (pc' := 143) (st' := [.ref (lr), .ref (lr)]) rfl (fun _ _ _ => rfl) rfl rfl ?_
                        refine wn_get (pc' := 146) (v := .int (nI (lcW (lawW wb (tkV t n p) (tkV t n (tkA t n p)) (tkV t n (tkA t n (tkA t n (tkA t n p)))) 0 (npW w))))) rfl rfl m0 rfl ?_
                        refine wn_ic (pc' := 147) (w := nI 1) rfl rfl (by decide) ?_
                        refine wn_addN (pc' := 148) rfl rfl ?_
                        refine wn_put (pc' := 151) rfl rfl m0 (Nat.le_of_ble_eq_true rfl) ⟨rfl, rfl⟩ ?_
                        show Wn _ _ 151 _ [] (h32.set lr (.inr (0, [.int (nI ((lcW (lawW wb (tkV t n p) (tkV t n (tkA t n p)) (tkV t n (tkA t n (tkA t n (tkA t n p)))) 0 (npW w))) + 1)), .int ((lawW wb (tkV t n p) (tkV t n (tkA t n p)) (tkV t n (tkA t n (tkA t n (tkA t n p)))) 0 (npW w)) 1), .int ((lawW wb (tkV t n p) (tkV t n (tkA t n p)) (tkV t n (tkA t n (tkA t n (tkA t n p)))) 0 (npW w)) 2), .int ((lawW wb (tkV t n p) (tkV t n (tkA t n p)) (tkV t n (tkA t n (tkA t n (tkA t n p)))) 0 (npW w)) 3), .ref (lr + 1), .ref (lr + 2), .ref (lr + 3), .ref (lr + 4), .ref (lr + 5), .ref (lr + 6), .ref (lr + 7), .ref (lr + 8), .ref (lr + 9)]))) _
                        have eR : LawR t n f0 p w (.inr (_, _)) := Or.inl ⟨w_h1, Or.inl ⟨w_h3, Or.inl ⟨w_h5, Or.inl ⟨w_h7, Or.inl ⟨w_h9, Or.inl ⟨w_h11, ⟨_, sm_h13, Or.inl ⟨w_h22, ⟨_, sm_h24, ((pI_t w_h29).symm)⟩⟩⟩⟩⟩⟩⟩⟩⟩
                        refine wn_vret rfl rfl ⟨rfl, ?_, _, eR, CS_r (gs_ne (by omega) ((q_h32.2 2 (by omega)).trans o_h29)) (L_h32.lin J9) ((W_h32.lin J9).kp (fun k p1 p2 => List.getElem?_set_ne (by omega)))⟩
                        have fq := (FrL.f2 fl_h24 fr_h29).q q_h32
                        exact ⟨by rw [List.length_set]; exact fq.1, fun k a b => (List.getElem?_set_ne (by omega)).trans (fq.2 k a b)⟩
                    · have fr_h29 := Fr.tr (Fr.rfl' [2] h24) f_h29 (fun _ q => q)
                      show Wn _ _ 110 _ [] h29 _
                      refine wn_ld (pc' := 111) (q := 0) (kin := 2) (v := .ref (2)) rfl (fun _ _ _ => rfl) rfl rfl ?_
                      refine wn_get (pc' := 114) (v := .int (nI (1))) rfl rfl o_h29 rfl ?_
                      refine wn_ifc (t := 151) (f := 117) rfl rfl rfl (fun c34 => ?_) (fun c34 => ?_)
                      · have c34 : ¬ ((nI (1))) = 0 := c34
                        have eR : LawR t n f0 p w (.inl (1, tkF t n pb)) := Or.inl ⟨w_h1, Or.inl ⟨w_h3, Or.inl ⟨w_h5, Or.inl ⟨w_h7, Or.inl ⟨w_h9, Or.inl ⟨w_h11, ⟨_, sm_h13, Or.inl ⟨w_h22, ⟨_, sm_h24, ((pI_f w_h29).symm)⟩⟩⟩⟩⟩⟩⟩⟩⟩
                        exact wn_vret rfl rfl ⟨rfl, FrL.f2 fl_h24 fr_h29, _, eR, CS_l (show ¬ nI 1 = 0 by decide) hpb o_h29 ((R1_h24.s R2_h24).kp (fun k p1 p2 => fr2 fr_h29 (by omega)))⟩
                      · have c34 : ((nI (1))) = 0 := c34
                        exact absurd c34 (show ¬ nI 1 = 0 by decide)
                · have fr_h22 := Fr.tr (Fr.rfl' [2] h13) f_h22 (fun _ q => q)
                  have := tkF_le (t := t) (p := (tkA t n pa)) (tkA_le hpa)
                  have := tkA_ge (t := t) (n := n) (p := (tkA t n pa))
                  have := tkA_le (t := t) (p := (tkA t n pa)) (tkA_le hpa)
                  have := tkK_le (t := t) (n := n) (p := (tkA t n pa))
                  have l9 := litL4
                  have g9 := wd_gt w_h22
                  show Wn _ _ 87 _ [.int (nI (1))] h22 _
                  refine wn_st (pc' := 89) (q := 7) (kin := 0) (lv' := [(0, .ref (2)), (1, .int (nI (f0))), (2, .int (nI (tkV t n p))), (3, .int (nI (vaW w (tkV t n p) - 1))), (4, .int (nI (tkV t n (tkA t n p)))), (5, .int (nI (tkV t n (tkA t n (tkA t n (tkA t n p)))))), (6, .int (nI (npW w))), (7, .int (nI (1)))]) rfl (fun _ _ _ => rfl) rfl (Nat.le_of_ble_eq_true rfl) rfl ?_
                  refine wn_ld (pc' := 90) (q := 0) (kin := 2) (v := .ref (2)) rfl (fun _ _ _ => rfl) rfl rfl ?_
                  refine wn_get (pc' := 93) (v := .ref (lr)) rfl rfl o_h22 rfl ?_
                  refine wn_get (pc' := 96) (v := .ref (lr + 9)) rfl rfl ((fr2 fr_h22 (by omega)).trans l0a) rfl ?_
                  refine wn_get (pc' := 99) (v := .int (nI (npW wa))) rfl rfl ((fr2 fr_h22 (by omega)).trans k1a) rfl ?_
                  refine wn_st (pc' := 101) (q := 8) (kin := 0) (lv' := [(0, .ref (2)), (1, .int (nI (f0))), (2, .int (nI (tkV t n p))), (3, .int (nI (vaW w (tkV t n p) - 1))), (4, .int (nI (tkV t n (tkA t n p)))), (5, .int (nI (tkV t n (tkA t n (tkA t n (tkA t n p)))))), (6, .int (nI (npW w))), (7, .int (nI (1))), (8, .int (nI (npW wa)))]) rfl (fun _ _ _ => rfl) rfl (Nat.le_of_ble_eq_true rfl) rfl ?_
                  refine wn_ld (pc' := 102) (q := 0) (kin := 2) (v := .ref (2)) rfl (fun _ _ _ => rfl) rfl rfl ?_
                  refine wn_ld (pc' := 103) (q := 3) (kin := 0) (v := .int (nI (vaW w (tkV t n p) - 1))) rfl (fun _ _ _ => rfl) rfl rfl ?_
                  refine wn_virS (pc' := 106) rfl rfl (by decide) rfl rfl o_h22 (Nat.le_of_ble_eq_true rfl) (x_readSum _ _ t ct n (tkA t n pa) lr wa hn (tkA_le hpa) hlr Ja ((fr2 fr_h22 (by decide)).trans ((fl_h13.2 1 (by decide) (by omega)).trans o1)) o1v o_h22 (R1_h13.kp (fun k p1 p2 => fr2 fr_h22 (by omega))) (R2_h13.kp (fun k p1 p2 => fr2 fr_h22 (by omega))) (by omega) 4 rfl (by omega) (nI (vaW w (tkV t n p) - 1)) (((vaW w (tkV t n p) : Nat) : Int) - 1) (pre1 (by omega) (by omega)) (by omega)) (fun r9 h35 e36 => ?_)
                  obtain ⟨rfl, fl0_h35, r_h35, sm_h35, CS_h35⟩ := e36
                  have fl_h35 := FrL.tr (FrL.f2 fl_h13 fr_h22) fl0_h35
                  rcases r_h35 with e9b | ⟨pb, wb⟩
                  · obtain ⟨hb_h35, p_h35, hp_h35, o_h35, S_h35⟩ := CS_h35
                    have := tkF_le (t := t) (p := p_h35) hp_h35
                    have := tkA_ge (t := t) (n := n) (p := p_h35)
                    have := tkA_le (t := t) (p := p_h35) hp_h35
                    have := tkK_le (t := t) (n := n) (p := p_h35)
                    obtain ⟨x0, x1, x2, x3, x4, x5, sz9, rf9, rt9, rv9, ag9, vr9, sd9, tl9, it9, fi9, se9, sg9, ls9, rs9, rp9, pj9, pk9, pv9, d0, d1, d2, d3, d4, d5, d6, d7, d8, d9, d10, _⟩ := id S_h35
                    show Wn _ _ 106 _ [] h35 _
                    refine wn_ld (pc' := 107) (q := 0) (kin := 2) (v := .ref (2)) rfl (fun _ _ _ => rfl) rfl rfl ?_
                    refine wn_virS (pc' := 110) rfl rfl (by decide) rfl rfl o_h35 (Nat.le_of_ble_eq_true rfl) (x_takeStopB _ _ t ct n p_h35 lr (nI (e9b.1)) (nI (e9b.2)) hn hp_h35 ((fl_h35.2 1 (by decide) (by omega)).trans o1) o1v o_h35 hb_h35) (fun r9 h37 e38 => ?_)
                    obtain ⟨rfl, f_h37, p_h37, hp_h37, o_h37⟩ := e38
                    have fr_h37 := Fr.tr (Fr.rfl' [2] h35) f_h37 (fun _ q => q)
                    show Wn _ _ 110 _ [] h37 _
                    refine wn_ld (pc' := 111) (q := 0) (kin := 2) (v := .ref (2)) rfl (fun _ _ _ => rfl) rfl rfl ?_
                    refine wn_get (pc' := 114) (v := .int (nI (e9b.1))) rfl rfl o_h37 rfl ?_
                    refine wn_ifc (t := 151) (f := 117) rfl rfl rfl (fun c39 => ?_) (fun c39 => ?_)
                    · have c39 : ¬ ((nI (e9b.1))) = 0 := c39
                      have eR : LawR t n f0 p w (.inl (e9b.1, e9b.2)) := Or.inl ⟨w_h1, Or.inl ⟨w_h3, Or.inl ⟨w_h5, Or.inl ⟨w_h7, Or.inl ⟨w_h9, Or.inl ⟨w_h11, ⟨_, sm_h13, Or.inr (Or.inl ⟨w_h22, ⟨_, sm_h35, rfl⟩⟩)⟩⟩⟩⟩⟩⟩⟩
                      exact wn_vret rfl rfl ⟨rfl, FrL.f2 fl_h35 fr_h37, _, eR, CS_l hb_h35 hp_h37 o_h37 (S_h35.kp (fun k p1 p2 => fr2 fr_h37 (by omega)))⟩
                    · have c39 : ((nI (e9b.1))) = 0 := c39
                      exact absurd c39 hb_h35
                  · obtain ⟨Jb, Sb, yb1, yb2, hpb⟩ := SumR_i (by omega) hn sm_h35 Ja (by omega) (tkA_le hpa)
                    have Jb : WJ wb := Jb
                    have Sb : SmJ 4 wa wb := Sb
                    have yb1 : 5 * npW wb ≤ pb := yb1
                    have yb2 : tkA t n pa < pb := yb2
                    have hpb : pb ≤ n := hpb
                    have tb := Sb.nt
                    have ub := Sb.nl
                    have vb := Sb.va (i := tkV t n p) (by omega)
                    obtain ⟨o_h35, R1_h35, R2_h35⟩ := CS_h35
                    obtain ⟨szb, rfb, rtb, rvb, agb, vrb, sdb, tlb, l0b, l1b, l2b, l3b, l4b, l5b, l6b, l7b, l8b, g1b, g2b, g3b, g4b, g5b⟩ := id R1_h35
                    obtain ⟨secb, itb, fib, seb, sgb, lstb, rsb, rpb, pjb, pkb, pvb, k0b, k1b, k2b, k3b, k4b, k5b, k6b, k7b, k8b, k9b, k10b, k11b, k12b, k13b⟩ := id R2_h35
                    obtain ⟨e0b, e0bb⟩ := wj_0 Jb
                    obtain ⟨⟨e1b, e2b⟩, ⟨e3b, e4b⟩, ⟨e5b, e6b⟩⟩ := Wf_n Jb.wf
                    obtain ⟨⟨e7b, e8b⟩, ⟨e9b, e10b⟩⟩ := Wf_m Jb.wf
                    rw [e0b, e1b, e3b, e5b] at l0b
                    rw [e7b, e9b] at k1b
                    have := tkF_le (t := t) (p := pb) hpb
                    have := tkA_ge (t := t) (n := n) (p := pb)
                    have := tkA_le (t := t) (p := pb) hpb
                    have := tkK_le (t := t) (n := n) (p := pb)
                    show Wn _ _ 106 _ [] h35 _
                    refine wn_ld (pc' := 107) (q := 0) (kin := 2) (v := .ref (2)) rfl (fun _ _ _ => rfl) rfl rfl ?_
                    refine wn_virS (pc' := 110) rfl rfl (by decide) rfl rfl o_h35 (Nat.le_of_ble_eq_true rfl) (x_takeStop0 _ _ t ct n pb lr hn hpb ((fl_h35.2 1 (by decide) (by omega)).trans o1) o1v o_h35) (fun r9 h40 e41 => ?_)
                    obtain ⟨rfl, f_h40, ⟨w_h40, o_h40⟩ | ⟨w_h40, o_h40⟩⟩ := e41
                    · have fr_h40 := Fr.tr (Fr.rfl' [2] h35) f_h40 (fun _ q => q)
                      have := tkF_le (t := t) (p := (tkA t n pb)) (tkA_le hpb)
                      have := tkA_ge (t := t) (n := n) (p := (tkA t n pb))
                      have := tkA_le (t := t) (p := (tkA t n pb)) (tkA_le hpb)
                      have := tkK_le (t := t) (n := n) (p := (tkA t n pb))
                      show Wn _ _ 110 _ [] h40 _
                      refine wn_ld (pc' := 111) (q := 0) (kin := 2) (v := .ref (2)) rfl (fun _ _ _ => rfl) rfl rfl ?_
                      refine wn_get (pc' := 114) (v := .int (nI (0))) rfl rfl o_h40 rfl ?_
                      refine wn_ifN (t := 151) (f := 117) rfl rfl rfl (by omega) (fun c42 => ?_) (fun c42 => ?_)
                      · have c42 : ¬ 0 = 0 := c42
                        exact absurd c42 (by decide)
                      · have c42 : 0 = 0 := c42
                        refine wn_ld (pc' := 118) (q := 0) (kin := 2) (v := .ref (2)) rfl (fun _ _ _ => rfl) rfl rfl ?_
                        refine wn_get (pc' := 121) (v := .ref (lr)) rfl rfl o_h40 rfl ?_
                        refine wn_get (pc' := 124) (v := .ref (lr + 9)) rfl rfl ((fr2 fr_h40 (by omega)).trans l0b) rfl ?_
                        refine wn_ld (pc' := 125) (q := 2) (kin := 0) (v := .int (nI (tkV t n p))) rfl (fun _ _ _ => rfl) rfl rfl ?_
                        refine wn_ld (pc' := 127) (q := 4) (kin := 0) (v := .int (nI (tkV t n (tkA t n p)))) rfl (fun _ _ _ => rfl) rfl rfl ?_
                        refine wn_ld (pc' := 129) (q := 5) (kin := 0) (v := .int (nI (tkV t n (tkA t n (tkA t n (tkA t n p)))))) rfl (fun _ _ _ => rfl) rfl rfl ?_
                        refine wn_ld (pc' := 131) (q := 7) (kin := 0) (v := .int (nI (1))) rfl (fun _ _ _ => rfl) rfl rfl ?_
                        refine wn_ld (pc' := 133) (q := 6) (kin := 0) (v := .int (nI (npW w))) rfl (fun _ _ _ => rfl) rfl rfl ?_
                        refine wn_ld (pc' := 135) (q := 8) (kin := 0) (v := .int (nI (npW wa))) rfl (fun _ _ _ => rfl) rfl rfl ?_
                        refine wn_virS (pc' := 138) rfl rfl (by decide) rfl rfl ((fr2 fr_h40 (by omega)).trans k1b) (Nat.le_of_ble_eq_true rfl) (x_addLaw0 _ _ lr wb Jb (tkV t n p) (tkV t n (tkA t n p)) (tkV t n (tkA t n (tkA t n (tkA t n p)))) 1 (npW w) (npW wa) (by omega) (by omega) (by omega) (by omega) (by omega) (Sa.lw Sb (by omega)) (R1_h35.kp (fun k p1 p2 => fr2 fr_h40 (by omega))) (R2_h35.kp (fun k p1 p2 => fr2 fr_h40 (by omega)))) (fun r9 h43 e44 => ?_)
                        obtain ⟨rfl, q_h43, L_h43, W_h43⟩ := e44
                        have J9 := Jb.law (i' := (tkV t n p)) (a := (tkV t n (tkA t n p))) (b := (tkV t n (tkA t n (tkA t n (tkA t n p))))) (s := 1) (bg := (npW w)) (by omega) (by omega) (by omega) (by omega) (by omega) (Sa.lw Sb (by omega))
                        obtain ⟨_, _, _, _, _, _, _, _, m0, _⟩ := id L_h43
                        rw [(wj_0 J9).1] at m0
                        show Wn _ _ 138 _ [] h43 _
                        refine wn_ld (pc' := 139) (q := 0) (kin := 2) (v := .ref (2)) rfl (fun _ _ _ => rfl) rfl rfl ?_
                        refine wn_get (pc' := 142) (v := .ref (lr)) rfl rfl ((q_h43.2 2 (by omega)).trans o_h40) rfl ?_
                        refine wn_pu (pc' := 143) (st' := [.ref (lr), .ref (lr)]) rfl (fun _ _ _ => rfl) rfl rfl ?_
                        refine wn_get (pc' := 146) (v := .int (nI (lcW (lawW wb (tkV t n p) (tkV t n (tkA t n p)) (tkV t n (tkA t n (tkA t n (tkA t n p)))) 1 (npW w))))) rfl rfl m0 rfl ?_
                        refine wn_ic (pc' := 147) (w := nI 1) rfl rfl (by decide) ?_
                        refine wn_addN (pc' := 148) rfl rfl ?_
                        refine wn_put (pc' := 151) rfl rfl m0 (Nat.le_of_ble_eq_true rfl) ⟨rfl, rfl⟩ ?_
                        show Wn _ _ 151 _ [] (h43.set lr (.inr (0, [.int (nI ((lcW (lawW wb (tkV t n p) (tkV t n (tkA t n p)) (tkV t n (tkA t n (tkA t n (tkA t n p)))) 1 (npW w))) + 1)), .int ((lawW wb (tkV t n p) (tkV t n (tkA t n p)) (tkV t n (tkA t n (tkA t n (tkA t n p)))) 1 (npW w)) 1), .int ((lawW wb (tkV t n p) (tkV t n (tkA t n p)) (tkV t n (tkA t n (tkA t n (tkA t n p)))) 1 (npW w)) 2), .int ((lawW wb (tkV t n p) (tkV t n (tkA t n p)) (tkV t n (tkA t n (tkA t n (tkA t n p)))) 1 (npW w)) 3), .ref (lr + 1), .ref (lr + 2), .ref (lr + 3), .ref (lr + 4), .ref (lr + 5), .ref (lr + 6), .ref (lr + 7), .ref (lr + 8), .ref (lr + 9)]))) _
                        have eR : LawR t n f0 p w (.inr (_, _)) := Or.inl ⟨w_h1, Or.inl ⟨w_h3, Or.inl ⟨w_h5, Or.inl ⟨w_h7, Or.inl ⟨w_h9, Or.inl ⟨w_h11, ⟨_, sm_h13, Or.inr (Or.inl ⟨w_h22, ⟨_, sm_h35, ((pI_t w_h40).symm)⟩⟩)⟩⟩⟩⟩⟩⟩⟩
                        refine wn_vret rfl rfl ⟨rfl, ?_, _, eR, CS_r (gs_ne (by omega) ((q_h43.2 2 (by omega)).trans o_h40)) (L_h43.lin J9) ((W_h43.lin J9).kp (fun k p1 p2 => List.getElem?_set_ne (by omega)))⟩
                        have fq := (FrL.f2 fl_h35 fr_h40).q q_h43
                        exact ⟨by rw [List.length_set]; exact fq.1, fun k a b => (List.getElem?_set_ne (by omega)).trans (fq.2 k a b)⟩
                    · have fr_h40 := Fr.tr (Fr.rfl' [2] h35) f_h40 (fun _ q => q)
                      show Wn _ _ 110 _ [] h40 _
                      refine wn_ld (pc' := 111) (q := 0) (kin := 2) (v := .ref (2)) rfl (fun _ _ _ => rfl) rfl rfl ?_
                      refine wn_get (pc' := 114) (v := .int (nI (1))) rfl rfl o_h40 rfl ?_
                      refine wn_ifc (t := 151) (f := 117) rfl rfl rfl (fun c45 => ?_) (fun c45 => ?_)
                      · have c45 : ¬ ((nI (1))) = 0 := c45
                        have eR : LawR t n f0 p w (.inl (1, tkF t n pb)) := Or.inl ⟨w_h1, Or.inl ⟨w_h3, Or.inl ⟨w_h5, Or.inl ⟨w_h7, Or.inl ⟨w_h9, Or.inl ⟨w_h11, ⟨_, sm_h13, Or.inr (Or.inl ⟨w_h22, ⟨_, sm_h35, ((pI_f w_h40).symm)⟩⟩)⟩⟩⟩⟩⟩⟩⟩
                        exact wn_vret rfl rfl ⟨rfl, FrL.f2 fl_h35 fr_h40, _, eR, CS_l (show ¬ nI 1 = 0 by decide) hpb o_h40 ((R1_h35.s R2_h35).kp (fun k p1 p2 => fr2 fr_h40 (by omega)))⟩
                      · have c45 : ((nI (1))) = 0 := c45
                        exact absurd c45 (show ¬ nI 1 = 0 by decide)
                · have fr_h22 := Fr.tr (Fr.rfl' [2] h13) f_h22 (fun _ q => q)
                  have := tkF_le (t := t) (p := (tkA t n pa)) (tkA_le hpa)
                  have := tkA_ge (t := t) (n := n) (p := (tkA t n pa))
                  have := tkA_le (t := t) (p := (tkA t n pa)) (tkA_le hpa)
                  have := tkK_le (t := t) (n := n) (p := (tkA t n pa))
                  have l9 := litL4
                  have g9 := wd_gt w_h22
                  show Wn _ _ 87 _ [.int (nI (2))] h22 _
                  refine wn_st (pc' := 89) (q := 7) (kin := 0) (lv' := [(0, .ref (2)), (1, .int (nI (f0))), (2, .int (nI (tkV t n p))), (3, .int (nI (vaW w (tkV t n p) - 1))), (4, .int (nI (tkV t n (tkA t n p)))), (5, .int (nI (tkV t n (tkA t n (tkA t n (tkA t n p)))))), (6, .int (nI (npW w))), (7, .int (nI (2)))]) rfl (fun _ _ _ => rfl) rfl (Nat.le_of_ble_eq_true rfl) rfl ?_
                  refine wn_ld (pc' := 90) (q := 0) (kin := 2) (v := .ref (2)) rfl (fun _ _ _ => rfl) rfl rfl ?_
                  refine wn_get (pc' := 93) (v := .ref (lr)) rfl rfl o_h22 rfl ?_
                  refine wn_get (pc' := 96) (v := .ref (lr + 9)) rfl rfl ((fr2 fr_h22 (by omega)).trans l0a) rfl ?_
                  refine wn_get (pc' := 99) (v := .int (nI (npW wa))) rfl rfl ((fr2 fr_h22 (by omega)).trans k1a) rfl ?_
                  refine wn_st (pc' := 101) (q := 8) (kin := 0) (lv' := [(0, .ref (2)), (1, .int (nI (f0))), (2, .int (nI (tkV t n p))), (3, .int (nI (vaW w (tkV t n p) - 1))), (4, .int (nI (tkV t n (tkA t n p)))), (5, .int (nI (tkV t n (tkA t n (tkA t n (tkA t n p)))))), (6, .int (nI (npW w))), (7, .int (nI (2))), (8, .int (nI (npW wa)))]) rfl (fun _ _ _ => rfl) rfl (Nat.le_of_ble_eq_true rfl) rfl ?_
                  refine wn_ld (pc' := 102) (q := 0) (kin := 2) (v := .ref (2)) rfl (fun _ _ _ => rfl) rfl rfl ?_
                  refine wn_ld (pc' := 103) (q := 3) (kin := 0) (v := .int (nI (vaW w (tkV t n p) - 1))) rfl (fun _ _ _ => rfl) rfl rfl ?_
                  refine wn_virS (pc' := 106) rfl rfl (by decide) rfl rfl o_h22 (Nat.le_of_ble_eq_true rfl) (x_readSum _ _ t ct n (tkA t n pa) lr wa hn (tkA_le hpa) hlr Ja ((fr2 fr_h22 (by decide)).trans ((fl_h13.2 1 (by decide) (by omega)).trans o1)) o1v o_h22 (R1_h13.kp (fun k p1 p2 => fr2 fr_h22 (by omega))) (R2_h13.kp (fun k p1 p2 => fr2 fr_h22 (by omega))) (by omega) 4 rfl (by omega) (nI (vaW w (tkV t n p) - 1)) (((vaW w (tkV t n p) : Nat) : Int) - 1) (pre1 (by omega) (by omega)) (by omega)) (fun r9 h46 e47 => ?_)
                  obtain ⟨rfl, fl0_h46, r_h46, sm_h46, CS_h46⟩ := e47
                  have fl_h46 := FrL.tr (FrL.f2 fl_h13 fr_h22) fl0_h46
                  rcases r_h46 with e9b | ⟨pb, wb⟩
                  · obtain ⟨hb_h46, p_h46, hp_h46, o_h46, S_h46⟩ := CS_h46
                    have := tkF_le (t := t) (p := p_h46) hp_h46
                    have := tkA_ge (t := t) (n := n) (p := p_h46)
                    have := tkA_le (t := t) (p := p_h46) hp_h46
                    have := tkK_le (t := t) (n := n) (p := p_h46)
                    obtain ⟨x0, x1, x2, x3, x4, x5, sz9, rf9, rt9, rv9, ag9, vr9, sd9, tl9, it9, fi9, se9, sg9, ls9, rs9, rp9, pj9, pk9, pv9, d0, d1, d2, d3, d4, d5, d6, d7, d8, d9, d10, _⟩ := id S_h46
                    show Wn _ _ 106 _ [] h46 _
                    refine wn_ld (pc' := 107) (q := 0) (kin := 2) (v := .ref (2)) rfl (fun _ _ _ => rfl) rfl rfl ?_
                    refine wn_virS (pc' := 110) rfl rfl (by decide) rfl rfl o_h46 (Nat.le_of_ble_eq_true rfl) (x_takeStopB _ _ t ct n p_h46 lr (nI (e9b.1)) (nI (e9b.2)) hn hp_h46 ((fl_h46.2 1 (by decide) (by omega)).trans o1) o1v o_h46 hb_h46) (fun r9 h48 e49 => ?_)
                    obtain ⟨rfl, f_h48, p_h48, hp_h48, o_h48⟩ := e49
                    have fr_h48 := Fr.tr (Fr.rfl' [2] h46) f_h48 (fun _ q => q)
                    show Wn _ _ 110 _ [] h48 _
                    refine wn_ld (pc' := 111) (q := 0) (kin := 2) (v := .ref (2)) rfl (fun _ _ _ => rfl) rfl rfl ?_
                    refine wn_get (pc' := 114) (v := .int (nI (e9b.1))) rfl rfl o_h48 rfl ?_
                    refine wn_ifc (t := 151) (f := 117) rfl rfl rfl (fun c50 => ?_) (fun c50 => ?_)
                    · have c50 : ¬ ((nI (e9b.1))) = 0 := c50
                      have eR : LawR t n f0 p w (.inl (e9b.1, e9b.2)) := Or.inl ⟨w_h1, Or.inl ⟨w_h3, Or.inl ⟨w_h5, Or.inl ⟨w_h7, Or.inl ⟨w_h9, Or.inl ⟨w_h11, ⟨_, sm_h13, Or.inr (Or.inr (Or.inl ⟨w_h22, ⟨_, sm_h46, rfl⟩⟩))⟩⟩⟩⟩⟩⟩⟩
                      exact wn_vret rfl rfl ⟨rfl, FrL.f2 fl_h46 fr_h48, _, eR, CS_l hb_h46 hp_h48 o_h48 (S_h46.kp (fun k p1 p2 => fr2 fr_h48 (by omega)))⟩
                    · have c50 : ((nI (e9b.1))) = 0 := c50
                      exact absurd c50 hb_h46
                  · obtain ⟨Jb, Sb, yb1, yb2, hpb⟩ := SumR_i (by omega) hn sm_h46 Ja (by omega) (tkA_le hpa)
                    have Jb : WJ wb := Jb
                    have Sb : SmJ 4 wa wb := Sb
                    have yb1 : 5 * npW wb ≤ pb := yb1
                    have yb2 : tkA t n pa < pb := yb2
                    have hpb : pb ≤ n := hpb
                    have tb := Sb.nt
                    have ub := Sb.nl
                    have vb := Sb.va (i := tkV t n p) (by omega)
                    obtain ⟨o_h46, R1_h46, R2_h46⟩ := CS_h46
                    obtain ⟨szb, rfb, rtb, rvb, agb, vrb, sdb, tlb, l0b, l1b, l2b, l3b, l4b, l5b, l6b, l7b, l8b, g1b, g2b, g3b, g4b, g5b⟩ := id R1_h46
                    obtain ⟨secb, itb, fib, seb, sgb, lstb, rsb, rpb, pjb, pkb, pvb, k0b, k1b, k2b, k3b, k4b, k5b, k6b, k7b, k8b, k9b, k10b, k11b, k12b, k13b⟩ := id R2_h46
                    obtain ⟨e0b, e0bb⟩ := wj_0 Jb
                    obtain ⟨⟨e1b, e2b⟩, ⟨e3b, e4b⟩, ⟨e5b, e6b⟩⟩ := Wf_n Jb.wf
                    obtain ⟨⟨e7b, e8b⟩, ⟨e9b, e10b⟩⟩ := Wf_m Jb.wf
                    rw [e0b, e1b, e3b, e5b] at l0b
                    rw [e7b, e9b] at k1b
                    have := tkF_le (t := t) (p := pb) hpb
                    have := tkA_ge (t := t) (n := n) (p := pb)
                    have := tkA_le (t := t) (p := pb) hpb
                    have := tkK_le (t := t) (n := n) (p := pb)
                    show Wn _ _ 106 _ [] h46 _
                    refine wn_ld (pc' := 107) (q := 0) (kin := 2) (v := .ref (2)) rfl (fun _ _ _ => rfl) rfl rfl ?_
                    refine wn_virS (pc' := 110) rfl rfl (by decide) rfl rfl o_h46 (Nat.le_of_ble_eq_true rfl) (x_takeStop0 _ _ t ct n pb lr hn hpb ((fl_h46.2 1 (by decide) (by omega)).trans o1) o1v o_h46) (fun r9 h51 e52 => ?_)
                    obtain ⟨rfl, f_h51, ⟨w_h51, o_h51⟩ | ⟨w_h51, o_h51⟩⟩ := e52
                    · have fr_h51 := Fr.tr (Fr.rfl' [2] h46) f_h51 (fun _ q => q)
                      have := tkF_le (t := t) (p := (tkA t n pb)) (tkA_le hpb)
                      have := tkA_ge (t := t) (n := n) (p := (tkA t n pb))
                      have := tkA_le (t := t) (p := (tkA t n pb)) (tkA_le hpb)
                      have := tkK_le (t := t) (n := n) (p := (tkA t n pb))
                      show Wn _ _ 110 _ [] h51 _
                      refine wn_ld (pc' := 111) (q := 0) (kin := 2) (v := .ref (2)) rfl (fun _ _ _ => rfl) rfl rfl ?_
                      refine wn_get (pc' := 114) (v := .int (nI (0))) rfl rfl o_h51 rfl ?_
                      refine wn_ifN (t := 151) (f := 117) rfl rfl rfl (by omega) (fun c53 => ?_) (fun c53 => ?_)
                      · have c53 : ¬ 0 = 0 := c53
                        exact absurd c53 (by decide)
                      · have c53 : 0 = 0 := c53
                        refine wn_ld (pc' := 118) (q := 0) (kin := 2) (v := .ref (2)) rfl (fun _ _ _ => rfl) rfl rfl ?_
                        refine wn_get (pc' := 121) (v := .ref (lr)) rfl rfl o_h51 rfl ?_
                        refine wn_get (pc' := 124) (v := .ref (lr + 9)) rfl rfl ((fr2 fr_h51 (by omega)).trans l0b) rfl ?_
                        refine wn_ld (pc' := 125) (q := 2) (kin := 0) (v := .int (nI (tkV t n p))) rfl (fun _ _ _ => rfl) rfl rfl ?_
                        refine wn_ld (pc' := 127) (q := 4) (kin := 0) (v := .int (nI (tkV t n (tkA t n p)))) rfl (fun _ _ _ => rfl) rfl rfl ?_
                        refine wn_ld (pc' := 129) (q := 5) (kin := 0) (v := .int (nI (tkV t n (tkA t n (tkA t n (tkA t n p)))))) rfl (fun _ _ _ => rfl) rfl rfl ?_
                        refine wn_ld (pc' := 131) (q := 7) (kin := 0) (v := .int (nI (2))) rfl (fun _ _ _ => rfl) rfl rfl ?_
                        refine wn_ld (pc' := 133) (q := 6) (kin := 0) (v := .int (nI (npW w))) rfl (fun _ _ _ => rfl) rfl rfl ?_
                        refine wn_ld (pc' := 135) (q := 8) (kin := 0) (v := .int (nI (npW wa))) rfl (fun _ _ _ => rfl) rfl rfl ?_
                        refine wn_virS (pc' := 138) rfl rfl (by decide) rfl rfl ((fr2 fr_h51 (by omega)).trans k1b) (Nat.le_of_ble_eq_true rfl) (x_addLaw0 _ _ lr wb Jb (tkV t n p) (tkV t n (tkA t n p)) (tkV t n (tkA t n (tkA t n (tkA t n p)))) 2 (npW w) (npW wa) (by omega) (by omega) (by omega) (by omega) (by omega) (Sa.lw Sb (by omega)) (R1_h46.kp (fun k p1 p2 => fr2 fr_h51 (by omega))) (R2_h46.kp (fun k p1 p2 => fr2 fr_h51 (by omega)))) (fun r9 h54 e55 => ?_)
                        obtain ⟨rfl, q_h54, L_h54, W_h54⟩ := e55
                        have J9 := Jb.law (i' := (tkV t n p)) (a := (tkV t n (tkA t n p))) (b := (tkV t n (tkA t n (tkA t n (tkA t n p))))) (s := 2) (bg := (npW w)) (by omega) (by omega) (by omega) (by omega) (by omega) (Sa.lw Sb (by omega))
                        obtain ⟨_, _, _, _, _, _, _, _, m0, _⟩ := id L_h54
                        rw [(wj_0 J9).1] at m0
                        show Wn _ _ 138 _ [] h54 _
                        refine wn_ld (pc' := 139) (q := 0) (kin := 2) (v := .ref (2)) rfl (fun _ _ _ => rfl) rfl rfl ?_
                        refine wn_get (pc' := 142) (v := .ref (lr)) rfl rfl ((q_h54.2 2 (by omega)).trans o_h51) rfl ?_
                        refine wn_pu (pc' := 143) (st' := [.ref (lr), .ref (lr)]) rfl (fun _ _ _ => rfl) rfl rfl ?_
                        refine wn_get (pc' := 146) (v := .int (nI (lcW (lawW wb (tkV t n p) (tkV t n (tkA t n p)) (tkV t n (tkA t n (tkA t n (tkA t n p)))) 2 (npW w))))) rfl rfl m0 rfl ?_
                        refine wn_ic (pc' := 147) (w := nI 1) rfl rfl (by decide) ?_
                        refine wn_addN (pc' := 148) rfl rfl ?_
                        refine wn_put (pc' := 151) rfl rfl m0 (Nat.le_of_ble_eq_true rfl) ⟨rfl, rfl⟩ ?_
                        show Wn _ _ 151 _ [] (h54.set lr (.inr (0, [.int (nI ((lcW (lawW wb (tkV t n p) (tkV t n (tkA t n p)) (tkV t n (tkA t n (tkA t n (tkA t n p)))) 2 (npW w))) + 1)), .int ((lawW wb (tkV t n p) (tkV t n (tkA t n p)) (tkV t n (tkA t n (tkA t n (tkA t n p)))) 2 (npW w)) 1), .int ((lawW wb (tkV t n p) (tkV t n (tkA t n p)) (tkV t n (tkA t n (tkA t n (tkA t n p)))) 2 (npW w)) 2), .int ((lawW wb (tkV t n p) (tkV t n (tkA t n p)) (tkV t n (tkA t n (tkA t n (tkA t n p)))) 2 (npW w)) 3), .ref (lr + 1), .ref (lr + 2), .ref (lr + 3), .ref (lr + 4), .ref (lr + 5), .ref (lr + 6), .ref (lr + 7), .ref (lr + 8), .ref (lr + 9)]))) _
                        have eR : LawR t n f0 p w (.inr (_, _)) := Or.inl ⟨w_h1, Or.inl ⟨w_h3, Or.inl ⟨w_h5, Or.inl ⟨w_h7, Or.inl ⟨w_h9, Or.inl ⟨w_h11, ⟨_, sm_h13, Or.inr (Or.inr (Or.inl ⟨w_h22, ⟨_, sm_h46, ((pI_t w_h51).symm)⟩⟩))⟩⟩⟩⟩⟩⟩⟩
                        refine wn_vret rfl rfl ⟨rfl, ?_, _, eR, CS_r (gs_ne (by omega) ((q_h54.2 2 (by omega)).trans o_h51)) (L_h54.lin J9) ((W_h54.lin J9).kp (fun k p1 p2 => List.getElem?_set_ne (by omega)))⟩
                        have fq := (FrL.f2 fl_h46 fr_h51).q q_h54
                        exact ⟨by rw [List.length_set]; exact fq.1, fun k a b => (List.getElem?_set_ne (by omega)).trans (fq.2 k a b)⟩
                    · have fr_h51 := Fr.tr (Fr.rfl' [2] h46) f_h51 (fun _ q => q)
                      show Wn _ _ 110 _ [] h51 _
                      refine wn_ld (pc' := 111) (q := 0) (kin := 2) (v := .ref (2)) rfl (fun _ _ _ => rfl) rfl rfl ?_
                      refine wn_get (pc' := 114) (v := .int (nI (1))) rfl rfl o_h51 rfl ?_
                      refine wn_ifc (t := 151) (f := 117) rfl rfl rfl (fun c56 => ?_) (fun c56 => ?_)
                      · have c56 : ¬ ((nI (1))) = 0 := c56
                        have eR : LawR t n f0 p w (.inl (1, tkF t n pb)) := Or.inl ⟨w_h1, Or.inl ⟨w_h3, Or.inl ⟨w_h5, Or.inl ⟨w_h7, Or.inl ⟨w_h9, Or.inl ⟨w_h11, ⟨_, sm_h13, Or.inr (Or.inr (Or.inl ⟨w_h22, ⟨_, sm_h46, ((pI_f w_h51).symm)⟩⟩))⟩⟩⟩⟩⟩⟩⟩
                        exact wn_vret rfl rfl ⟨rfl, FrL.f2 fl_h46 fr_h51, _, eR, CS_l (show ¬ nI 1 = 0 by decide) hpb o_h51 ((R1_h46.s R2_h46).kp (fun k p1 p2 => fr2 fr_h51 (by omega)))⟩
                      · have c56 : ((nI (1))) = 0 := c56
                        exact absurd c56 (show ¬ nI 1 = 0 by decide)
                · have fr_h22 := Fr.tr (Fr.rfl' [2] h13) f_h22 (fun _ q => q)
                  show Wn _ _ 87 _ [.int (nI (2))] h22 _
                  refine wn_st (pc' := 89) (q := 7) (kin := 0) (lv' := [(0, .ref (2)), (1, .int (nI (f0))), (2, .int (nI (tkV t n p))), (3, .int (nI (vaW w (tkV t n p) - 1))), (4, .int (nI (tkV t n (tkA t n p)))), (5, .int (nI (tkV t n (tkA t n (tkA t n (tkA t n p)))))), (6, .int (nI (npW w))), (7, .int (nI (2)))]) rfl (fun _ _ _ => rfl) rfl (Nat.le_of_ble_eq_true rfl) rfl ?_
                  refine wn_ld (pc' := 90) (q := 0) (kin := 2) (v := .ref (2)) rfl (fun _ _ _ => rfl) rfl rfl ?_
                  refine wn_get (pc' := 93) (v := .ref (lr)) rfl rfl o_h22 rfl ?_
                  refine wn_get (pc' := 96) (v := .ref (lr + 9)) rfl rfl ((fr2 fr_h22 (by omega)).trans l0a) rfl ?_
                  refine wn_get (pc' := 99) (v := .int (nI (npW wa))) rfl rfl ((fr2 fr_h22 (by omega)).trans k1a) rfl ?_
                  refine wn_st (pc' := 101) (q := 8) (kin := 0) (lv' := [(0, .ref (2)), (1, .int (nI (f0))), (2, .int (nI (tkV t n p))), (3, .int (nI (vaW w (tkV t n p) - 1))), (4, .int (nI (tkV t n (tkA t n p)))), (5, .int (nI (tkV t n (tkA t n (tkA t n (tkA t n p)))))), (6, .int (nI (npW w))), (7, .int (nI (2))), (8, .int (nI (npW wa)))]) rfl (fun _ _ _ => rfl) rfl (Nat.le_of_ble_eq_true rfl) rfl ?_
                  refine wn_ld (pc' := 102) (q := 0) (kin := 2) (v := .ref (2)) rfl (fun _ _ _ => rfl) rfl rfl ?_
                  refine wn_ld (pc' := 103) (q := 3) (kin := 0) (v := .int (nI (vaW w (tkV t n p) - 1))) rfl (fun _ _ _ => rfl) rfl rfl ?_
                  refine wn_virS (pc' := 106) rfl rfl (by decide) rfl rfl o_h22 (Nat.le_of_ble_eq_true rfl) (x_readSumB _ _ lr _ _ _ _ _ _ _ o_h22 (show ¬ nI 1 = 0 by decide) (nI (vaW w (tkV t n p) - 1))) (fun r9 h57 e58 => ?_)
                  obtain ⟨rfl, e9⟩ := e58
                  rw [e9]
                  show Wn _ _ 106 _ [] h22 _
                  refine wn_ld (pc' := 107) (q := 0) (kin := 2) (v := .ref (2)) rfl (fun _ _ _ => rfl) rfl rfl ?_
                  refine wn_virS (pc' := 110) rfl rfl (by decide) rfl rfl o_h22 (Nat.le_of_ble_eq_true rfl) (x_takeStopB _ _ t ct n pa lr (nI 1) (nI (tkF t n pa)) hn hpa ((fr2 fr_h22 (by decide)).trans ((fl_h13.2 1 (by decide) (by omega)).trans o1)) o1v o_h22 (show ¬ nI 1 = 0 by decide)) (fun r9 h59 e60 => ?_)
                  obtain ⟨rfl, f_h59, p_h59, hp_h59, o_h59⟩ := e60
                  have fr_h59 := Fr.tr fr_h22 f_h59 (fun _ q => q)
                  show Wn _ _ 110 _ [] h59 _
                  refine wn_ld (pc' := 111) (q := 0) (kin := 2) (v := .ref (2)) rfl (fun _ _ _ => rfl) rfl rfl ?_
                  refine wn_get (pc' := 114) (v := .int (nI 1)) rfl rfl o_h59 rfl ?_
                  refine wn_ifc (t := 151) (f := 117) rfl rfl rfl (fun c61 => ?_) (fun c61 => ?_)
                  · have c61 : ¬ ((nI 1)) = 0 := c61
                    have eR : LawR t n f0 p w (.inl (1, tkF t n pa)) := Or.inl ⟨w_h1, Or.inl ⟨w_h3, Or.inl ⟨w_h5, Or.inl ⟨w_h7, Or.inl ⟨w_h9, Or.inl ⟨w_h11, ⟨_, sm_h13, Or.inr (Or.inr (Or.inr ⟨⟨w_h22, w2_h22, w3_h22⟩, rfl⟩))⟩⟩⟩⟩⟩⟩⟩
                    exact wn_vret rfl rfl ⟨rfl, FrL.f2 fl_h13 fr_h59, _, eR, CS_l (show ¬ nI 1 = 0 by decide) hp_h59 o_h59 ((R1_h13.s R2_h13).kp (fun k p1 p2 => fr2 fr_h59 (by omega)))⟩
                  · have c61 : ((nI 1)) = 0 := c61
                    exact absurd c61 (show ¬ nI 1 = 0 by decide)
            · have fr_h11 := Fr.tr fr_h9 f_h11 (fun _ q => q)
              show Wn _ _ 66 _ [] h11 _
              refine wn_ld (pc' := 67) (q := 0) (kin := 2) (v := .ref (2)) rfl (fun _ _ _ => rfl) rfl rfl ?_
              refine wn_get (pc' := 70) (v := .ref (lr)) rfl rfl o_h11 rfl ?_
              refine wn_get (pc' := 73) (v := .ref (lr + 9)) rfl rfl ((fr2 fr_h11 (by omega)).trans l0) rfl ?_
              refine wn_get (pc' := 76) (v := .int (nI (npW w))) rfl rfl ((fr2 fr_h11 (by omega)).trans k1) rfl ?_
              refine wn_st (pc' := 78) (q := 6) (kin := 0) (lv' := [(0, .ref (2)), (1, .int (nI (f0))), (2, .int (nI (tkV t n p))), (3, .int (nI (vaW w (tkV t n p) - 1))), (4, .int (nI (tkV t n (tkA t n p)))), (5, .int (nI (tkV t n (tkA t n (tkA t n (tkA t n p)))))), (6, .int (nI (npW w)))]) rfl (fun _ _ _ => rfl) rfl (Nat.le_of_ble_eq_true rfl) rfl ?_
              refine wn_ld (pc' := 79) (q := 0) (kin := 2) (v := .ref (2)) rfl (fun _ _ _ => rfl) rfl rfl ?_
              refine wn_ld (pc' := 80) (q := 3) (kin := 0) (v := .int (nI (vaW w (tkV t n p) - 1))) rfl (fun _ _ _ => rfl) rfl rfl ?_
              refine wn_virS (pc' := 83) rfl rfl (by decide) rfl rfl o_h11 (Nat.le_of_ble_eq_true rfl) (x_readSumB _ _ lr _ _ _ _ _ _ _ o_h11 (show ¬ nI 1 = 0 by decide) (nI (vaW w (tkV t n p) - 1))) (fun r9 h62 e63 => ?_)
              obtain ⟨rfl, e9⟩ := e63
              rw [e9]
              show Wn _ _ 83 _ [] h11 _
              refine wn_ld (pc' := 84) (q := 0) (kin := 2) (v := .ref (2)) rfl (fun _ _ _ => rfl) rfl rfl ?_
              refine wn_virS (pc' := 87) rfl rfl (by decide) rfl rfl o_h11 (Nat.le_of_ble_eq_true rfl) (x_signB _ _ t ct n (tkA t n (tkA t n (tkA t n (tkA t n p)))) lr (nI (1)) (nI (tkF t n (tkA t n (tkA t n (tkA t n (tkA t n p)))))) hn (tkA_le (tkA_le (tkA_le (tkA_le hp)))) ((fr2 fr_h11 (by decide)).trans o1) o1v o_h11 (show ¬ nI 1 = 0 by decide)) (fun r9 h64 e65 => ?_)
              obtain ⟨sx_h64, rfl, f_h64, p_h64, hp_h64, o_h64⟩ := e65
              have fr_h64 := Fr.tr fr_h11 f_h64 (fun _ q => q)
              show Wn _ _ 87 _ [.int (sx_h64)] h64 _
              refine wn_st (pc' := 89) (q := 7) (kin := 0) (lv' := [(0, .ref (2)), (1, .int (nI (f0))), (2, .int (nI (tkV t n p))), (3, .int (nI (vaW w (tkV t n p) - 1))), (4, .int (nI (tkV t n (tkA t n p)))), (5, .int (nI (tkV t n (tkA t n (tkA t n (tkA t n p)))))), (6, .int (nI (npW w))), (7, .int (sx_h64))]) rfl (fun _ _ _ => rfl) rfl (Nat.le_of_ble_eq_true rfl) rfl ?_
              refine wn_ld (pc' := 90) (q := 0) (kin := 2) (v := .ref (2)) rfl (fun _ _ _ => rfl) rfl rfl ?_
              refine wn_get (pc' := 93) (v := .ref (lr)) rfl rfl o_h64 rfl ?_
              refine wn_get (pc' := 96) (v := .ref (lr + 9)) rfl rfl ((fr2 fr_h64 (by omega)).trans l0) rfl ?_
              refine wn_get (pc' := 99) (v := .int (nI (npW w))) rfl rfl ((fr2 fr_h64 (by omega)).trans k1) rfl ?_
              refine wn_st (pc' := 101) (q := 8) (kin := 0) (lv' := [(0, .ref (2)), (1, .int (nI (f0))), (2, .int (nI (tkV t n p))), (3, .int (nI (vaW w (tkV t n p) - 1))), (4, .int (nI (tkV t n (tkA t n p)))), (5, .int (nI (tkV t n (tkA t n (tkA t n (tkA t n p)))))), (6, .int (nI (npW w))), (7, .int (sx_h64)), (8, .int (nI (npW w)))]) rfl (fun _ _ _ => rfl) rfl (Nat.le_of_ble_eq_true rfl) rfl ?_
              refine wn_ld (pc' := 102) (q := 0) (kin := 2) (v := .ref (2)) rfl (fun _ _ _ => rfl) rfl rfl ?_
              refine wn_ld (pc' := 103) (q := 3) (kin := 0) (v := .int (nI (vaW w (tkV t n p) - 1))) rfl (fun _ _ _ => rfl) rfl rfl ?_
              refine wn_virS (pc' := 106) rfl rfl (by decide) rfl rfl o_h64 (Nat.le_of_ble_eq_true rfl) (x_readSumB _ _ lr _ _ _ _ _ _ _ o_h64 (show ¬ nI 1 = 0 by decide) (nI (vaW w (tkV t n p) - 1))) (fun r9 h66 e67 => ?_)
              obtain ⟨rfl, e9⟩ := e67
              rw [e9]
              show Wn _ _ 106 _ [] h64 _
              refine wn_ld (pc' := 107) (q := 0) (kin := 2) (v := .ref (2)) rfl (fun _ _ _ => rfl) rfl rfl ?_
              refine wn_virS (pc' := 110) rfl rfl (by decide) rfl rfl o_h64 (Nat.le_of_ble_eq_true rfl) (x_takeStopB _ _ t ct n p_h64 lr (nI (1)) (nI (tkF t n (tkA t n (tkA t n (tkA t n (tkA t n p)))))) hn hp_h64 ((fr2 fr_h64 (by decide)).trans o1) o1v o_h64 (show ¬ nI 1 = 0 by decide)) (fun r9 h68 e69 => ?_)
              obtain ⟨rfl, f_h68, p_h68, hp_h68, o_h68⟩ := e69
              have fr_h68 := Fr.tr fr_h64 f_h68 (fun _ q => q)
              show Wn _ _ 110 _ [] h68 _
              refine wn_ld (pc' := 111) (q := 0) (kin := 2) (v := .ref (2)) rfl (fun _ _ _ => rfl) rfl rfl ?_
              refine wn_get (pc' := 114) (v := .int (nI (1))) rfl rfl o_h68 rfl ?_
              refine wn_ifc (t := 151) (f := 117) rfl rfl rfl (fun c70 => ?_) (fun c70 => ?_)
              · have c70 : ¬ ((nI (1))) = 0 := c70
                have eR : LawR t n f0 p w (.inl (1, tkF t n (tkA t n (tkA t n (tkA t n (tkA t n p)))))) := Or.inl ⟨w_h1, Or.inl ⟨w_h3, Or.inl ⟨w_h5, Or.inl ⟨w_h7, Or.inl ⟨w_h9, Or.inr ⟨w_h11, rfl⟩⟩⟩⟩⟩⟩
                exact wn_vret rfl rfl ⟨rfl, FrL.f2 (FrL.rfl' lr h) fr_h68, _, eR, CS_l (show ¬ nI 1 = 0 by decide) hp_h68 o_h68 ((R1.s R2).kp (fun k p1 p2 => fr2 fr_h68 (by omega)))⟩
              · have c70 : ((nI (1))) = 0 := c70
                exact absurd c70 (show ¬ nI 1 = 0 by decide)
          · have fr_h9 := Fr.tr fr_h7 f_h9 (fun _ q => q)
            show Wn _ _ 58 _ [.int (-1)] h9 _
            refine wn_st (pc' := 60) (q := 5) (kin := 0) (lv' := [(0, .ref (2)), (1, .int (nI (f0))), (2, .int (nI (tkV t n p))), (3, .int (nI (vaW w (tkV t n p) - 1))), (4, .int (nI (tkV t n (tkA t n p)))), (5, .int (-1))]) rfl (fun _ _ _ => rfl) rfl (Nat.le_of_ble_eq_true rfl) rfl ?_
            refine wn_ld (pc' := 61) (q := 0) (kin := 2) (v := .ref (2)) rfl (fun _ _ _ => rfl) rfl rfl ?_
            refine wn_go (pc' := 63) (lv' := [(0, .ref (2)), (1, .int (nI (f0))), (2, .int (nI (tkV t n p))), (3, .int (nI (vaW w (tkV t n p) - 1))), (4, .int (nI (tkV t n (tkA t n p)))), (5, .int (-1))]) (st' := [.retAddr 10, .ref (2)]) rfl (fun _ _ _ k9 => ⟨by decide, k9⟩) ?_
            refine wn_virS (pc' := 66) rfl rfl (by decide) rfl rfl o_h9 (Nat.le_of_ble_eq_true rfl) (x_takeWordB _ _ t ct n (tkA t n (tkA t n (tkA t n p))) lr (nI (nmF t n (tkA t n (tkA t n (tkA t n p))))) (nI (tkF t n (tkA t n (tkA t n (tkA t n p))))) hn (tkA_le (tkA_le (tkA_le hp))) ((fr2 fr_h9 (by decide)).trans o1) o1v o_h9 nmF_nz 10 (by omega)) (fun r9 h71 e72 => ?_)
            obtain ⟨rfl, f_h71, p_h71, hp_h71, o_h71⟩ := e72
            have fr_h71 := Fr.tr fr_h9 f_h71 (fun _ q => q)
            show Wn _ _ 66 _ [] h71 _
            refine wn_ld (pc' := 67) (q := 0) (kin := 2) (v := .ref (2)) rfl (fun _ _ _ => rfl) rfl rfl ?_
            refine wn_get (pc' := 70) (v := .ref (lr)) rfl rfl o_h71 rfl ?_
            refine wn_get (pc' := 73) (v := .ref (lr + 9)) rfl rfl ((fr2 fr_h71 (by omega)).trans l0) rfl ?_
            refine wn_get (pc' := 76) (v := .int (nI (npW w))) rfl rfl ((fr2 fr_h71 (by omega)).trans k1) rfl ?_
            refine wn_st (pc' := 78) (q := 6) (kin := 0) (lv' := [(0, .ref (2)), (1, .int (nI (f0))), (2, .int (nI (tkV t n p))), (3, .int (nI (vaW w (tkV t n p) - 1))), (4, .int (nI (tkV t n (tkA t n p)))), (5, .int (-1)), (6, .int (nI (npW w)))]) rfl (fun _ _ _ => rfl) rfl (Nat.le_of_ble_eq_true rfl) rfl ?_
            refine wn_ld (pc' := 79) (q := 0) (kin := 2) (v := .ref (2)) rfl (fun _ _ _ => rfl) rfl rfl ?_
            refine wn_ld (pc' := 80) (q := 3) (kin := 0) (v := .int (nI (vaW w (tkV t n p) - 1))) rfl (fun _ _ _ => rfl) rfl rfl ?_
            refine wn_virS (pc' := 83) rfl rfl (by decide) rfl rfl o_h71 (Nat.le_of_ble_eq_true rfl) (x_readSumB _ _ lr _ _ _ _ _ _ _ o_h71 nmF_nz (nI (vaW w (tkV t n p) - 1))) (fun r9 h73 e74 => ?_)
            obtain ⟨rfl, e9⟩ := e74
            rw [e9]
            show Wn _ _ 83 _ [] h71 _
            refine wn_ld (pc' := 84) (q := 0) (kin := 2) (v := .ref (2)) rfl (fun _ _ _ => rfl) rfl rfl ?_
            refine wn_virS (pc' := 87) rfl rfl (by decide) rfl rfl o_h71 (Nat.le_of_ble_eq_true rfl) (x_signB _ _ t ct n p_h71 lr (nI (nmF t n (tkA t n (tkA t n (tkA t n p))))) (nI (tkF t n (tkA t n (tkA t n (tkA t n p))))) hn hp_h71 ((fr2 fr_h71 (by decide)).trans o1) o1v o_h71 nmF_nz) (fun r9 h75 e76 => ?_)
            obtain ⟨sx_h75, rfl, f_h75, p_h75, hp_h75, o_h75⟩ := e76
            have fr_h75 := Fr.tr fr_h71 f_h75 (fun _ q => q)
            show Wn _ _ 87 _ [.int (sx_h75)] h75 _
            refine wn_st (pc' := 89) (q := 7) (kin := 0) (lv' := [(0, .ref (2)), (1, .int (nI (f0))), (2, .int (nI (tkV t n p))), (3, .int (nI (vaW w (tkV t n p) - 1))), (4, .int (nI (tkV t n (tkA t n p)))), (5, .int (-1)), (6, .int (nI (npW w))), (7, .int (sx_h75))]) rfl (fun _ _ _ => rfl) rfl (Nat.le_of_ble_eq_true rfl) rfl ?_
            refine wn_ld (pc' := 90) (q := 0) (kin := 2) (v := .ref (2)) rfl (fun _ _ _ => rfl) rfl rfl ?_
            refine wn_get (pc' := 93) (v := .ref (lr)) rfl rfl o_h75 rfl ?_
            refine wn_get (pc' := 96) (v := .ref (lr + 9)) rfl rfl ((fr2 fr_h75 (by omega)).trans l0) rfl ?_
            refine wn_get (pc' := 99) (v := .int (nI (npW w))) rfl rfl ((fr2 fr_h75 (by omega)).trans k1) rfl ?_
            refine wn_st (pc' := 101) (q := 8) (kin := 0) (lv' := [(0, .ref (2)), (1, .int (nI (f0))), (2, .int (nI (tkV t n p))), (3, .int (nI (vaW w (tkV t n p) - 1))), (4, .int (nI (tkV t n (tkA t n p)))), (5, .int (-1)), (6, .int (nI (npW w))), (7, .int (sx_h75)), (8, .int (nI (npW w)))]) rfl (fun _ _ _ => rfl) rfl (Nat.le_of_ble_eq_true rfl) rfl ?_
            refine wn_ld (pc' := 102) (q := 0) (kin := 2) (v := .ref (2)) rfl (fun _ _ _ => rfl) rfl rfl ?_
            refine wn_ld (pc' := 103) (q := 3) (kin := 0) (v := .int (nI (vaW w (tkV t n p) - 1))) rfl (fun _ _ _ => rfl) rfl rfl ?_
            refine wn_virS (pc' := 106) rfl rfl (by decide) rfl rfl o_h75 (Nat.le_of_ble_eq_true rfl) (x_readSumB _ _ lr _ _ _ _ _ _ _ o_h75 nmF_nz (nI (vaW w (tkV t n p) - 1))) (fun r9 h77 e78 => ?_)
            obtain ⟨rfl, e9⟩ := e78
            rw [e9]
            show Wn _ _ 106 _ [] h75 _
            refine wn_ld (pc' := 107) (q := 0) (kin := 2) (v := .ref (2)) rfl (fun _ _ _ => rfl) rfl rfl ?_
            refine wn_virS (pc' := 110) rfl rfl (by decide) rfl rfl o_h75 (Nat.le_of_ble_eq_true rfl) (x_takeStopB _ _ t ct n p_h75 lr (nI (nmF t n (tkA t n (tkA t n (tkA t n p))))) (nI (tkF t n (tkA t n (tkA t n (tkA t n p))))) hn hp_h75 ((fr2 fr_h75 (by decide)).trans o1) o1v o_h75 nmF_nz) (fun r9 h79 e80 => ?_)
            obtain ⟨rfl, f_h79, p_h79, hp_h79, o_h79⟩ := e80
            have fr_h79 := Fr.tr fr_h75 f_h79 (fun _ q => q)
            show Wn _ _ 110 _ [] h79 _
            refine wn_ld (pc' := 111) (q := 0) (kin := 2) (v := .ref (2)) rfl (fun _ _ _ => rfl) rfl rfl ?_
            refine wn_get (pc' := 114) (v := .int (nI (nmF t n (tkA t n (tkA t n (tkA t n p)))))) rfl rfl o_h79 rfl ?_
            refine wn_ifc (t := 151) (f := 117) rfl rfl rfl (fun c81 => ?_) (fun c81 => ?_)
            · have c81 : ¬ ((nI (nmF t n (tkA t n (tkA t n (tkA t n p)))))) = 0 := c81
              have eR : LawR t n f0 p w (.inl (nmF t n (tkA t n (tkA t n (tkA t n p))), tkF t n (tkA t n (tkA t n (tkA t n p))))) := Or.inl ⟨w_h1, Or.inl ⟨w_h3, Or.inl ⟨w_h5, Or.inl ⟨w_h7, Or.inr ⟨w_h9, rfl⟩⟩⟩⟩⟩
              exact wn_vret rfl rfl ⟨rfl, FrL.f2 (FrL.rfl' lr h) fr_h79, _, eR, CS_l nmF_nz hp_h79 o_h79 ((R1.s R2).kp (fun k p1 p2 => fr2 fr_h79 (by omega)))⟩
            · have c81 : ((nI (nmF t n (tkA t n (tkA t n (tkA t n p)))))) = 0 := c81
              exact absurd c81 nmF_nz
        · have fr_h7 := Fr.tr fr_h5 f_h7 (fun _ q => q)
          show Wn _ _ 52 _ [] h7 _
          refine wn_ld (pc' := 53) (q := 0) (kin := 2) (v := .ref (2)) rfl (fun _ _ _ => rfl) rfl rfl ?_
          refine wn_ic (pc' := 54) (w := nI 0) rfl rfl (by decide) ?_
          refine wn_ld (pc' := 55) (q := 3) (kin := 0) (v := .int (nI (vaW w (tkV t n p) - 1))) rfl (fun _ _ _ => rfl) rfl rfl ?_
          refine wn_virS (pc' := 58) rfl rfl (by decide) rfl rfl o_h7 (Nat.le_of_ble_eq_true rfl) (x_takeNumberB _ _ lr _ _ _ _ _ _ _ o_h7 (show ¬ nI 1 = 0 by decide) (nI (0)) (nI (vaW w (tkV t n p) - 1))) (fun r9 h82 e83 => ?_)
          obtain ⟨rfl, e9⟩ := e83
          rw [e9]
          show Wn _ _ 58 _ [.int (-1)] h7 _
          refine wn_st (pc' := 60) (q := 5) (kin := 0) (lv' := [(0, .ref (2)), (1, .int (nI (f0))), (2, .int (nI (tkV t n p))), (3, .int (nI (vaW w (tkV t n p) - 1))), (4, .int (nI (tkV t n (tkA t n p)))), (5, .int (-1))]) rfl (fun _ _ _ => rfl) rfl (Nat.le_of_ble_eq_true rfl) rfl ?_
          refine wn_ld (pc' := 61) (q := 0) (kin := 2) (v := .ref (2)) rfl (fun _ _ _ => rfl) rfl rfl ?_
          refine wn_go (pc' := 63) (lv' := [(0, .ref (2)), (1, .int (nI (f0))), (2, .int (nI (tkV t n p))), (3, .int (nI (vaW w (tkV t n p) - 1))), (4, .int (nI (tkV t n (tkA t n p)))), (5, .int (-1))]) (st' := [.retAddr 10, .ref (2)]) rfl (fun _ _ _ k9 => ⟨by decide, k9⟩) ?_
          refine wn_virS (pc' := 66) rfl rfl (by decide) rfl rfl o_h7 (Nat.le_of_ble_eq_true rfl) (x_takeWordB _ _ t ct n (tkA t n (tkA t n p)) lr (nI (1)) (nI (tkF t n (tkA t n (tkA t n p)))) hn (tkA_le (tkA_le hp)) ((fr2 fr_h7 (by decide)).trans o1) o1v o_h7 (show ¬ nI 1 = 0 by decide) 10 (by omega)) (fun r9 h84 e85 => ?_)
          obtain ⟨rfl, f_h84, p_h84, hp_h84, o_h84⟩ := e85
          have fr_h84 := Fr.tr fr_h7 f_h84 (fun _ q => q)
          show Wn _ _ 66 _ [] h84 _
          refine wn_ld (pc' := 67) (q := 0) (kin := 2) (v := .ref (2)) rfl (fun _ _ _ => rfl) rfl rfl ?_
          refine wn_get (pc' := 70) (v := .ref (lr)) rfl rfl o_h84 rfl ?_
          refine wn_get (pc' := 73) (v := .ref (lr + 9)) rfl rfl ((fr2 fr_h84 (by omega)).trans l0) rfl ?_
          refine wn_get (pc' := 76) (v := .int (nI (npW w))) rfl rfl ((fr2 fr_h84 (by omega)).trans k1) rfl ?_
          refine wn_st (pc' := 78) (q := 6) (kin := 0) (lv' := [(0, .ref (2)), (1, .int (nI (f0))), (2, .int (nI (tkV t n p))), (3, .int (nI (vaW w (tkV t n p) - 1))), (4, .int (nI (tkV t n (tkA t n p)))), (5, .int (-1)), (6, .int (nI (npW w)))]) rfl (fun _ _ _ => rfl) rfl (Nat.le_of_ble_eq_true rfl) rfl ?_
          refine wn_ld (pc' := 79) (q := 0) (kin := 2) (v := .ref (2)) rfl (fun _ _ _ => rfl) rfl rfl ?_
          refine wn_ld (pc' := 80) (q := 3) (kin := 0) (v := .int (nI (vaW w (tkV t n p) - 1))) rfl (fun _ _ _ => rfl) rfl rfl ?_
          refine wn_virS (pc' := 83) rfl rfl (by decide) rfl rfl o_h84 (Nat.le_of_ble_eq_true rfl) (x_readSumB _ _ lr _ _ _ _ _ _ _ o_h84 (show ¬ nI 1 = 0 by decide) (nI (vaW w (tkV t n p) - 1))) (fun r9 h86 e87 => ?_)
          obtain ⟨rfl, e9⟩ := e87
          rw [e9]
          show Wn _ _ 83 _ [] h84 _
          refine wn_ld (pc' := 84) (q := 0) (kin := 2) (v := .ref (2)) rfl (fun _ _ _ => rfl) rfl rfl ?_
          refine wn_virS (pc' := 87) rfl rfl (by decide) rfl rfl o_h84 (Nat.le_of_ble_eq_true rfl) (x_signB _ _ t ct n p_h84 lr (nI (1)) (nI (tkF t n (tkA t n (tkA t n p)))) hn hp_h84 ((fr2 fr_h84 (by decide)).trans o1) o1v o_h84 (show ¬ nI 1 = 0 by decide)) (fun r9 h88 e89 => ?_)
          obtain ⟨sx_h88, rfl, f_h88, p_h88, hp_h88, o_h88⟩ := e89
          have fr_h88 := Fr.tr fr_h84 f_h88 (fun _ q => q)
          show Wn _ _ 87 _ [.int (sx_h88)] h88 _
          refine wn_st (pc' := 89) (q := 7) (kin := 0) (lv' := [(0, .ref (2)), (1, .int (nI (f0))), (2, .int (nI (tkV t n p))), (3, .int (nI (vaW w (tkV t n p) - 1))), (4, .int (nI (tkV t n (tkA t n p)))), (5, .int (-1)), (6, .int (nI (npW w))), (7, .int (sx_h88))]) rfl (fun _ _ _ => rfl) rfl (Nat.le_of_ble_eq_true rfl) rfl ?_
          refine wn_ld (pc' := 90) (q := 0) (kin := 2) (v := .ref (2)) rfl (fun _ _ _ => rfl) rfl rfl ?_
          refine wn_get (pc' := 93) (v := .ref (lr)) rfl rfl o_h88 rfl ?_
          refine wn_get (pc' := 96) (v := .ref (lr + 9)) rfl rfl ((fr2 fr_h88 (by omega)).trans l0) rfl ?_
          refine wn_get (pc' := 99) (v := .int (nI (npW w))) rfl rfl ((fr2 fr_h88 (by omega)).trans k1) rfl ?_
          refine wn_st (pc' := 101) (q := 8) (kin := 0) (lv' := [(0, .ref (2)), (1, .int (nI (f0))), (2, .int (nI (tkV t n p))), (3, .int (nI (vaW w (tkV t n p) - 1))), (4, .int (nI (tkV t n (tkA t n p)))), (5, .int (-1)), (6, .int (nI (npW w))), (7, .int (sx_h88)), (8, .int (nI (npW w)))]) rfl (fun _ _ _ => rfl) rfl (Nat.le_of_ble_eq_true rfl) rfl ?_
          refine wn_ld (pc' := 102) (q := 0) (kin := 2) (v := .ref (2)) rfl (fun _ _ _ => rfl) rfl rfl ?_
          refine wn_ld (pc' := 103) (q := 3) (kin := 0) (v := .int (nI (vaW w (tkV t n p) - 1))) rfl (fun _ _ _ => rfl) rfl rfl ?_
          refine wn_virS (pc' := 106) rfl rfl (by decide) rfl rfl o_h88 (Nat.le_of_ble_eq_true rfl) (x_readSumB _ _ lr _ _ _ _ _ _ _ o_h88 (show ¬ nI 1 = 0 by decide) (nI (vaW w (tkV t n p) - 1))) (fun r9 h90 e91 => ?_)
          obtain ⟨rfl, e9⟩ := e91
          rw [e9]
          show Wn _ _ 106 _ [] h88 _
          refine wn_ld (pc' := 107) (q := 0) (kin := 2) (v := .ref (2)) rfl (fun _ _ _ => rfl) rfl rfl ?_
          refine wn_virS (pc' := 110) rfl rfl (by decide) rfl rfl o_h88 (Nat.le_of_ble_eq_true rfl) (x_takeStopB _ _ t ct n p_h88 lr (nI (1)) (nI (tkF t n (tkA t n (tkA t n p)))) hn hp_h88 ((fr2 fr_h88 (by decide)).trans o1) o1v o_h88 (show ¬ nI 1 = 0 by decide)) (fun r9 h92 e93 => ?_)
          obtain ⟨rfl, f_h92, p_h92, hp_h92, o_h92⟩ := e93
          have fr_h92 := Fr.tr fr_h88 f_h92 (fun _ q => q)
          show Wn _ _ 110 _ [] h92 _
          refine wn_ld (pc' := 111) (q := 0) (kin := 2) (v := .ref (2)) rfl (fun _ _ _ => rfl) rfl rfl ?_
          refine wn_get (pc' := 114) (v := .int (nI (1))) rfl rfl o_h92 rfl ?_
          refine wn_ifc (t := 151) (f := 117) rfl rfl rfl (fun c94 => ?_) (fun c94 => ?_)
          · have c94 : ¬ ((nI (1))) = 0 := c94
            have eR : LawR t n f0 p w (.inl (1, tkF t n (tkA t n (tkA t n p)))) := Or.inl ⟨w_h1, Or.inl ⟨w_h3, Or.inl ⟨w_h5, Or.inr ⟨w_h7, rfl⟩⟩⟩⟩
            exact wn_vret rfl rfl ⟨rfl, FrL.f2 (FrL.rfl' lr h) fr_h92, _, eR, CS_l (show ¬ nI 1 = 0 by decide) hp_h92 o_h92 ((R1.s R2).kp (fun k p1 p2 => fr2 fr_h92 (by omega)))⟩
          · have c94 : ((nI (1))) = 0 := c94
            exact absurd c94 (show ¬ nI 1 = 0 by decide)
      · have fr_h5 := Fr.tr fr_h3 f_h5 (fun _ q => q)
        show Wn _ _ 44 _ [.int (-1)] h5 _
        refine wn_st (pc' := 46) (q := 4) (kin := 0) (lv' := [(0, .ref (2)), (1, .int (nI (f0))), (2, .int (nI (tkV t n p))), (3, .int (nI (vaW w (tkV t n p) - 1))), (4, .int (-1))]) rfl (fun _ _ _ => rfl) rfl (Nat.le_of_ble_eq_true rfl) rfl ?_
        refine wn_ld (pc' := 47) (q := 0) (kin := 2) (v := .ref (2)) rfl (fun _ _ _ => rfl) rfl rfl ?_
        refine wn_go (pc' := 49) (lv' := [(0, .ref (2)), (1, .int (nI (f0))), (2, .int (nI (tkV t n p))), (3, .int (nI (vaW w (tkV t n p) - 1))), (4, .int (-1))]) (st' := [.retAddr 9, .ref (2)]) rfl (fun _ _ _ k9 => ⟨by decide, k9⟩) ?_
        refine wn_virS (pc' := 52) rfl rfl (by decide) rfl rfl o_h5 (Nat.le_of_ble_eq_true rfl) (x_takeWordB _ _ t ct n (tkA t n p) lr (nI (nmF t n (tkA t n p))) (nI (tkF t n (tkA t n p))) hn (tkA_le hp) ((fr2 fr_h5 (by decide)).trans o1) o1v o_h5 nmF_nz 9 (by omega)) (fun r9 h95 e96 => ?_)
        obtain ⟨rfl, f_h95, p_h95, hp_h95, o_h95⟩ := e96
        have fr_h95 := Fr.tr fr_h5 f_h95 (fun _ q => q)
        show Wn _ _ 52 _ [] h95 _
        refine wn_ld (pc' := 53) (q := 0) (kin := 2) (v := .ref (2)) rfl (fun _ _ _ => rfl) rfl rfl ?_
        refine wn_ic (pc' := 54) (w := nI 0) rfl rfl (by decide) ?_
        refine wn_ld (pc' := 55) (q := 3) (kin := 0) (v := .int (nI (vaW w (tkV t n p) - 1))) rfl (fun _ _ _ => rfl) rfl rfl ?_
        refine wn_virS (pc' := 58) rfl rfl (by decide) rfl rfl o_h95 (Nat.le_of_ble_eq_true rfl) (x_takeNumberB _ _ lr _ _ _ _ _ _ _ o_h95 nmF_nz (nI (0)) (nI (vaW w (tkV t n p) - 1))) (fun r9 h97 e98 => ?_)
        obtain ⟨rfl, e9⟩ := e98
        rw [e9]
        show Wn _ _ 58 _ [.int (-1)] h95 _
        refine wn_st (pc' := 60) (q := 5) (kin := 0) (lv' := [(0, .ref (2)), (1, .int (nI (f0))), (2, .int (nI (tkV t n p))), (3, .int (nI (vaW w (tkV t n p) - 1))), (4, .int (-1)), (5, .int (-1))]) rfl (fun _ _ _ => rfl) rfl (Nat.le_of_ble_eq_true rfl) rfl ?_
        refine wn_ld (pc' := 61) (q := 0) (kin := 2) (v := .ref (2)) rfl (fun _ _ _ => rfl) rfl rfl ?_
        refine wn_go (pc' := 63) (lv' := [(0, .ref (2)), (1, .int (nI (f0))), (2, .int (nI (tkV t n p))), (3, .int (nI (vaW w (tkV t n p) - 1))), (4, .int (-1)), (5, .int (-1))]) (st' := [.retAddr 10, .ref (2)]) rfl (fun _ _ _ k9 => ⟨by decide, k9⟩) ?_
        refine wn_virS (pc' := 66) rfl rfl (by decide) rfl rfl o_h95 (Nat.le_of_ble_eq_true rfl) (x_takeWordB _ _ t ct n p_h95 lr (nI (nmF t n (tkA t n p))) (nI (tkF t n (tkA t n p))) hn hp_h95 ((fr2 fr_h95 (by decide)).trans o1) o1v o_h95 nmF_nz 10 (by omega)) (fun r9 h99 e100 => ?_)
        obtain ⟨rfl, f_h99, p_h99, hp_h99, o_h99⟩ := e100
        have fr_h99 := Fr.tr fr_h95 f_h99 (fun _ q => q)
        show Wn _ _ 66 _ [] h99 _
        refine wn_ld (pc' := 67) (q := 0) (kin := 2) (v := .ref (2)) rfl (fun _ _ _ => rfl) rfl rfl ?_
        refine wn_get (pc' := 70) (v := .ref (lr)) rfl rfl o_h99 rfl ?_
        refine wn_get (pc' := 73) (v := .ref (lr + 9)) rfl rfl ((fr2 fr_h99 (by omega)).trans l0) rfl ?_
        refine wn_get (pc' := 76) (v := .int (nI (npW w))) rfl rfl ((fr2 fr_h99 (by omega)).trans k1) rfl ?_
        refine wn_st (pc' := 78) (q := 6) (kin := 0) (lv' := [(0, .ref (2)), (1, .int (nI (f0))), (2, .int (nI (tkV t n p))), (3, .int (nI (vaW w (tkV t n p) - 1))), (4, .int (-1)), (5, .int (-1)), (6, .int (nI (npW w)))]) rfl (fun _ _ _ => rfl) rfl (Nat.le_of_ble_eq_true rfl) rfl ?_
        refine wn_ld (pc' := 79) (q := 0) (kin := 2) (v := .ref (2)) rfl (fun _ _ _ => rfl) rfl rfl ?_
        refine wn_ld (pc' := 80) (q := 3) (kin := 0) (v := .int (nI (vaW w (tkV t n p) - 1))) rfl (fun _ _ _ => rfl) rfl rfl ?_
        refine wn_virS (pc' := 83) rfl rfl (by decide) rfl rfl o_h99 (Nat.le_of_ble_eq_true rfl) (x_readSumB _ _ lr _ _ _ _ _ _ _ o_h99 nmF_nz (nI (vaW w (tkV t n p) - 1))) (fun r9 h101 e102 => ?_)
        obtain ⟨rfl, e9⟩ := e102
        rw [e9]
        show Wn _ _ 83 _ [] h99 _
        refine wn_ld (pc' := 84) (q := 0) (kin := 2) (v := .ref (2)) rfl (fun _ _ _ => rfl) rfl rfl ?_
        refine wn_virS (pc' := 87) rfl rfl (by decide) rfl rfl o_h99 (Nat.le_of_ble_eq_true rfl) (x_signB _ _ t ct n p_h99 lr (nI (nmF t n (tkA t n p))) (nI (tkF t n (tkA t n p))) hn hp_h99 ((fr2 fr_h99 (by decide)).trans o1) o1v o_h99 nmF_nz) (fun r9 h103 e104 => ?_)
        obtain ⟨sx_h103, rfl, f_h103, p_h103, hp_h103, o_h103⟩ := e104
        have fr_h103 := Fr.tr fr_h99 f_h103 (fun _ q => q)
        show Wn _ _ 87 _ [.int (sx_h103)] h103 _
        refine wn_st (pc' := 89) (q := 7) (kin := 0) (lv' := [(0, .ref (2)), (1, .int (nI (f0))), (2, .int (nI (tkV t n p))), (3, .int (nI (vaW w (tkV t n p) - 1))), (4, .int (-1)), (5, .int (-1)), (6, .int (nI (npW w))), (7, .int (sx_h103))]) rfl (fun _ _ _ => rfl) rfl (Nat.le_of_ble_eq_true rfl) rfl ?_
        refine wn_ld (pc' := 90) (q := 0) (kin := 2) (v := .ref (2)) rfl (fun _ _ _ => rfl) rfl rfl ?_
        refine wn_get (pc' := 93) (v := .ref (lr)) rfl rfl o_h103 rfl ?_
        refine wn_get (pc' := 96) (v := .ref (lr + 9)) rfl rfl ((fr2 fr_h103 (by omega)).trans l0) rfl ?_
        refine wn_get (pc' := 99) (v := .int (nI (npW w))) rfl rfl ((fr2 fr_h103 (by omega)).trans k1) rfl ?_
        refine wn_st (pc' := 101) (q := 8) (kin := 0) (lv' := [(0, .ref (2)), (1, .int (nI (f0))), (2, .int (nI (tkV t n p))), (3, .int (nI (vaW w (tkV t n p) - 1))), (4, .int (-1)), (5, .int (-1)), (6, .int (nI (npW w))), (7, .int (sx_h103)), (8, .int (nI (npW w)))]) rfl (fun _ _ _ => rfl) rfl (Nat.le_of_ble_eq_true rfl) rfl ?_
        refine wn_ld (pc' := 102) (q := 0) (kin := 2) (v := .ref (2)) rfl (fun _ _ _ => rfl) rfl rfl ?_
        refine wn_ld (pc' := 103) (q := 3) (kin := 0) (v := .int (nI (vaW w (tkV t n p) - 1))) rfl (fun _ _ _ => rfl) rfl rfl ?_
        refine wn_virS (pc' := 106) rfl rfl (by decide) rfl rfl o_h103 (Nat.le_of_ble_eq_true rfl) (x_readSumB _ _ lr _ _ _ _ _ _ _ o_h103 nmF_nz (nI (vaW w (tkV t n p) - 1))) (fun r9 h105 e106 => ?_)
        obtain ⟨rfl, e9⟩ := e106
        rw [e9]
        show Wn _ _ 106 _ [] h103 _
        refine wn_ld (pc' := 107) (q := 0) (kin := 2) (v := .ref (2)) rfl (fun _ _ _ => rfl) rfl rfl ?_
        refine wn_virS (pc' := 110) rfl rfl (by decide) rfl rfl o_h103 (Nat.le_of_ble_eq_true rfl) (x_takeStopB _ _ t ct n p_h103 lr (nI (nmF t n (tkA t n p))) (nI (tkF t n (tkA t n p))) hn hp_h103 ((fr2 fr_h103 (by decide)).trans o1) o1v o_h103 nmF_nz) (fun r9 h107 e108 => ?_)
        obtain ⟨rfl, f_h107, p_h107, hp_h107, o_h107⟩ := e108
        have fr_h107 := Fr.tr fr_h103 f_h107 (fun _ q => q)
        show Wn _ _ 110 _ [] h107 _
        refine wn_ld (pc' := 111) (q := 0) (kin := 2) (v := .ref (2)) rfl (fun _ _ _ => rfl) rfl rfl ?_
        refine wn_get (pc' := 114) (v := .int (nI (nmF t n (tkA t n p)))) rfl rfl o_h107 rfl ?_
        refine wn_ifc (t := 151) (f := 117) rfl rfl rfl (fun c109 => ?_) (fun c109 => ?_)
        · have c109 : ¬ ((nI (nmF t n (tkA t n p)))) = 0 := c109
          have eR : LawR t n f0 p w (.inl (nmF t n (tkA t n p), tkF t n (tkA t n p))) := Or.inl ⟨w_h1, Or.inl ⟨w_h3, Or.inr ⟨w_h5, rfl⟩⟩⟩
          exact wn_vret rfl rfl ⟨rfl, FrL.f2 (FrL.rfl' lr h) fr_h107, _, eR, CS_l nmF_nz hp_h107 o_h107 ((R1.s R2).kp (fun k p1 p2 => fr2 fr_h107 (by omega)))⟩
        · have c109 : ((nI (nmF t n (tkA t n p)))) = 0 := c109
          exact absurd c109 nmF_nz
    · have fr_h3 := Fr.tr fr_h1 f_h3 (fun _ q => q)
      show Wn _ _ 31 _ [.int (-1)] h3 _
      refine wn_st (pc' := 32) (q := 2) (kin := 0) (lv' := [(0, .ref (2)), (1, .int (nI (f0))), (2, .int (-1))]) rfl (fun _ _ _ => rfl) rfl (Nat.le_of_ble_eq_true rfl) rfl ?_
      refine wn_ld (pc' := 33) (q := 0) (kin := 2) (v := .ref (2)) rfl (fun _ _ _ => rfl) rfl rfl ?_
      refine wn_ld (pc' := 34) (q := 2) (kin := 0) (v := .int (-1)) rfl (fun _ _ _ => rfl) rfl rfl ?_
      refine wn_virI (pc' := 37) rfl rfl (by decide) rfl rfl o_h3 (Nat.le_of_ble_eq_true rfl) (x_hvN _ _) ?_
      refine wn_st (pc' := 38) (q := 3) (kin := 0) (lv' := [(0, .ref (2)), (1, .int (nI (f0))), (2, .int (-1)), (3, .int (-1))]) rfl (fun _ _ _ => rfl) rfl (Nat.le_of_ble_eq_true rfl) rfl ?_
      refine wn_ld (pc' := 39) (q := 0) (kin := 2) (v := .ref (2)) rfl (fun _ _ _ => rfl) rfl rfl ?_
      refine wn_ic (pc' := 40) (w := nI 0) rfl rfl (by decide) ?_
      refine wn_ld (pc' := 41) (q := 3) (kin := 0) (v := .int (-1)) rfl (fun _ _ _ => rfl) rfl rfl ?_
      refine wn_virS (pc' := 44) rfl rfl (by decide) rfl rfl o_h3 (Nat.le_of_ble_eq_true rfl) (x_takeNumberB _ _ lr _ _ _ _ _ _ _ o_h3 nmF_nz (nI (0)) (-1)) (fun r9 h110 e111 => ?_)
      obtain ⟨rfl, e9⟩ := e111
      rw [e9]
      show Wn _ _ 44 _ [.int (-1)] h3 _
      refine wn_st (pc' := 46) (q := 4) (kin := 0) (lv' := [(0, .ref (2)), (1, .int (nI (f0))), (2, .int (-1)), (3, .int (-1)), (4, .int (-1))]) rfl (fun _ _ _ => rfl) rfl (Nat.le_of_ble_eq_true rfl) rfl ?_
      refine wn_ld (pc' := 47) (q := 0) (kin := 2) (v := .ref (2)) rfl (fun _ _ _ => rfl) rfl rfl ?_
      refine wn_go (pc' := 49) (lv' := [(0, .ref (2)), (1, .int (nI (f0))), (2, .int (-1)), (3, .int (-1)), (4, .int (-1))]) (st' := [.retAddr 9, .ref (2)]) rfl (fun _ _ _ k9 => ⟨by decide, k9⟩) ?_
      refine wn_virS (pc' := 52) rfl rfl (by decide) rfl rfl o_h3 (Nat.le_of_ble_eq_true rfl) (x_takeWordB _ _ t ct n p lr (nI (nmF t n p)) (nI (tkF t n p)) hn hp ((fr2 fr_h3 (by decide)).trans o1) o1v o_h3 nmF_nz 9 (by omega)) (fun r9 h112 e113 => ?_)
      obtain ⟨rfl, f_h112, p_h112, hp_h112, o_h112⟩ := e113
      have fr_h112 := Fr.tr fr_h3 f_h112 (fun _ q => q)
      show Wn _ _ 52 _ [] h112 _
      refine wn_ld (pc' := 53) (q := 0) (kin := 2) (v := .ref (2)) rfl (fun _ _ _ => rfl) rfl rfl ?_
      refine wn_ic (pc' := 54) (w := nI 0) rfl rfl (by decide) ?_
      refine wn_ld (pc' := 55) (q := 3) (kin := 0) (v := .int (-1)) rfl (fun _ _ _ => rfl) rfl rfl ?_
      refine wn_virS (pc' := 58) rfl rfl (by decide) rfl rfl o_h112 (Nat.le_of_ble_eq_true rfl) (x_takeNumberB _ _ lr _ _ _ _ _ _ _ o_h112 nmF_nz (nI (0)) (-1)) (fun r9 h114 e115 => ?_)
      obtain ⟨rfl, e9⟩ := e115
      rw [e9]
      show Wn _ _ 58 _ [.int (-1)] h112 _
      refine wn_st (pc' := 60) (q := 5) (kin := 0) (lv' := [(0, .ref (2)), (1, .int (nI (f0))), (2, .int (-1)), (3, .int (-1)), (4, .int (-1)), (5, .int (-1))]) rfl (fun _ _ _ => rfl) rfl (Nat.le_of_ble_eq_true rfl) rfl ?_
      refine wn_ld (pc' := 61) (q := 0) (kin := 2) (v := .ref (2)) rfl (fun _ _ _ => rfl) rfl rfl ?_
      refine wn_go (pc' := 63) (lv' := [(0, .ref (2)), (1, .int (nI (f0))), (2, .int (-1)), (3, .int (-1)), (4, .int (-1)), (5, .int (-1))]) (st' := [.retAddr 10, .ref (2)]) rfl (fun _ _ _ k9 => ⟨by decide, k9⟩) ?_
      refine wn_virS (pc' := 66) rfl rfl (by decide) rfl rfl o_h112 (Nat.le_of_ble_eq_true rfl) (x_takeWordB _ _ t ct n p_h112 lr (nI (nmF t n p)) (nI (tkF t n p)) hn hp_h112 ((fr2 fr_h112 (by decide)).trans o1) o1v o_h112 nmF_nz 10 (by omega)) (fun r9 h116 e117 => ?_)
      obtain ⟨rfl, f_h116, p_h116, hp_h116, o_h116⟩ := e117
      have fr_h116 := Fr.tr fr_h112 f_h116 (fun _ q => q)
      show Wn _ _ 66 _ [] h116 _
      refine wn_ld (pc' := 67) (q := 0) (kin := 2) (v := .ref (2)) rfl (fun _ _ _ => rfl) rfl rfl ?_
      refine wn_get (pc' := 70) (v := .ref (lr)) rfl rfl o_h116 rfl ?_
      refine wn_get (pc' := 73) (v := .ref (lr + 9)) rfl rfl ((fr2 fr_h116 (by omega)).trans l0) rfl ?_
      refine wn_get (pc' := 76) (v := .int (nI (npW w))) rfl rfl ((fr2 fr_h116 (by omega)).trans k1) rfl ?_
      refine wn_st (pc' := 78) (q := 6) (kin := 0) (lv' := [(0, .ref (2)), (1, .int (nI (f0))), (2, .int (-1)), (3, .int (-1)), (4, .int (-1)), (5, .int (-1)), (6, .int (nI (npW w)))]) rfl (fun _ _ _ => rfl) rfl (Nat.le_of_ble_eq_true rfl) rfl ?_
      refine wn_ld (pc' := 79) (q := 0) (kin := 2) (v := .ref (2)) rfl (fun _ _ _ => rfl) rfl rfl ?_
      refine wn_ld (pc' := 80) (q := 3) (kin := 0) (v := .int (-1)) rfl (fun _ _ _ => rfl) rfl rfl ?_
      refine wn_virS (pc' := 83) rfl rfl (by decide) rfl rfl o_h116 (Nat.le_of_ble_eq_true rfl) (x_readSumB _ _ lr _ _ _ _ _ _ _ o_h116 nmF_nz (-1)) (fun r9 h118 e119 => ?_)
      obtain ⟨rfl, e9⟩ := e119
      rw [e9]
      show Wn _ _ 83 _ [] h116 _
      refine wn_ld (pc' := 84) (q := 0) (kin := 2) (v := .ref (2)) rfl (fun _ _ _ => rfl) rfl rfl ?_
      refine wn_virS (pc' := 87) rfl rfl (by decide) rfl rfl o_h116 (Nat.le_of_ble_eq_true rfl) (x_signB _ _ t ct n p_h116 lr (nI (nmF t n p)) (nI (tkF t n p)) hn hp_h116 ((fr2 fr_h116 (by decide)).trans o1) o1v o_h116 nmF_nz) (fun r9 h120 e121 => ?_)
      obtain ⟨sx_h120, rfl, f_h120, p_h120, hp_h120, o_h120⟩ := e121
      have fr_h120 := Fr.tr fr_h116 f_h120 (fun _ q => q)
      show Wn _ _ 87 _ [.int (sx_h120)] h120 _
      refine wn_st (pc' := 89) (q := 7) (kin := 0) (lv' := [(0, .ref (2)), (1, .int (nI (f0))), (2, .int (-1)), (3, .int (-1)), (4, .int (-1)), (5, .int (-1)), (6, .int (nI (npW w))), (7, .int (sx_h120))]) rfl (fun _ _ _ => rfl) rfl (Nat.le_of_ble_eq_true rfl) rfl ?_
      refine wn_ld (pc' := 90) (q := 0) (kin := 2) (v := .ref (2)) rfl (fun _ _ _ => rfl) rfl rfl ?_
      refine wn_get (pc' := 93) (v := .ref (lr)) rfl rfl o_h120 rfl ?_
      refine wn_get (pc' := 96) (v := .ref (lr + 9)) rfl rfl ((fr2 fr_h120 (by omega)).trans l0) rfl ?_
      refine wn_get (pc' := 99) (v := .int (nI (npW w))) rfl rfl ((fr2 fr_h120 (by omega)).trans k1) rfl ?_
      refine wn_st (pc' := 101) (q := 8) (kin := 0) (lv' := [(0, .ref (2)), (1, .int (nI (f0))), (2, .int (-1)), (3, .int (-1)), (4, .int (-1)), (5, .int (-1)), (6, .int (nI (npW w))), (7, .int (sx_h120)), (8, .int (nI (npW w)))]) rfl (fun _ _ _ => rfl) rfl (Nat.le_of_ble_eq_true rfl) rfl ?_
      refine wn_ld (pc' := 102) (q := 0) (kin := 2) (v := .ref (2)) rfl (fun _ _ _ => rfl) rfl rfl ?_
      refine wn_ld (pc' := 103) (q := 3) (kin := 0) (v := .int (-1)) rfl (fun _ _ _ => rfl) rfl rfl ?_
      refine wn_virS (pc' := 106) rfl rfl (by decide) rfl rfl o_h120 (Nat.le_of_ble_eq_true rfl) (x_readSumB _ _ lr _ _ _ _ _ _ _ o_h120 nmF_nz (-1)) (fun r9 h122 e123 => ?_)
      obtain ⟨rfl, e9⟩ := e123
      rw [e9]
      show Wn _ _ 106 _ [] h120 _
      refine wn_ld (pc' := 107) (q := 0) (kin := 2) (v := .ref (2)) rfl (fun _ _ _ => rfl) rfl rfl ?_
      refine wn_virS (pc' := 110) rfl rfl (by decide) rfl rfl o_h120 (Nat.le_of_ble_eq_true rfl) (x_takeStopB _ _ t ct n p_h120 lr (nI (nmF t n p)) (nI (tkF t n p)) hn hp_h120 ((fr2 fr_h120 (by decide)).trans o1) o1v o_h120 nmF_nz) (fun r9 h124 e125 => ?_)
      obtain ⟨rfl, f_h124, p_h124, hp_h124, o_h124⟩ := e125
      have fr_h124 := Fr.tr fr_h120 f_h124 (fun _ q => q)
      show Wn _ _ 110 _ [] h124 _
      refine wn_ld (pc' := 111) (q := 0) (kin := 2) (v := .ref (2)) rfl (fun _ _ _ => rfl) rfl rfl ?_
      refine wn_get (pc' := 114) (v := .int (nI (nmF t n p))) rfl rfl o_h124 rfl ?_
      refine wn_ifc (t := 151) (f := 117) rfl rfl rfl (fun c126 => ?_) (fun c126 => ?_)
      · have c126 : ¬ ((nI (nmF t n p))) = 0 := c126
        have eR : LawR t n f0 p w (.inl (nmF t n p, tkF t n p)) := Or.inl ⟨w_h1, Or.inr ⟨w_h3, rfl⟩⟩
        exact wn_vret rfl rfl ⟨rfl, FrL.f2 (FrL.rfl' lr h) fr_h124, _, eR, CS_l nmF_nz hp_h124 o_h124 ((R1.s R2).kp (fun k p1 p2 => fr2 fr_h124 (by omega)))⟩
      · have c126 : ((nI (nmF t n p))) = 0 := c126
        exact absurd c126 nmF_nz
  · have fr_h1 := Fr.tr (Fr.rfl' [2] h) f_h1 (fun _ q => q)
    show Wn _ _ 17 _ [] h1 _
    refine wn_ld (pc' := 18) (q := 0) (kin := 2) (v := .ref (2)) rfl (fun _ _ _ => rfl) rfl rfl ?_
    refine wn_ic (pc' := 19) (w := nI 0) rfl rfl (by decide) ?_
    refine wn_ld (pc' := 20) (q := 0) (kin := 2) (v := .ref (2)) rfl (fun _ _ _ => rfl) rfl rfl ?_
    refine wn_get (pc' := 23) (v := .ref (lr)) rfl rfl o_h1 rfl ?_
    refine wn_get (pc' := 26) (v := .int (nI (ntW w))) rfl rfl ((fr2 fr_h1 (by omega)).trans l0) rfl ?_
    refine wn_ic (pc' := 27) (w := nI 1) rfl rfl (by decide) ?_
    refine wn_pu (pc' := 28) (st' := [.int ((nI (ntW w)) - (nI (1))), .int (nI (0)), .ref (2)]) rfl (fun _ _ _ => rfl) rfl rfl ?_
    refine wn_virS (pc' := 31) rfl rfl (by decide) rfl rfl o_h1 (Nat.le_of_ble_eq_true rfl) (x_takeNumberB _ _ lr _ _ _ _ _ _ _ o_h1 (show ¬ nI 3 = 0 by decide) (nI (0)) ((nI (ntW w)) - (nI (1)))) (fun r9 h127 e128 => ?_)
    obtain ⟨rfl, e9⟩ := e128
    rw [e9]
    show Wn _ _ 31 _ [.int (-1)] h1 _
    refine wn_st (pc' := 32) (q := 2) (kin := 0) (lv' := [(0, .ref (2)), (1, .int (nI (f0))), (2, .int (-1))]) rfl (fun _ _ _ => rfl) rfl (Nat.le_of_ble_eq_true rfl) rfl ?_
    refine wn_ld (pc' := 33) (q := 0) (kin := 2) (v := .ref (2)) rfl (fun _ _ _ => rfl) rfl rfl ?_
    refine wn_ld (pc' := 34) (q := 2) (kin := 0) (v := .int (-1)) rfl (fun _ _ _ => rfl) rfl rfl ?_
    refine wn_virI (pc' := 37) rfl rfl (by decide) rfl rfl o_h1 (Nat.le_of_ble_eq_true rfl) (x_hvN _ _) ?_
    refine wn_st (pc' := 38) (q := 3) (kin := 0) (lv' := [(0, .ref (2)), (1, .int (nI (f0))), (2, .int (-1)), (3, .int (-1))]) rfl (fun _ _ _ => rfl) rfl (Nat.le_of_ble_eq_true rfl) rfl ?_
    refine wn_ld (pc' := 39) (q := 0) (kin := 2) (v := .ref (2)) rfl (fun _ _ _ => rfl) rfl rfl ?_
    refine wn_ic (pc' := 40) (w := nI 0) rfl rfl (by decide) ?_
    refine wn_ld (pc' := 41) (q := 3) (kin := 0) (v := .int (-1)) rfl (fun _ _ _ => rfl) rfl rfl ?_
    refine wn_virS (pc' := 44) rfl rfl (by decide) rfl rfl o_h1 (Nat.le_of_ble_eq_true rfl) (x_takeNumberB _ _ lr _ _ _ _ _ _ _ o_h1 (show ¬ nI 3 = 0 by decide) (nI (0)) (-1)) (fun r9 h129 e130 => ?_)
    obtain ⟨rfl, e9⟩ := e130
    rw [e9]
    show Wn _ _ 44 _ [.int (-1)] h1 _
    refine wn_st (pc' := 46) (q := 4) (kin := 0) (lv' := [(0, .ref (2)), (1, .int (nI (f0))), (2, .int (-1)), (3, .int (-1)), (4, .int (-1))]) rfl (fun _ _ _ => rfl) rfl (Nat.le_of_ble_eq_true rfl) rfl ?_
    refine wn_ld (pc' := 47) (q := 0) (kin := 2) (v := .ref (2)) rfl (fun _ _ _ => rfl) rfl rfl ?_
    refine wn_go (pc' := 49) (lv' := [(0, .ref (2)), (1, .int (nI (f0))), (2, .int (-1)), (3, .int (-1)), (4, .int (-1))]) (st' := [.retAddr 9, .ref (2)]) rfl (fun _ _ _ k9 => ⟨by decide, k9⟩) ?_
    refine wn_virS (pc' := 52) rfl rfl (by decide) rfl rfl o_h1 (Nat.le_of_ble_eq_true rfl) (x_takeWordB _ _ t ct n p lr (nI (3)) (nI (f0)) hn hp ((fr2 fr_h1 (by decide)).trans o1) o1v o_h1 (show ¬ nI 3 = 0 by decide) 9 (by omega)) (fun r9 h131 e132 => ?_)
    obtain ⟨rfl, f_h131, p_h131, hp_h131, o_h131⟩ := e132
    have fr_h131 := Fr.tr fr_h1 f_h131 (fun _ q => q)
    show Wn _ _ 52 _ [] h131 _
    refine wn_ld (pc' := 53) (q := 0) (kin := 2) (v := .ref (2)) rfl (fun _ _ _ => rfl) rfl rfl ?_
    refine wn_ic (pc' := 54) (w := nI 0) rfl rfl (by decide) ?_
    refine wn_ld (pc' := 55) (q := 3) (kin := 0) (v := .int (-1)) rfl (fun _ _ _ => rfl) rfl rfl ?_
    refine wn_virS (pc' := 58) rfl rfl (by decide) rfl rfl o_h131 (Nat.le_of_ble_eq_true rfl) (x_takeNumberB _ _ lr _ _ _ _ _ _ _ o_h131 (show ¬ nI 3 = 0 by decide) (nI (0)) (-1)) (fun r9 h133 e134 => ?_)
    obtain ⟨rfl, e9⟩ := e134
    rw [e9]
    show Wn _ _ 58 _ [.int (-1)] h131 _
    refine wn_st (pc' := 60) (q := 5) (kin := 0) (lv' := [(0, .ref (2)), (1, .int (nI (f0))), (2, .int (-1)), (3, .int (-1)), (4, .int (-1)), (5, .int (-1))]) rfl (fun _ _ _ => rfl) rfl (Nat.le_of_ble_eq_true rfl) rfl ?_
    refine wn_ld (pc' := 61) (q := 0) (kin := 2) (v := .ref (2)) rfl (fun _ _ _ => rfl) rfl rfl ?_
    refine wn_go (pc' := 63) (lv' := [(0, .ref (2)), (1, .int (nI (f0))), (2, .int (-1)), (3, .int (-1)), (4, .int (-1)), (5, .int (-1))]) (st' := [.retAddr 10, .ref (2)]) rfl (fun _ _ _ k9 => ⟨by decide, k9⟩) ?_
    refine wn_virS (pc' := 66) rfl rfl (by decide) rfl rfl o_h131 (Nat.le_of_ble_eq_true rfl) (x_takeWordB _ _ t ct n p_h131 lr (nI (3)) (nI (f0)) hn hp_h131 ((fr2 fr_h131 (by decide)).trans o1) o1v o_h131 (show ¬ nI 3 = 0 by decide) 10 (by omega)) (fun r9 h135 e136 => ?_)
    obtain ⟨rfl, f_h135, p_h135, hp_h135, o_h135⟩ := e136
    have fr_h135 := Fr.tr fr_h131 f_h135 (fun _ q => q)
    show Wn _ _ 66 _ [] h135 _
    refine wn_ld (pc' := 67) (q := 0) (kin := 2) (v := .ref (2)) rfl (fun _ _ _ => rfl) rfl rfl ?_
    refine wn_get (pc' := 70) (v := .ref (lr)) rfl rfl o_h135 rfl ?_
    refine wn_get (pc' := 73) (v := .ref (lr + 9)) rfl rfl ((fr2 fr_h135 (by omega)).trans l0) rfl ?_
    refine wn_get (pc' := 76) (v := .int (nI (npW w))) rfl rfl ((fr2 fr_h135 (by omega)).trans k1) rfl ?_
    refine wn_st (pc' := 78) (q := 6) (kin := 0) (lv' := [(0, .ref (2)), (1, .int (nI (f0))), (2, .int (-1)), (3, .int (-1)), (4, .int (-1)), (5, .int (-1)), (6, .int (nI (npW w)))]) rfl (fun _ _ _ => rfl) rfl (Nat.le_of_ble_eq_true rfl) rfl ?_
    refine wn_ld (pc' := 79) (q := 0) (kin := 2) (v := .ref (2)) rfl (fun _ _ _ => rfl) rfl rfl ?_
    refine wn_ld (pc' := 80) (q := 3) (kin := 0) (v := .int (-1)) rfl (fun _ _ _ => rfl) rfl rfl ?_
    refine wn_virS (pc' := 83) rfl rfl (by decide) rfl rfl o_h135 (Nat.le_of_ble_eq_true rfl) (x_readSumB _ _ lr _ _ _ _ _ _ _ o_h135 (show ¬ nI 3 = 0 by decide) (-1)) (fun r9 h137 e138 => ?_)
    obtain ⟨rfl, e9⟩ := e138
    rw [e9]
    show Wn _ _ 83 _ [] h135 _
    refine wn_ld (pc' := 84) (q := 0) (kin := 2) (v := .ref (2)) rfl (fun _ _ _ => rfl) rfl rfl ?_
    refine wn_virS (pc' := 87) rfl rfl (by decide) rfl rfl o_h135 (Nat.le_of_ble_eq_true rfl) (x_signB _ _ t ct n p_h135 lr (nI (3)) (nI (f0)) hn hp_h135 ((fr2 fr_h135 (by decide)).trans o1) o1v o_h135 (show ¬ nI 3 = 0 by decide)) (fun r9 h139 e140 => ?_)
    obtain ⟨sx_h139, rfl, f_h139, p_h139, hp_h139, o_h139⟩ := e140
    have fr_h139 := Fr.tr fr_h135 f_h139 (fun _ q => q)
    show Wn _ _ 87 _ [.int (sx_h139)] h139 _
    refine wn_st (pc' := 89) (q := 7) (kin := 0) (lv' := [(0, .ref (2)), (1, .int (nI (f0))), (2, .int (-1)), (3, .int (-1)), (4, .int (-1)), (5, .int (-1)), (6, .int (nI (npW w))), (7, .int (sx_h139))]) rfl (fun _ _ _ => rfl) rfl (Nat.le_of_ble_eq_true rfl) rfl ?_
    refine wn_ld (pc' := 90) (q := 0) (kin := 2) (v := .ref (2)) rfl (fun _ _ _ => rfl) rfl rfl ?_
    refine wn_get (pc' := 93) (v := .ref (lr)) rfl rfl o_h139 rfl ?_
    refine wn_get (pc' := 96) (v := .ref (lr + 9)) rfl rfl ((fr2 fr_h139 (by omega)).trans l0) rfl ?_
    refine wn_get (pc' := 99) (v := .int (nI (npW w))) rfl rfl ((fr2 fr_h139 (by omega)).trans k1) rfl ?_
    refine wn_st (pc' := 101) (q := 8) (kin := 0) (lv' := [(0, .ref (2)), (1, .int (nI (f0))), (2, .int (-1)), (3, .int (-1)), (4, .int (-1)), (5, .int (-1)), (6, .int (nI (npW w))), (7, .int (sx_h139)), (8, .int (nI (npW w)))]) rfl (fun _ _ _ => rfl) rfl (Nat.le_of_ble_eq_true rfl) rfl ?_
    refine wn_ld (pc' := 102) (q := 0) (kin := 2) (v := .ref (2)) rfl (fun _ _ _ => rfl) rfl rfl ?_
    refine wn_ld (pc' := 103) (q := 3) (kin := 0) (v := .int (-1)) rfl (fun _ _ _ => rfl) rfl rfl ?_
    refine wn_virS (pc' := 106) rfl rfl (by decide) rfl rfl o_h139 (Nat.le_of_ble_eq_true rfl) (x_readSumB _ _ lr _ _ _ _ _ _ _ o_h139 (show ¬ nI 3 = 0 by decide) (-1)) (fun r9 h141 e142 => ?_)
    obtain ⟨rfl, e9⟩ := e142
    rw [e9]
    show Wn _ _ 106 _ [] h139 _
    refine wn_ld (pc' := 107) (q := 0) (kin := 2) (v := .ref (2)) rfl (fun _ _ _ => rfl) rfl rfl ?_
    refine wn_virS (pc' := 110) rfl rfl (by decide) rfl rfl o_h139 (Nat.le_of_ble_eq_true rfl) (x_takeStopB _ _ t ct n p_h139 lr (nI (3)) (nI (f0)) hn hp_h139 ((fr2 fr_h139 (by decide)).trans o1) o1v o_h139 (show ¬ nI 3 = 0 by decide)) (fun r9 h143 e144 => ?_)
    obtain ⟨rfl, f_h143, p_h143, hp_h143, o_h143⟩ := e144
    have fr_h143 := Fr.tr fr_h139 f_h143 (fun _ q => q)
    show Wn _ _ 110 _ [] h143 _
    refine wn_ld (pc' := 111) (q := 0) (kin := 2) (v := .ref (2)) rfl (fun _ _ _ => rfl) rfl rfl ?_
    refine wn_get (pc' := 114) (v := .int (nI (3))) rfl rfl o_h143 rfl ?_
    refine wn_ifc (t := 151) (f := 117) rfl rfl rfl (fun c145 => ?_) (fun c145 => ?_)
    · have c145 : ¬ ((nI (3))) = 0 := c145
      have eR : LawR t n f0 p w (.inl (3, f0)) := Or.inr ⟨w_h1, rfl⟩
      exact wn_vret rfl rfl ⟨rfl, FrL.f2 (FrL.rfl' lr h) fr_h143, _, eR, CS_l (show ¬ nI 3 = 0 by decide) hp_h143 o_h143 ((R1.s R2).kp (fun k p1 p2 => fr2 fr_h143 (by omega)))⟩
    · have c145 : ((nI (3))) = 0 := c145
      exact absurd c145 (show ¬ nI 3 = 0 by decide)

