/-! THE REFERENCE'S READER: sums, laws, lines -/
theorem m_readSum (d : Nat) (h : aH) (t : Nat → Int32) (n p : Nat) (w : Nat → Int32) (hn : n ≤ 1200) (hp : p ≤ n) (hb : byT t) (hJ : WJ w) (th tl vl il : Int32) (up lo : Int64) (hv : vlP t n p vl) (q0 : isO h 71 9 (moS t n p th tl vl (nI 0) (-1) il up lo)) (q4 : isB h 75 1200 t) (q6 : isI h 77 2676 w) (h5 : 5 * npW w + 4 ≤ p) (i : Nat) (hi : i < ntW w) (j0 : Nat) : Sp (Rn (d + 5)) 170 [.ref (71), .int (nI (i)), .int (nI (j0))] h (fun r9 h9 => r9 = none ∧ Fr [71, 77] h h9 ∧ ∃ r, SumR t n (((vaW w i : Nat) : Int) - 1) j0 p w r ∧ MTs t n th tl il up lo h9 r) := by
  obtain ⟨e0, e0b⟩ := wj_0 hJ
  obtain ⟨⟨e1, e2⟩, ⟨e3, e4⟩, ⟨e5, e6⟩⟩ := Wf_n hJ.wf
  obtain ⟨⟨e7, e8⟩, ⟨e9, e10⟩⟩ := Wf_m hJ.wf
  have hF := tkF_le (t := t) hp
  have hA := tkA_ge (t := t) (n := n) (p := p)
  have hA2 := tkA_le (t := t) hp
  have hK := tkK_le (t := t) (n := n) (p := p)
  have hvi := wf_vab hJ.wf hi
  refine Sp_of (by decide) (Nat.le_of_ble_eq_true rfl) ?_
  show Wn _ _ 0 [(0, .ref (71)), (1, .int (nI (i))), (2, .int (nI (j0)))] [] _ _
  refine wn_ld (pc' := 1) (q := 0) (kin := 2) (v := .ref (71)) rfl (fun _ _ _ => rfl) rfl rfl ?_
  refine wn_ld (pc' := 2) (q := 1) (kin := 0) (v := .int (nI (i))) rfl (fun _ _ _ => rfl) rfl rfl ?_
  refine wn_ld (pc' := 3) (q := 2) (kin := 0) (v := .int (nI (j0))) rfl (fun _ _ _ => rfl) rfl rfl ?_
  refine wn_virS (pc' := 6) rfl rfl (by decide) rfl rfl q0 (Nat.le_of_ble_eq_true rfl) (m_readPart _ _ t n p w hn hp hb hJ th tl _ il up lo hv q0 q4 q6 (by omega) i (by omega) j0) (fun r9 h1 e2 => ?_)
  obtain ⟨rfl, F_h1, M_h1⟩ := e2
  have G_h1 := Fr.tr (Fr.tr (Fr.rfl' [71, 77] h) (fw (Fr.rfl' [71] h)) (fun _ q => q)) F_h1 (fun _ q => q)
  show Wn _ _ 6 _ [] h1 _
  have lp3 : ∀ (n_lp3 : Nat) (g : aH) (m : Nat) (r : PR), 1200 + 1 ≤ m + n_lp3 → m ≤ 1200 → Fr [71, 77] h g → MTs t n th tl il up lo g r → SuI t n (((vaW w i : Nat) : Int) - 1) j0 p w m r → Wn (Rn (d + 4)) 170 6 [(0, .ref (71)), (1, .int (nI (i)))] [] g (fun r9 h9 => r9 = none ∧ Fr [71, 77] h h9 ∧ ∃ r, SumR t n (((vaW w i : Nat) : Int) - 1) j0 p w r ∧ MTs t n th tl il up lo h9 r) := by
    intro n_lp3
    induction n_lp3 with
    | zero => intro g m r hm hi1 hfr hC hS; exfalso; omega
    | succ n_lp3 ih =>
      intro g m r hm hi1 hfr hC hS
      rcases r with e0 | ⟨p1, w1⟩
      · obtain ⟨hb_g, sz_g, at_g, fr9_g, tk_g, vl_g, o_g, f9_g, q_g⟩ := hC
        refine wn_ld (pc' := 7) (q := 0) (kin := 2) (v := .ref (71)) rfl (fun _ _ _ => rfl) rfl rfl ?_
        refine wn_go (pc' := 9) (lv' := [(0, .ref (71)), (1, .int (nI (i)))]) (st' := [.retAddr 15, .ref (71)]) rfl (fun _ _ _ k9 => ⟨by decide, k9⟩) ?_
        refine wn_virI (pc' := 12) rfl rfl (by decide) rfl rfl o_g (Nat.le_of_ble_eq_true rfl) (m_isB _ _ _ _ _ _ _ _ _ _ _ _ _ _ hb_g o_g 15 (by omega)) ?_
        refine wn_ifN (t := 33) (f := 15) rfl rfl rfl (by omega) (fun c4 => ?_) (fun c4 => ?_)
        · have c4 : ¬ 0 = 0 := c4
          exact absurd c4 (by decide)
        · have c4 : 0 = 0 := c4
          refine wn_ld (pc' := 16) (q := 0) (kin := 2) (v := .ref (71)) rfl (fun _ _ _ => rfl) rfl rfl ?_
          refine wn_go (pc' := 18) (lv' := [(0, .ref (71)), (1, .int (nI (i)))]) (st' := [.retAddr 16, .ref (71)]) rfl (fun _ _ _ k9 => ⟨by decide, k9⟩) ?_
          refine wn_virI (pc' := 21) rfl rfl (by decide) rfl rfl o_g (Nat.le_of_ble_eq_true rfl) (m_isB _ _ _ _ _ _ _ _ _ _ _ _ _ _ hb_g o_g 16 (by omega)) ?_
          refine wn_ifN (t := 33) (f := 24) rfl rfl rfl (by omega) (fun c5 => ?_) (fun c5 => ?_)
          · have c5 : ¬ 0 = 0 := c5
            exact absurd c5 (by decide)
          · have c5 : 0 = 0 := c5
            refine wn_ld (pc' := 25) (q := 0) (kin := 2) (v := .ref (71)) rfl (fun _ _ _ => rfl) rfl rfl ?_
            refine wn_go (pc' := 27) (lv' := [(0, .ref (71)), (1, .int (nI (i)))]) (st' := [.retAddr 14, .ref (71)]) rfl (fun _ _ _ k9 => ⟨by decide, k9⟩) ?_
            refine wn_virI (pc' := 30) rfl rfl (by decide) rfl rfl o_g (Nat.le_of_ble_eq_true rfl) (m_isB _ _ _ _ _ _ _ _ _ _ _ _ _ _ hb_g o_g 14 (by omega)) ?_
            refine wn_ifN (t := 74) (f := 33) rfl rfl rfl (by omega) (fun c6 => ?_) (fun c6 => ?_)
            · have c6 : 0 = 0 := c6
              exact wn_vret rfl rfl ⟨rfl, hfr, .inl e0, hS.1 _ rfl, MT_l hb_g o_g q_g⟩
            · have c6 : ¬ 0 = 0 := c6
              exact absurd c6 (by decide)
      · obtain ⟨hS1, J1, h51, hp1, hm1, en1, ev9⟩ := id hS
        have ev1 := ev9 i (by omega)
        obtain ⟨vl_g, hv_g, o_g, q_g⟩ := hC
        obtain ⟨e0y, e0by⟩ := wj_0 J1
        obtain ⟨⟨e1y, e2y⟩, ⟨e3y, e4y⟩, ⟨e5y, e6y⟩⟩ := Wf_n J1.wf
        obtain ⟨⟨e7y, e8y⟩, ⟨e9y, e10y⟩⟩ := Wf_m J1.wf
        have := tkF_le (t := t) (p := p1) hp1
        have := tkA_ge (t := t) (n := n) (p := p1)
        have := tkA_le (t := t) (p := p1) hp1
        have := tkK_le (t := t) (n := n) (p := p1)
        refine wn_ld (pc' := 7) (q := 0) (kin := 2) (v := .ref (71)) rfl (fun _ _ _ => rfl) rfl rfl ?_
        refine wn_go (pc' := 9) (lv' := [(0, .ref (71)), (1, .int (nI (i)))]) (st' := [.retAddr 15, .ref (71)]) rfl (fun _ _ _ k9 => ⟨by decide, k9⟩) ?_
        refine wn_virI (pc' := 12) rfl rfl (by decide) rfl rfl o_g (Nat.le_of_ble_eq_true rfl) (m_is0 _ _ t n p1 hn hp1 hb th tl _ il up lo hv_g o_g ((hfr.2 75 (by decide)).trans q4) 15 (by omega)) ?_
        refine wn_ifneB (t := 33) (f := 15) rfl rfl rfl (fun c7 => ?_) (fun c7 => ?_)
        · have c7 : (isWd t n p1 15) := c7
          refine wn_ld (pc' := 34) (q := 0) (kin := 2) (v := .ref (71)) rfl (fun _ _ _ => rfl) rfl rfl ?_
          refine wn_go (pc' := 36) (lv' := [(0, .ref (71)), (1, .int (nI (i)))]) (st' := [.retAddr 15, .ref (71)]) rfl (fun _ _ _ k9 => ⟨by decide, k9⟩) ?_
          refine wn_virI (pc' := 39) rfl rfl (by decide) rfl rfl o_g (Nat.le_of_ble_eq_true rfl) (m_is0 _ _ t n p1 hn hp1 hb th tl _ il up lo hv_g o_g ((hfr.2 75 (by decide)).trans q4) 15 (by omega)) ?_
          refine wn_ifeqB (t := 46) (f := 42) rfl rfl rfl (fun c8 => ?_) (fun c8 => ?_)
          · have c8 : ¬ (isWd t n p1 15) := c8
            exact absurd c7 c8
          · have c8 : (isWd t n p1 15) := c8
            refine wn_ic (pc' := 43) (w := nI 1) rfl rfl (by decide) ?_
            refine wn_jp (pc' := 60) rfl rfl ?_
            refine wn_st (pc' := 61) (q := 3) (kin := 0) (lv' := [(0, .ref (71)), (1, .int (nI (i))), (3, .int (nI (1)))]) rfl (fun _ _ _ => rfl) rfl (Nat.le_of_ble_eq_true rfl) rfl ?_
            refine wn_ld (pc' := 62) (q := 0) (kin := 2) (v := .ref (71)) rfl (fun _ _ _ => rfl) rfl rfl ?_
            refine wn_virS (pc' := 65) rfl rfl (by decide) rfl rfl o_g (Nat.le_of_ble_eq_true rfl) (m_advance _ _ t n (tkA t n p1) hn (tkA_le hp1) hb th tl _ _ _ (nI 0) (-1) il up lo o_g ((hfr.2 75 (by decide)).trans q4)) (fun r9 h9 e10 => ?_)
            obtain ⟨rfl, f_h9, vl_h9, hv_h9, o_h9⟩ := e10
            have fr_h9 := Fr.tr (Fr.rfl' [71] g) f_h9 (fun _ q => q)
            have := tkF_le (t := t) (p := (tkA t n p1)) (tkA_le hp1)
            have := tkA_ge (t := t) (n := n) (p := (tkA t n p1))
            have := tkA_le (t := t) (p := (tkA t n p1)) (tkA_le hp1)
            have := tkK_le (t := t) (n := n) (p := (tkA t n p1))
            show Wn _ _ 65 _ [] h9 _
            refine wn_ld (pc' := 66) (q := 0) (kin := 2) (v := .ref (71)) rfl (fun _ _ _ => rfl) rfl rfl ?_
            refine wn_ld (pc' := 67) (q := 1) (kin := 0) (v := .int (nI (i))) rfl (fun _ _ _ => rfl) rfl rfl ?_
            refine wn_ld (pc' := 68) (q := 3) (kin := 0) (v := .int (nI (1))) rfl (fun _ _ _ => rfl) rfl rfl ?_
            have l9 := litL4
            have g9 := wd_gt c8
            refine wn_virS (pc' := 71) rfl rfl (by decide) rfl rfl o_h9 (Nat.le_of_ble_eq_true rfl) (m_readPart _ _ t n (tkA t n p1) w1 hn (tkA_le hp1) hb J1 th tl _ il up lo hv_h9 o_h9 ((fr_h9.2 75 (by decide)).trans ((hfr.2 75 (by decide)).trans q4)) ((fr_h9.2 77 (by decide)).trans q_g) (by omega) i (by omega) 1) (fun r9 h11 e12 => ?_)
            obtain ⟨rfl, F_h11, M_h11⟩ := e12
            have G_h11 := Fr.tr (Fr.tr hfr (fw fr_h9) (fun _ q => q)) F_h11 (fun _ q => q)
            rw [ev1] at M_h11
            show Wn _ _ 71 _ [] h11 _
            refine wn_jp (pc' := 6) rfl rfl ?_
            refine wn_weak (lv' := [(0, .ref (71)), (1, .int (nI (i)))]) (by simp) ?_
            exact ih h11 (m + 1) (prtR t n (((vaW w i : Nat) : Int) - 1) 1 (tkA t n p1) w1) (by omega) (by omega) G_h11 M_h11 (SuI_s hn (by omega) hS (show jnW t n p1 1 from c8))
        · have c7 : ¬ (isWd t n p1 15) := c7
          refine wn_ld (pc' := 16) (q := 0) (kin := 2) (v := .ref (71)) rfl (fun _ _ _ => rfl) rfl rfl ?_
          refine wn_go (pc' := 18) (lv' := [(0, .ref (71)), (1, .int (nI (i)))]) (st' := [.retAddr 16, .ref (71)]) rfl (fun _ _ _ k9 => ⟨by decide, k9⟩) ?_
          refine wn_virI (pc' := 21) rfl rfl (by decide) rfl rfl o_g (Nat.le_of_ble_eq_true rfl) (m_is0 _ _ t n p1 hn hp1 hb th tl _ il up lo hv_g o_g ((hfr.2 75 (by decide)).trans q4) 16 (by omega)) ?_
          refine wn_ifneB (t := 33) (f := 24) rfl rfl rfl (fun c13 => ?_) (fun c13 => ?_)
          · have c13 : (isWd t n p1 16) := c13
            refine wn_ld (pc' := 34) (q := 0) (kin := 2) (v := .ref (71)) rfl (fun _ _ _ => rfl) rfl rfl ?_
            refine wn_go (pc' := 36) (lv' := [(0, .ref (71)), (1, .int (nI (i)))]) (st' := [.retAddr 15, .ref (71)]) rfl (fun _ _ _ k9 => ⟨by decide, k9⟩) ?_
            refine wn_virI (pc' := 39) rfl rfl (by decide) rfl rfl o_g (Nat.le_of_ble_eq_true rfl) (m_is0 _ _ t n p1 hn hp1 hb th tl _ il up lo hv_g o_g ((hfr.2 75 (by decide)).trans q4) 15 (by omega)) ?_
            refine wn_ifeqB (t := 46) (f := 42) rfl rfl rfl (fun c14 => ?_) (fun c14 => ?_)
            · have c14 : ¬ (isWd t n p1 15) := c14
              refine wn_ld (pc' := 47) (q := 0) (kin := 2) (v := .ref (71)) rfl (fun _ _ _ => rfl) rfl rfl ?_
              refine wn_go (pc' := 49) (lv' := [(0, .ref (71)), (1, .int (nI (i)))]) (st' := [.retAddr 16, .ref (71)]) rfl (fun _ _ _ k9 => ⟨by decide, k9⟩) ?_
              refine wn_virI (pc' := 52) rfl rfl (by decide) rfl rfl o_g (Nat.le_of_ble_eq_true rfl) (m_is0 _ _ t n p1 hn hp1 hb th tl _ il up lo hv_g o_g ((hfr.2 75 (by decide)).trans q4) 16 (by omega)) ?_
              refine wn_ifeqB (t := 59) (f := 55) rfl rfl rfl (fun c15 => ?_) (fun c15 => ?_)
              · have c15 : ¬ (isWd t n p1 16) := c15
                exact absurd c13 c15
              · have c15 : (isWd t n p1 16) := c15
                refine wn_ic (pc' := 56) (w := nI 2) rfl rfl (by decide) ?_
                refine wn_jp (pc' := 60) rfl rfl ?_
                refine wn_st (pc' := 61) (q := 3) (kin := 0) (lv' := [(0, .ref (71)), (1, .int (nI (i))), (3, .int (nI (2)))]) rfl (fun _ _ _ => rfl) rfl (Nat.le_of_ble_eq_true rfl) rfl ?_
                refine wn_ld (pc' := 62) (q := 0) (kin := 2) (v := .ref (71)) rfl (fun _ _ _ => rfl) rfl rfl ?_
                refine wn_virS (pc' := 65) rfl rfl (by decide) rfl rfl o_g (Nat.le_of_ble_eq_true rfl) (m_advance _ _ t n (tkA t n p1) hn (tkA_le hp1) hb th tl _ _ _ (nI 0) (-1) il up lo o_g ((hfr.2 75 (by decide)).trans q4)) (fun r9 h16 e17 => ?_)
                obtain ⟨rfl, f_h16, vl_h16, hv_h16, o_h16⟩ := e17
                have fr_h16 := Fr.tr (Fr.rfl' [71] g) f_h16 (fun _ q => q)
                have := tkF_le (t := t) (p := (tkA t n p1)) (tkA_le hp1)
                have := tkA_ge (t := t) (n := n) (p := (tkA t n p1))
                have := tkA_le (t := t) (p := (tkA t n p1)) (tkA_le hp1)
                have := tkK_le (t := t) (n := n) (p := (tkA t n p1))
                show Wn _ _ 65 _ [] h16 _
                refine wn_ld (pc' := 66) (q := 0) (kin := 2) (v := .ref (71)) rfl (fun _ _ _ => rfl) rfl rfl ?_
                refine wn_ld (pc' := 67) (q := 1) (kin := 0) (v := .int (nI (i))) rfl (fun _ _ _ => rfl) rfl rfl ?_
                refine wn_ld (pc' := 68) (q := 3) (kin := 0) (v := .int (nI (2))) rfl (fun _ _ _ => rfl) rfl rfl ?_
                have l9 := litL4
                have g9 := wd_gt c15
                refine wn_virS (pc' := 71) rfl rfl (by decide) rfl rfl o_h16 (Nat.le_of_ble_eq_true rfl) (m_readPart _ _ t n (tkA t n p1) w1 hn (tkA_le hp1) hb J1 th tl _ il up lo hv_h16 o_h16 ((fr_h16.2 75 (by decide)).trans ((hfr.2 75 (by decide)).trans q4)) ((fr_h16.2 77 (by decide)).trans q_g) (by omega) i (by omega) 2) (fun r9 h18 e19 => ?_)
                obtain ⟨rfl, F_h18, M_h18⟩ := e19
                have G_h18 := Fr.tr (Fr.tr hfr (fw fr_h16) (fun _ q => q)) F_h18 (fun _ q => q)
                rw [ev1] at M_h18
                show Wn _ _ 71 _ [] h18 _
                refine wn_jp (pc' := 6) rfl rfl ?_
                refine wn_weak (lv' := [(0, .ref (71)), (1, .int (nI (i)))]) (by simp) ?_
                exact ih h18 (m + 1) (prtR t n (((vaW w i : Nat) : Int) - 1) 2 (tkA t n p1) w1) (by omega) (by omega) G_h18 M_h18 (SuI_s hn (by omega) hS (show jnW t n p1 2 from c15))
            · have c14 : (isWd t n p1 15) := c14
              exact absurd c14 c7
          · have c13 : ¬ (isWd t n p1 16) := c13
            refine wn_ld (pc' := 25) (q := 0) (kin := 2) (v := .ref (71)) rfl (fun _ _ _ => rfl) rfl rfl ?_
            refine wn_go (pc' := 27) (lv' := [(0, .ref (71)), (1, .int (nI (i)))]) (st' := [.retAddr 14, .ref (71)]) rfl (fun _ _ _ k9 => ⟨by decide, k9⟩) ?_
            refine wn_virI (pc' := 30) rfl rfl (by decide) rfl rfl o_g (Nat.le_of_ble_eq_true rfl) (m_is0 _ _ t n p1 hn hp1 hb th tl _ il up lo hv_g o_g ((hfr.2 75 (by decide)).trans q4) 14 (by omega)) ?_
            refine wn_ifeqB (t := 74) (f := 33) rfl rfl rfl (fun c20 => ?_) (fun c20 => ?_)
            · have c20 : ¬ (isWd t n p1 14) := c20
              exact wn_vret rfl rfl ⟨rfl, hfr, .inr (p1, w1), hS1 _ (Or.inl ⟨⟨c20, c7, c13⟩, rfl⟩), MT_r hv_g o_g q_g⟩
            · have c20 : (isWd t n p1 14) := c20
              refine wn_ld (pc' := 34) (q := 0) (kin := 2) (v := .ref (71)) rfl (fun _ _ _ => rfl) rfl rfl ?_
              refine wn_go (pc' := 36) (lv' := [(0, .ref (71)), (1, .int (nI (i)))]) (st' := [.retAddr 15, .ref (71)]) rfl (fun _ _ _ k9 => ⟨by decide, k9⟩) ?_
              refine wn_virI (pc' := 39) rfl rfl (by decide) rfl rfl o_g (Nat.le_of_ble_eq_true rfl) (m_is0 _ _ t n p1 hn hp1 hb th tl _ il up lo hv_g o_g ((hfr.2 75 (by decide)).trans q4) 15 (by omega)) ?_
              refine wn_ifeqB (t := 46) (f := 42) rfl rfl rfl (fun c21 => ?_) (fun c21 => ?_)
              · have c21 : ¬ (isWd t n p1 15) := c21
                refine wn_ld (pc' := 47) (q := 0) (kin := 2) (v := .ref (71)) rfl (fun _ _ _ => rfl) rfl rfl ?_
                refine wn_go (pc' := 49) (lv' := [(0, .ref (71)), (1, .int (nI (i)))]) (st' := [.retAddr 16, .ref (71)]) rfl (fun _ _ _ k9 => ⟨by decide, k9⟩) ?_
                refine wn_virI (pc' := 52) rfl rfl (by decide) rfl rfl o_g (Nat.le_of_ble_eq_true rfl) (m_is0 _ _ t n p1 hn hp1 hb th tl _ il up lo hv_g o_g ((hfr.2 75 (by decide)).trans q4) 16 (by omega)) ?_
                refine wn_ifeqB (t := 59) (f := 55) rfl rfl rfl (fun c22 => ?_) (fun c22 => ?_)
                · have c22 : ¬ (isWd t n p1 16) := c22
                  refine wn_ic (pc' := 60) (w := nI 3) rfl rfl (by decide) ?_
                  refine wn_st (pc' := 61) (q := 3) (kin := 0) (lv' := [(0, .ref (71)), (1, .int (nI (i))), (3, .int (nI (3)))]) rfl (fun _ _ _ => rfl) rfl (Nat.le_of_ble_eq_true rfl) rfl ?_
                  refine wn_ld (pc' := 62) (q := 0) (kin := 2) (v := .ref (71)) rfl (fun _ _ _ => rfl) rfl rfl ?_
                  refine wn_virS (pc' := 65) rfl rfl (by decide) rfl rfl o_g (Nat.le_of_ble_eq_true rfl) (m_advance _ _ t n (tkA t n p1) hn (tkA_le hp1) hb th tl _ _ _ (nI 0) (-1) il up lo o_g ((hfr.2 75 (by decide)).trans q4)) (fun r9 h23 e24 => ?_)
                  obtain ⟨rfl, f_h23, vl_h23, hv_h23, o_h23⟩ := e24
                  have fr_h23 := Fr.tr (Fr.rfl' [71] g) f_h23 (fun _ q => q)
                  have := tkF_le (t := t) (p := (tkA t n p1)) (tkA_le hp1)
                  have := tkA_ge (t := t) (n := n) (p := (tkA t n p1))
                  have := tkA_le (t := t) (p := (tkA t n p1)) (tkA_le hp1)
                  have := tkK_le (t := t) (n := n) (p := (tkA t n p1))
                  show Wn _ _ 65 _ [] h23 _
                  refine wn_ld (pc' := 66) (q := 0) (kin := 2) (v := .ref (71)) rfl (fun _ _ _ => rfl) rfl rfl ?_
                  refine wn_ld (pc' := 67) (q := 1) (kin := 0) (v := .int (nI (i))) rfl (fun _ _ _ => rfl) rfl rfl ?_
                  refine wn_ld (pc' := 68) (q := 3) (kin := 0) (v := .int (nI (3))) rfl (fun _ _ _ => rfl) rfl rfl ?_
                  have l9 := litL4
                  have g9 := wd_gt c20
                  refine wn_virS (pc' := 71) rfl rfl (by decide) rfl rfl o_h23 (Nat.le_of_ble_eq_true rfl) (m_readPart _ _ t n (tkA t n p1) w1 hn (tkA_le hp1) hb J1 th tl _ il up lo hv_h23 o_h23 ((fr_h23.2 75 (by decide)).trans ((hfr.2 75 (by decide)).trans q4)) ((fr_h23.2 77 (by decide)).trans q_g) (by omega) i (by omega) 3) (fun r9 h25 e26 => ?_)
                  obtain ⟨rfl, F_h25, M_h25⟩ := e26
                  have G_h25 := Fr.tr (Fr.tr hfr (fw fr_h23) (fun _ q => q)) F_h25 (fun _ q => q)
                  rw [ev1] at M_h25
                  show Wn _ _ 71 _ [] h25 _
                  refine wn_jp (pc' := 6) rfl rfl ?_
                  refine wn_weak (lv' := [(0, .ref (71)), (1, .int (nI (i)))]) (by simp) ?_
                  exact ih h25 (m + 1) (prtR t n (((vaW w i : Nat) : Int) - 1) 3 (tkA t n p1) w1) (by omega) (by omega) G_h25 M_h25 (SuI_s hn (by omega) hS (show jnW t n p1 3 from c20))
                · have c22 : (isWd t n p1 16) := c22
                  exact absurd c22 c13
              · have c21 : (isWd t n p1 15) := c21
                exact absurd c21 c7
  refine wn_weak (lv' := [(0, .ref (71)), (1, .int (nI (i)))]) (by simp) ?_
  exact lp3 (1200 + 1) h1 0 (prtR t n (((vaW w i : Nat) : Int) - 1) j0 p w) (by omega) (by omega) G_h1 M_h1 (SuI_p hn (by omega) (fun r' hc => Cn_s hc) hJ h5 hp (by omega) rfl (fun _ _ => rfl))

theorem m_readLaw (d : Nat) (h : aH) (t : Nat → Int32) (n p : Nat) (w : Nat → Int32) (hn : n ≤ 1200) (hp : p ≤ n) (hb : byT t) (hJ : WJ w) (th tl vl il : Int32) (up lo : Int64) (hv : vlP t n p vl) (q0 : isO h 71 9 (moS t n p th tl vl (nI 0) (-1) il up lo)) (q4 : isB h 75 1200 t) (q6 : isI h 77 2676 w) (h53 : 5 * npW w + 3 ≤ p) (f0 : Nat) (hl20 : nlW w < 20) : Sp (Rn (d + 6)) 171 [.ref (71)] h (fun r9 h9 => r9 = none ∧ Fr [71, 77] h h9 ∧ ∃ r0, MTs t n th tl il up lo h9 r0 ∧ okW n r0 ∧ LawR t n f0 p w (stp t n r0)) := by
  obtain ⟨e0, e0b⟩ := wj_0 hJ
  obtain ⟨⟨e1, e2⟩, ⟨e3, e4⟩, ⟨e5, e6⟩⟩ := Wf_n hJ.wf
  obtain ⟨⟨e7, e8⟩, ⟨e9, e10⟩⟩ := Wf_m hJ.wf
  have hF := tkF_le (t := t) hp
  have hA := tkA_ge (t := t) (n := n) (p := p)
  have hA2 := tkA_le (t := t) hp
  have hK := tkK_le (t := t) (n := n) (p := p)
  refine Sp_of (by decide) (Nat.le_of_ble_eq_true rfl) ?_
  show Wn _ _ 0 [(0, .ref (71))] [] _ _
  refine wn_ld (pc' := 1) (q := 0) (kin := 2) (v := .ref (71)) rfl (fun _ _ _ => rfl) rfl rfl ?_
  refine wn_ic (pc' := 2) (w := nI 0) rfl rfl (by decide) ?_
  refine wn_ld (pc' := 3) (q := 0) (kin := 2) (v := .ref (71)) rfl (fun _ _ _ => rfl) rfl rfl ?_
  refine wn_get (pc' := 6) (v := .ref (77)) rfl rfl q0 rfl ?_
  refine wn_ic (pc' := 7) (w := nI 3) rfl rfl (by decide) ?_
  refine wn_ialdv (pc' := 8) (j := 3) (v := (nI (ntW w))) rfl rfl q6 rfl (by omega) (by decide) (e5) ?_
  refine wn_ic (pc' := 9) (w := nI 1) rfl rfl (by decide) ?_
  refine wn_pu (pc' := 10) (st' := [.int ((nI (ntW w)) - (nI (1))), .int (nI (0)), .ref (71)]) rfl (fun _ _ _ => rfl) rfl rfl ?_
  refine wn_virS (pc' := 13) rfl rfl (by decide) rfl rfl q0 (Nat.le_of_ble_eq_true rfl) (m_num0 _ _ t n p hn hp hb th tl _ il up lo hv q0 q4 0 (by omega) ((nI (ntW w)) - (nI (1))) (((ntW w : Nat) : Int) - 1) (sub1 (by omega)) (by omega)) (fun r9 h1 e2 => ?_)
  obtain ⟨f_h1, ⟨w_h1, rfl, vl_h1, hv_h1, o_h1⟩ | ⟨w_h1, rfl, o_h1⟩⟩ := e2
  · have fr_h1 := Fr.tr (Fr.rfl' [71] h) f_h1 (fun _ q => q)
    have := tkF_le (t := t) (p := (tkA t n p)) (tkA_le hp)
    have := tkA_ge (t := t) (n := n) (p := (tkA t n p))
    have := tkA_le (t := t) (p := (tkA t n p)) (tkA_le hp)
    have := tkK_le (t := t) (n := n) (p := (tkA t n p))
    have b1_h1 := w_h1.2.1
    have b2_h1 := w_h1.2.2
    have g_h1 := nm_gt w_h1
    show Wn _ _ 13 _ [.int (nI (tkV t n p))] h1 _
    refine wn_st (pc' := 14) (q := 1) (kin := 0) (lv' := [(0, .ref (71)), (1, .int (nI (tkV t n p)))]) rfl (fun _ _ _ => rfl) rfl (Nat.le_of_ble_eq_true rfl) rfl ?_
    refine wn_ld (pc' := 15) (q := 0) (kin := 2) (v := .ref (71)) rfl (fun _ _ _ => rfl) rfl rfl ?_
    refine wn_get (pc' := 18) (v := .ref (77)) rfl rfl o_h1 rfl ?_
    refine wn_sp (pc' := 21) (w := nI 176) rfl rfl (by decide) ?_
    refine wn_ic (pc' := 22) (w := nI 4) rfl rfl (by decide) ?_
    refine wn_ld (pc' := 23) (q := 1) (kin := 0) (v := .int (nI (tkV t n p))) rfl (fun _ _ _ => rfl) rfl rfl ?_
    refine wn_mulN (pc' := 24) rfl rfl ?_
    refine wn_addN (pc' := 25) rfl rfl ?_
    have := wf_vab hJ.wf (show (tkV t n p) < ntW w by omega)
    refine wn_ialdv (pc' := 26) (j := 176 + (4 * (tkV t n p))) (v := (nI (vaW w (tkV t n p)))) rfl rfl ((fr_h1.2 77 (by decide)).trans q6) rfl (by omega) (by decide) (wf_va hJ.wf (by omega)) ?_
    refine wn_ic (pc' := 27) (w := nI 1) rfl rfl (by decide) ?_
    refine wn_pu (pc' := 28) (st' := [.int ((nI (vaW w (tkV t n p))) - (nI (1)))]) rfl (fun _ _ _ => rfl) rfl rfl ?_
    refine wn_st (pc' := 29) (q := 2) (kin := 0) (lv' := [(0, .ref (71)), (1, .int (nI (tkV t n p))), (2, .int ((nI (vaW w (tkV t n p))) - (nI (1))))]) rfl (fun _ _ _ => rfl) rfl (Nat.le_of_ble_eq_true rfl) rfl ?_
    refine wn_ld (pc' := 30) (q := 0) (kin := 2) (v := .ref (71)) rfl (fun _ _ _ => rfl) rfl rfl ?_
    refine wn_ic (pc' := 31) (w := nI 0) rfl rfl (by decide) ?_
    refine wn_ld (pc' := 32) (q := 2) (kin := 0) (v := .int ((nI (vaW w (tkV t n p))) - (nI (1)))) rfl (fun _ _ _ => rfl) rfl rfl ?_
    refine wn_virS (pc' := 35) rfl rfl (by decide) rfl rfl o_h1 (Nat.le_of_ble_eq_true rfl) (m_num0 _ _ t n (tkA t n p) hn (tkA_le hp) hb th tl _ il up lo hv_h1 o_h1 ((fr_h1.2 75 (by decide)).trans q4) 0 (by omega) ((nI (vaW w (tkV t n p))) - (nI (1))) (((vaW w (tkV t n p) : Nat) : Int) - 1) (sub1 (by omega)) (by omega)) (fun r9 h3 e4 => ?_)
    obtain ⟨f_h3, ⟨w_h3, rfl, vl_h3, hv_h3, o_h3⟩ | ⟨w_h3, rfl, o_h3⟩⟩ := e4
    · have fr_h3 := Fr.tr fr_h1 f_h3 (fun _ q => q)
      have := tkF_le (t := t) (p := (tkA t n (tkA t n p))) (tkA_le (tkA_le hp))
      have := tkA_ge (t := t) (n := n) (p := (tkA t n (tkA t n p)))
      have := tkA_le (t := t) (p := (tkA t n (tkA t n p))) (tkA_le (tkA_le hp))
      have := tkK_le (t := t) (n := n) (p := (tkA t n (tkA t n p)))
      have b1_h3 := w_h3.2.1
      have b2_h3 := w_h3.2.2
      have g_h3 := nm_gt w_h3
      show Wn _ _ 35 _ [.int (nI (tkV t n (tkA t n p)))] h3 _
      refine wn_st (pc' := 36) (q := 3) (kin := 0) (lv' := [(0, .ref (71)), (1, .int (nI (tkV t n p))), (2, .int ((nI (vaW w (tkV t n p))) - (nI (1)))), (3, .int (nI (tkV t n (tkA t n p))))]) rfl (fun _ _ _ => rfl) rfl (Nat.le_of_ble_eq_true rfl) rfl ?_
      refine wn_ld (pc' := 37) (q := 0) (kin := 2) (v := .ref (71)) rfl (fun _ _ _ => rfl) rfl rfl ?_
      refine wn_go (pc' := 39) (lv' := [(0, .ref (71)), (1, .int (nI (tkV t n p))), (2, .int ((nI (vaW w (tkV t n p))) - (nI (1)))), (3, .int (nI (tkV t n (tkA t n p))))]) (st' := [.retAddr 9, .ref (71)]) rfl (fun _ _ _ k9 => ⟨by decide, k9⟩) ?_
      refine wn_virS (pc' := 42) rfl rfl (by decide) rfl rfl o_h3 (Nat.le_of_ble_eq_true rfl) (m_needs0 _ _ t n (tkA t n (tkA t n p)) hn (tkA_le (tkA_le hp)) hb th tl _ il up lo hv_h3 o_h3 ((fr_h3.2 75 (by decide)).trans q4) 9 (by omega)) (fun r9 h5 e6 => ?_)
      obtain ⟨rfl, f_h5, ⟨w_h5, vl_h5, hv_h5, o_h5⟩ | ⟨w_h5, o_h5⟩⟩ := e6
      · have fr_h5 := Fr.tr fr_h3 f_h5 (fun _ q => q)
        have := tkF_le (t := t) (p := (tkA t n (tkA t n (tkA t n p)))) (tkA_le (tkA_le (tkA_le hp)))
        have := tkA_ge (t := t) (n := n) (p := (tkA t n (tkA t n (tkA t n p))))
        have := tkA_le (t := t) (p := (tkA t n (tkA t n (tkA t n p)))) (tkA_le (tkA_le (tkA_le hp)))
        have := tkK_le (t := t) (n := n) (p := (tkA t n (tkA t n (tkA t n p))))
        have g_h5 := wd_gt w_h5
        show Wn _ _ 42 _ [] h5 _
        refine wn_ld (pc' := 43) (q := 0) (kin := 2) (v := .ref (71)) rfl (fun _ _ _ => rfl) rfl rfl ?_
        refine wn_ic (pc' := 44) (w := nI 0) rfl rfl (by decide) ?_
        refine wn_ld (pc' := 45) (q := 2) (kin := 0) (v := .int ((nI (vaW w (tkV t n p))) - (nI (1)))) rfl (fun _ _ _ => rfl) rfl rfl ?_
        refine wn_virS (pc' := 48) rfl rfl (by decide) rfl rfl o_h5 (Nat.le_of_ble_eq_true rfl) (m_num0 _ _ t n (tkA t n (tkA t n (tkA t n p))) hn (tkA_le (tkA_le (tkA_le hp))) hb th tl _ il up lo hv_h5 o_h5 ((fr_h5.2 75 (by decide)).trans q4) 0 (by omega) ((nI (vaW w (tkV t n p))) - (nI (1))) (((vaW w (tkV t n p) : Nat) : Int) - 1) (sub1 (by omega)) (by omega)) (fun r9 h7 e8 => ?_)
        obtain ⟨f_h7, ⟨w_h7, rfl, vl_h7, hv_h7, o_h7⟩ | ⟨w_h7, rfl, o_h7⟩⟩ := e8
        · have fr_h7 := Fr.tr fr_h5 f_h7 (fun _ q => q)
          have := tkF_le (t := t) (p := (tkA t n (tkA t n (tkA t n (tkA t n p))))) (tkA_le (tkA_le (tkA_le (tkA_le hp))))
          have := tkA_ge (t := t) (n := n) (p := (tkA t n (tkA t n (tkA t n (tkA t n p)))))
          have := tkA_le (t := t) (p := (tkA t n (tkA t n (tkA t n (tkA t n p))))) (tkA_le (tkA_le (tkA_le (tkA_le hp))))
          have := tkK_le (t := t) (n := n) (p := (tkA t n (tkA t n (tkA t n (tkA t n p)))))
          have b1_h7 := w_h7.2.1
          have b2_h7 := w_h7.2.2
          have g_h7 := nm_gt w_h7
          show Wn _ _ 48 _ [.int (nI (tkV t n (tkA t n (tkA t n (tkA t n p)))))] h7 _
          refine wn_st (pc' := 50) (q := 4) (kin := 0) (lv' := [(0, .ref (71)), (1, .int (nI (tkV t n p))), (2, .int ((nI (vaW w (tkV t n p))) - (nI (1)))), (3, .int (nI (tkV t n (tkA t n p)))), (4, .int (nI (tkV t n (tkA t n (tkA t n (tkA t n p))))))]) rfl (fun _ _ _ => rfl) rfl (Nat.le_of_ble_eq_true rfl) rfl ?_
          refine wn_ld (pc' := 51) (q := 0) (kin := 2) (v := .ref (71)) rfl (fun _ _ _ => rfl) rfl rfl ?_
          refine wn_go (pc' := 53) (lv' := [(0, .ref (71)), (1, .int (nI (tkV t n p))), (2, .int ((nI (vaW w (tkV t n p))) - (nI (1)))), (3, .int (nI (tkV t n (tkA t n p)))), (4, .int (nI (tkV t n (tkA t n (tkA t n (tkA t n p))))))]) (st' := [.retAddr 10, .ref (71)]) rfl (fun _ _ _ k9 => ⟨by decide, k9⟩) ?_
          refine wn_virS (pc' := 56) rfl rfl (by decide) rfl rfl o_h7 (Nat.le_of_ble_eq_true rfl) (m_needs0 _ _ t n (tkA t n (tkA t n (tkA t n (tkA t n p)))) hn (tkA_le (tkA_le (tkA_le (tkA_le hp)))) hb th tl _ il up lo hv_h7 o_h7 ((fr_h7.2 75 (by decide)).trans q4) 10 (by omega)) (fun r9 h9 e10 => ?_)
          obtain ⟨rfl, f_h9, ⟨w_h9, vl_h9, hv_h9, o_h9⟩ | ⟨w_h9, o_h9⟩⟩ := e10
          · have fr_h9 := Fr.tr fr_h7 f_h9 (fun _ q => q)
            have := tkF_le (t := t) (p := (tkA t n (tkA t n (tkA t n (tkA t n (tkA t n p)))))) (tkA_le (tkA_le (tkA_le (tkA_le (tkA_le hp)))))
            have := tkA_ge (t := t) (n := n) (p := (tkA t n (tkA t n (tkA t n (tkA t n (tkA t n p))))))
            have := tkA_le (t := t) (p := (tkA t n (tkA t n (tkA t n (tkA t n (tkA t n p)))))) (tkA_le (tkA_le (tkA_le (tkA_le (tkA_le hp)))))
            have := tkK_le (t := t) (n := n) (p := (tkA t n (tkA t n (tkA t n (tkA t n (tkA t n p))))))
            have g_h9 := wd_gt w_h9
            show Wn _ _ 56 _ [] h9 _
            refine wn_ld (pc' := 57) (q := 0) (kin := 2) (v := .ref (71)) rfl (fun _ _ _ => rfl) rfl rfl ?_
            refine wn_get (pc' := 60) (v := .ref (77)) rfl rfl o_h9 rfl ?_
            refine wn_ic (pc' := 61) (w := nI 5) rfl rfl (by decide) ?_
            refine wn_ialdv (pc' := 62) (j := 5) (v := (nI (npW w))) rfl rfl ((fr_h9.2 77 (by decide)).trans q6) rfl (by omega) (by decide) (e9) ?_
            refine wn_st (pc' := 64) (q := 5) (kin := 0) (lv' := [(0, .ref (71)), (1, .int (nI (tkV t n p))), (2, .int ((nI (vaW w (tkV t n p))) - (nI (1)))), (3, .int (nI (tkV t n (tkA t n p)))), (4, .int (nI (tkV t n (tkA t n (tkA t n (tkA t n p)))))), (5, .int (nI (npW w)))]) rfl (fun _ _ _ => rfl) rfl (Nat.le_of_ble_eq_true rfl) rfl ?_
            refine wn_ld (pc' := 65) (q := 0) (kin := 2) (v := .ref (71)) rfl (fun _ _ _ => rfl) rfl rfl ?_
            refine wn_virI (pc' := 68) rfl rfl (by decide) rfl rfl o_h9 (Nat.le_of_ble_eq_true rfl) (m_good0 _ _ _ _ _ _ _ _ _ _ _ _ _ o_h9) ?_
            refine wn_ifN (t := 77) (f := 71) rfl rfl rfl (by omega) (fun c11 => ?_) (fun c11 => ?_)
            · have c11 : 1 = 0 := c11
              exact absurd c11 (by decide)
            · have c11 : ¬ 1 = 0 := c11
              refine wn_ld (pc' := 72) (q := 0) (kin := 2) (v := .ref (71)) rfl (fun _ _ _ => rfl) rfl rfl ?_
              refine wn_ld (pc' := 73) (q := 1) (kin := 0) (v := .int (nI (tkV t n p))) rfl (fun _ _ _ => rfl) rfl rfl ?_
              refine wn_ic (pc' := 74) (w := nI 0) rfl rfl (by decide) ?_
              refine wn_virS (pc' := 77) rfl rfl (by decide) rfl rfl o_h9 (Nat.le_of_ble_eq_true rfl) (m_readSum _ _ t n (tkA t n (tkA t n (tkA t n (tkA t n (tkA t n p))))) w hn (tkA_le (tkA_le (tkA_le (tkA_le (tkA_le hp))))) hb hJ th tl _ il up lo hv_h9 o_h9 ((fr_h9.2 75 (by decide)).trans q4) ((fr_h9.2 77 (by decide)).trans q6) (by omega) (tkV t n p) (by omega) 0) (fun r9 h12 e13 => ?_)
              obtain ⟨rfl, F_h12, r_h12, sm_h12, M_h12⟩ := e13
              have G_h12 := Fr.tr (Fr.tr (Fr.rfl' [71, 77] h) (fw fr_h9) (fun _ q => q)) F_h12 (fun _ q => q)
              rcases r_h12 with e9a | ⟨pa, wa⟩
              · obtain ⟨hb_h12, sz_h12, at_h12, fr9_h12, tk_h12, vl_h12, o_h12, f9_h12, q_h12⟩ := M_h12
                show Wn _ _ 77 _ [] h12 _
                refine wn_ld (pc' := 78) (q := 0) (kin := 2) (v := .ref (71)) rfl (fun _ _ _ => rfl) rfl rfl ?_
                refine wn_go (pc' := 80) (lv' := [(0, .ref (71)), (1, .int (nI (tkV t n p))), (2, .int ((nI (vaW w (tkV t n p))) - (nI (1)))), (3, .int (nI (tkV t n (tkA t n p)))), (4, .int (nI (tkV t n (tkA t n (tkA t n (tkA t n p)))))), (5, .int (nI (npW w)))]) (st' := [.retAddr 17, .ref (71)]) rfl (fun _ _ _ k9 => ⟨by decide, k9⟩) ?_
                refine wn_virI (pc' := 83) rfl rfl (by decide) rfl rfl o_h12 (Nat.le_of_ble_eq_true rfl) (m_isB _ _ _ _ _ _ _ _ _ _ _ _ _ _ hb_h12 o_h12 17 (by omega)) ?_
                refine wn_ifN (t := 90) (f := 86) rfl rfl rfl (by omega) (fun c14 => ?_) (fun c14 => ?_)
                · have c14 : 0 = 0 := c14
                  refine wn_ld (pc' := 91) (q := 0) (kin := 2) (v := .ref (71)) rfl (fun _ _ _ => rfl) rfl rfl ?_
                  refine wn_go (pc' := 93) (lv' := [(0, .ref (71)), (1, .int (nI (tkV t n p))), (2, .int ((nI (vaW w (tkV t n p))) - (nI (1)))), (3, .int (nI (tkV t n (tkA t n p)))), (4, .int (nI (tkV t n (tkA t n (tkA t n (tkA t n p)))))), (5, .int (nI (npW w)))]) (st' := [.retAddr 18, .ref (71)]) rfl (fun _ _ _ k9 => ⟨by decide, k9⟩) ?_
                  refine wn_virI (pc' := 96) rfl rfl (by decide) rfl rfl o_h12 (Nat.le_of_ble_eq_true rfl) (m_isB _ _ _ _ _ _ _ _ _ _ _ _ _ _ hb_h12 o_h12 18 (by omega)) ?_
                  refine wn_ifN (t := 103) (f := 99) rfl rfl rfl (by omega) (fun c15 => ?_) (fun c15 => ?_)
                  · have c15 : 0 = 0 := c15
                    refine wn_ld (pc' := 104) (q := 0) (kin := 2) (v := .ref (71)) rfl (fun _ _ _ => rfl) rfl rfl ?_
                    refine wn_go (pc' := 106) (lv' := [(0, .ref (71)), (1, .int (nI (tkV t n p))), (2, .int ((nI (vaW w (tkV t n p))) - (nI (1)))), (3, .int (nI (tkV t n (tkA t n p)))), (4, .int (nI (tkV t n (tkA t n (tkA t n (tkA t n p)))))), (5, .int (nI (npW w)))]) (st' := [.retAddr 19, .ref (71)]) rfl (fun _ _ _ k9 => ⟨by decide, k9⟩) ?_
                    refine wn_virI (pc' := 109) rfl rfl (by decide) rfl rfl o_h12 (Nat.le_of_ble_eq_true rfl) (m_isB _ _ _ _ _ _ _ _ _ _ _ _ _ _ hb_h12 o_h12 19 (by omega)) ?_
                    refine wn_ifN (t := 116) (f := 112) rfl rfl rfl (by omega) (fun c16 => ?_) (fun c16 => ?_)
                    · have c16 : 0 = 0 := c16
                      refine wn_ic (pc' := 117) (w := -1) rfl rfl (by decide) ?_
                      refine wn_st (pc' := 119) (q := 6) (kin := 0) (lv' := [(0, .ref (71)), (1, .int (nI (tkV t n p))), (2, .int ((nI (vaW w (tkV t n p))) - (nI (1)))), (3, .int (nI (tkV t n (tkA t n p)))), (4, .int (nI (tkV t n (tkA t n (tkA t n (tkA t n p)))))), (5, .int (nI (npW w))), (6, .int (-1))]) rfl (fun _ _ _ => rfl) rfl (Nat.le_of_ble_eq_true rfl) rfl ?_
                      refine wn_ld (pc' := 121) (q := 6) (kin := 0) (v := .int (-1)) rfl (fun _ _ _ => rfl) rfl rfl ?_
                      refine wn_ic (pc' := 122) (w := -1) rfl rfl (by decide) ?_
                      refine wn_icmp (t := 130) (f := 125) rfl rfl rfl (fun c17 => ?_) (fun c17 => ?_)
                      · have c17 : ¬ ((-1) : Int32) = ((-1)) := c17
                        exact absurd c17 (by decide)
                      · have c17 : ((-1) : Int32) = ((-1)) := c17
                        refine wn_ld (pc' := 126) (q := 0) (kin := 2) (v := .ref (71)) rfl (fun _ _ _ => rfl) rfl rfl ?_
                        refine wn_ic (pc' := 127) (w := nI 1) rfl rfl (by decide) ?_
                        refine wn_virV (pc' := 130) rfl rfl (by decide) rfl rfl o_h12 (Nat.le_of_ble_eq_true rfl) (m_errsB _ _ _ _ _ _ _ _ _ _ _ _ _ _ hb_h12 o_h12 (nI (1))) ?_
                        refine wn_ld (pc' := 131) (q := 0) (kin := 2) (v := .ref (71)) rfl (fun _ _ _ => rfl) rfl rfl ?_
                        refine wn_virI (pc' := 134) rfl rfl (by decide) rfl rfl o_h12 (Nat.le_of_ble_eq_true rfl) (m_goodB _ _ _ _ _ _ _ _ _ _ _ _ _ _ hb_h12 o_h12) ?_
                        refine wn_ifN (t := 141) (f := 137) rfl rfl rfl (by omega) (fun c18 => ?_) (fun c18 => ?_)
                        · have c18 : 0 = 0 := c18
                          refine wn_ld (pc' := 142) (q := 0) (kin := 2) (v := .ref (71)) rfl (fun _ _ _ => rfl) rfl rfl ?_
                          refine wn_virI (pc' := 145) rfl rfl (by decide) rfl rfl o_h12 (Nat.le_of_ble_eq_true rfl) (m_goodB _ _ _ _ _ _ _ _ _ _ _ _ _ _ hb_h12 o_h12) ?_
                          refine wn_ifN (t := 154) (f := 148) rfl rfl rfl (by omega) (fun c19 => ?_) (fun c19 => ?_)
                          · have c19 : 0 = 0 := c19
                            refine wn_ld (pc' := 155) (q := 0) (kin := 2) (v := .ref (71)) rfl (fun _ _ _ => rfl) rfl rfl ?_
                            refine wn_virI (pc' := 158) rfl rfl (by decide) rfl rfl o_h12 (Nat.le_of_ble_eq_true rfl) (m_goodB _ _ _ _ _ _ _ _ _ _ _ _ _ _ hb_h12 o_h12) ?_
                            refine wn_ifN (t := 162) (f := 161) rfl rfl rfl (by omega) (fun c20 => ?_) (fun c20 => ?_)
                            · have c20 : ¬ 0 = 0 := c20
                              exact absurd c20 (by decide)
                            · have c20 : 0 = 0 := c20
                              have eR : LawR t n f0 p w (stp t n (.inl (e9a.1, e9a.2))) := Or.inl ⟨hl20, Or.inl ⟨w_h1, Or.inl ⟨w_h3, Or.inl ⟨w_h5, Or.inl ⟨w_h7, Or.inl ⟨w_h9, ⟨_, sm_h12, rfl⟩⟩⟩⟩⟩⟩⟩
                              exact wn_vret rfl rfl ⟨rfl, (Fr.tr G_h12 (fw (Fr.rfl' [71] h12)) (fun _ q => q)), _, MT_l hb_h12 o_h12 q_h12, trivial, eR⟩
                          · have c19 : ¬ 0 = 0 := c19
                            exact absurd c19 (by decide)
                        · have c18 : ¬ 0 = 0 := c18
                          exact absurd c18 (by decide)
                    · have c16 : ¬ 0 = 0 := c16
                      exact absurd c16 (by decide)
                  · have c15 : ¬ 0 = 0 := c15
                    exact absurd c15 (by decide)
                · have c14 : ¬ 0 = 0 := c14
                  exact absurd c14 (by decide)
              · obtain ⟨Ja, Sa, ya1, ya2, hpa⟩ := SumR_i (by omega) hn sm_h12 hJ (by omega) (tkA_le (tkA_le (tkA_le (tkA_le (tkA_le hp)))))
                have Ja : WJ wa := Ja
                have Sa : SmJ 0 w wa := Sa
                have ya1 : 5 * npW wa ≤ pa := ya1
                have ya2 : tkA t n (tkA t n (tkA t n (tkA t n (tkA t n p)))) < pa := ya2
                have hpa : pa ≤ n := hpa
                have ta := Sa.nt
                have ua := Sa.nl
                have va := Sa.va (i := tkV t n p) (by omega)
                have oa := Sa.1
                obtain ⟨vl_h12, hv_h12, o_h12, q_h12⟩ := M_h12
                obtain ⟨e0a, e0ba⟩ := wj_0 Ja
                obtain ⟨⟨e1a, e2a⟩, ⟨e3a, e4a⟩, ⟨e5a, e6a⟩⟩ := Wf_n Ja.wf
                obtain ⟨⟨e7a, e8a⟩, ⟨e9a, e10a⟩⟩ := Wf_m Ja.wf
                have := tkF_le (t := t) (p := pa) hpa
                have := tkA_ge (t := t) (n := n) (p := pa)
                have := tkA_le (t := t) (p := pa) hpa
                have := tkK_le (t := t) (n := n) (p := pa)
                show Wn _ _ 77 _ [] h12 _
                refine wn_ld (pc' := 78) (q := 0) (kin := 2) (v := .ref (71)) rfl (fun _ _ _ => rfl) rfl rfl ?_
                refine wn_go (pc' := 80) (lv' := [(0, .ref (71)), (1, .int (nI (tkV t n p))), (2, .int ((nI (vaW w (tkV t n p))) - (nI (1)))), (3, .int (nI (tkV t n (tkA t n p)))), (4, .int (nI (tkV t n (tkA t n (tkA t n (tkA t n p)))))), (5, .int (nI (npW w)))]) (st' := [.retAddr 17, .ref (71)]) rfl (fun _ _ _ k9 => ⟨by decide, k9⟩) ?_
                refine wn_virI (pc' := 83) rfl rfl (by decide) rfl rfl o_h12 (Nat.le_of_ble_eq_true rfl) (m_is0 _ _ t n pa hn hpa hb th tl _ il up lo hv_h12 o_h12 ((G_h12.2 75 (by decide)).trans q4) 17 (by omega)) ?_
                refine wn_ifeqB (t := 90) (f := 86) rfl rfl rfl (fun c21 => ?_) (fun c21 => ?_)
                · have c21 : ¬ (isWd t n pa 17) := c21
                  refine wn_ld (pc' := 91) (q := 0) (kin := 2) (v := .ref (71)) rfl (fun _ _ _ => rfl) rfl rfl ?_
                  refine wn_go (pc' := 93) (lv' := [(0, .ref (71)), (1, .int (nI (tkV t n p))), (2, .int ((nI (vaW w (tkV t n p))) - (nI (1)))), (3, .int (nI (tkV t n (tkA t n p)))), (4, .int (nI (tkV t n (tkA t n (tkA t n (tkA t n p)))))), (5, .int (nI (npW w)))]) (st' := [.retAddr 18, .ref (71)]) rfl (fun _ _ _ k9 => ⟨by decide, k9⟩) ?_
                  refine wn_virI (pc' := 96) rfl rfl (by decide) rfl rfl o_h12 (Nat.le_of_ble_eq_true rfl) (m_is0 _ _ t n pa hn hpa hb th tl _ il up lo hv_h12 o_h12 ((G_h12.2 75 (by decide)).trans q4) 18 (by omega)) ?_
                  refine wn_ifeqB (t := 103) (f := 99) rfl rfl rfl (fun c22 => ?_) (fun c22 => ?_)
                  · have c22 : ¬ (isWd t n pa 18) := c22
                    refine wn_ld (pc' := 104) (q := 0) (kin := 2) (v := .ref (71)) rfl (fun _ _ _ => rfl) rfl rfl ?_
                    refine wn_go (pc' := 106) (lv' := [(0, .ref (71)), (1, .int (nI (tkV t n p))), (2, .int ((nI (vaW w (tkV t n p))) - (nI (1)))), (3, .int (nI (tkV t n (tkA t n p)))), (4, .int (nI (tkV t n (tkA t n (tkA t n (tkA t n p)))))), (5, .int (nI (npW w)))]) (st' := [.retAddr 19, .ref (71)]) rfl (fun _ _ _ k9 => ⟨by decide, k9⟩) ?_
                    refine wn_virI (pc' := 109) rfl rfl (by decide) rfl rfl o_h12 (Nat.le_of_ble_eq_true rfl) (m_is0 _ _ t n pa hn hpa hb th tl _ il up lo hv_h12 o_h12 ((G_h12.2 75 (by decide)).trans q4) 19 (by omega)) ?_
                    refine wn_ifeqB (t := 116) (f := 112) rfl rfl rfl (fun c23 => ?_) (fun c23 => ?_)
                    · have c23 : ¬ (isWd t n pa 19) := c23
                      refine wn_ic (pc' := 117) (w := -1) rfl rfl (by decide) ?_
                      refine wn_st (pc' := 119) (q := 6) (kin := 0) (lv' := [(0, .ref (71)), (1, .int (nI (tkV t n p))), (2, .int ((nI (vaW w (tkV t n p))) - (nI (1)))), (3, .int (nI (tkV t n (tkA t n p)))), (4, .int (nI (tkV t n (tkA t n (tkA t n (tkA t n p)))))), (5, .int (nI (npW w))), (6, .int (-1))]) rfl (fun _ _ _ => rfl) rfl (Nat.le_of_ble_eq_true rfl) rfl ?_
                      refine wn_ld (pc' := 121) (q := 6) (kin := 0) (v := .int (-1)) rfl (fun _ _ _ => rfl) rfl rfl ?_
                      refine wn_ic (pc' := 122) (w := -1) rfl rfl (by decide) ?_
                      refine wn_icmp (t := 130) (f := 125) rfl rfl rfl (fun c24 => ?_) (fun c24 => ?_)
                      · have c24 : ¬ ((-1) : Int32) = ((-1)) := c24
                        exact absurd c24 (by decide)
                      · have c24 : ((-1) : Int32) = ((-1)) := c24
                        refine wn_ld (pc' := 126) (q := 0) (kin := 2) (v := .ref (71)) rfl (fun _ _ _ => rfl) rfl rfl ?_
                        refine wn_ic (pc' := 127) (w := nI 1) rfl rfl (by decide) ?_
                        refine wn_virS (pc' := 130) rfl rfl (by decide) rfl rfl o_h12 (Nat.le_of_ble_eq_true rfl) (m_errs0 _ _ _ _ _ _ _ _ _ _ _ _ _ o_h12 (nI (1))) (fun r9 h25 e26 => ?_)
                        obtain ⟨rfl, f_h25, o_h25⟩ := e26
                        have fr_h25 := Fr.tr (Fr.rfl' [71] h12) f_h25 (fun _ q => q)
                        show Wn _ _ 130 _ [] h25 _
                        refine wn_ld (pc' := 131) (q := 0) (kin := 2) (v := .ref (71)) rfl (fun _ _ _ => rfl) rfl rfl ?_
                        refine wn_virI (pc' := 134) rfl rfl (by decide) rfl rfl o_h25 (Nat.le_of_ble_eq_true rfl) (m_goodB _ _ _ _ _ _ _ _ _ _ _ _ _ _ (show ¬ nI 1 = 0 by decide) o_h25) ?_
                        refine wn_ifN (t := 141) (f := 137) rfl rfl rfl (by omega) (fun c27 => ?_) (fun c27 => ?_)
                        · have c27 : 0 = 0 := c27
                          refine wn_ld (pc' := 142) (q := 0) (kin := 2) (v := .ref (71)) rfl (fun _ _ _ => rfl) rfl rfl ?_
                          refine wn_virI (pc' := 145) rfl rfl (by decide) rfl rfl o_h25 (Nat.le_of_ble_eq_true rfl) (m_goodB _ _ _ _ _ _ _ _ _ _ _ _ _ _ (show ¬ nI 1 = 0 by decide) o_h25) ?_
                          refine wn_ifN (t := 154) (f := 148) rfl rfl rfl (by omega) (fun c28 => ?_) (fun c28 => ?_)
                          · have c28 : 0 = 0 := c28
                            refine wn_ld (pc' := 155) (q := 0) (kin := 2) (v := .ref (71)) rfl (fun _ _ _ => rfl) rfl rfl ?_
                            refine wn_virI (pc' := 158) rfl rfl (by decide) rfl rfl o_h25 (Nat.le_of_ble_eq_true rfl) (m_goodB _ _ _ _ _ _ _ _ _ _ _ _ _ _ (show ¬ nI 1 = 0 by decide) o_h25) ?_
                            refine wn_ifN (t := 162) (f := 161) rfl rfl rfl (by omega) (fun c29 => ?_) (fun c29 => ?_)
                            · have c29 : ¬ 0 = 0 := c29
                              exact absurd c29 (by decide)
                            · have c29 : 0 = 0 := c29
                              have eR : LawR t n f0 p w (stp t n (.inl (1, tkF t n pa))) := Or.inl ⟨hl20, Or.inl ⟨w_h1, Or.inl ⟨w_h3, Or.inl ⟨w_h5, Or.inl ⟨w_h7, Or.inl ⟨w_h9, ⟨_, sm_h12, Or.inr (Or.inr (Or.inr ⟨⟨c21, c22, c23⟩, rfl⟩))⟩⟩⟩⟩⟩⟩⟩
                              exact wn_vret rfl rfl ⟨rfl, (Fr.tr G_h12 (fw fr_h25) (fun _ q => q)), _, MT_l (show ¬ nI 1 = 0 by decide) o_h25 ((fr_h25.2 77 (by decide)).trans q_h12), trivial, eR⟩
                          · have c28 : ¬ 0 = 0 := c28
                            exact absurd c28 (by decide)
                        · have c27 : ¬ 0 = 0 := c27
                          exact absurd c27 (by decide)
                    · have c23 : (isWd t n pa 19) := c23
                      refine wn_ic (pc' := 113) (w := nI 2) rfl rfl (by decide) ?_
                      refine wn_jp (pc' := 117) rfl rfl ?_
                      refine wn_st (pc' := 119) (q := 6) (kin := 0) (lv' := [(0, .ref (71)), (1, .int (nI (tkV t n p))), (2, .int ((nI (vaW w (tkV t n p))) - (nI (1)))), (3, .int (nI (tkV t n (tkA t n p)))), (4, .int (nI (tkV t n (tkA t n (tkA t n (tkA t n p)))))), (5, .int (nI (npW w))), (6, .int (nI (2)))]) rfl (fun _ _ _ => rfl) rfl (Nat.le_of_ble_eq_true rfl) rfl ?_
                      refine wn_ld (pc' := 121) (q := 6) (kin := 0) (v := .int (nI (2))) rfl (fun _ _ _ => rfl) rfl rfl ?_
                      refine wn_ic (pc' := 122) (w := -1) rfl rfl (by decide) ?_
                      refine wn_icmp (t := 130) (f := 125) rfl rfl rfl (fun c30 => ?_) (fun c30 => ?_)
                      · have c30 : ¬ ((nI (2))) = ((-1)) := c30
                        refine wn_ld (pc' := 131) (q := 0) (kin := 2) (v := .ref (71)) rfl (fun _ _ _ => rfl) rfl rfl ?_
                        refine wn_virI (pc' := 134) rfl rfl (by decide) rfl rfl o_h12 (Nat.le_of_ble_eq_true rfl) (m_good0 _ _ _ _ _ _ _ _ _ _ _ _ _ o_h12) ?_
                        refine wn_ifN (t := 141) (f := 137) rfl rfl rfl (by omega) (fun c31 => ?_) (fun c31 => ?_)
                        · have c31 : 1 = 0 := c31
                          exact absurd c31 (by decide)
                        · have c31 : ¬ 1 = 0 := c31
                          have l9 := litL4
                          have g9 := wd_gt c23
                          refine wn_ld (pc' := 138) (q := 0) (kin := 2) (v := .ref (71)) rfl (fun _ _ _ => rfl) rfl rfl ?_
                          refine wn_virS (pc' := 141) rfl rfl (by decide) rfl rfl o_h12 (Nat.le_of_ble_eq_true rfl) (m_advance _ _ t n (tkA t n pa) hn (tkA_le hpa) hb th tl _ _ _ (nI 0) (-1) il up lo o_h12 ((G_h12.2 75 (by decide)).trans q4)) (fun r9 h32 e33 => ?_)
                          obtain ⟨rfl, f_h32, vl_h32, hv_h32, o_h32⟩ := e33
                          have fr_h32 := Fr.tr (Fr.rfl' [71] h12) f_h32 (fun _ q => q)
                          have := tkF_le (t := t) (p := (tkA t n pa)) (tkA_le hpa)
                          have := tkA_ge (t := t) (n := n) (p := (tkA t n pa))
                          have := tkA_le (t := t) (p := (tkA t n pa)) (tkA_le hpa)
                          have := tkK_le (t := t) (n := n) (p := (tkA t n pa))
                          show Wn _ _ 141 _ [] h32 _
                          refine wn_ld (pc' := 142) (q := 0) (kin := 2) (v := .ref (71)) rfl (fun _ _ _ => rfl) rfl rfl ?_
                          refine wn_virI (pc' := 145) rfl rfl (by decide) rfl rfl o_h32 (Nat.le_of_ble_eq_true rfl) (m_good0 _ _ _ _ _ _ _ _ _ _ _ _ _ o_h32) ?_
                          refine wn_ifN (t := 154) (f := 148) rfl rfl rfl (by omega) (fun c34 => ?_) (fun c34 => ?_)
                          · have c34 : 1 = 0 := c34
                            exact absurd c34 (by decide)
                          · have c34 : ¬ 1 = 0 := c34
                            refine wn_ld (pc' := 149) (q := 0) (kin := 2) (v := .ref (71)) rfl (fun _ _ _ => rfl) rfl rfl ?_
                            refine wn_ld (pc' := 150) (q := 1) (kin := 0) (v := .int (nI (tkV t n p))) rfl (fun _ _ _ => rfl) rfl rfl ?_
                            refine wn_ic (pc' := 151) (w := nI 4) rfl rfl (by decide) ?_
                            refine wn_virS (pc' := 154) rfl rfl (by decide) rfl rfl o_h32 (Nat.le_of_ble_eq_true rfl) (m_readSum _ _ t n (tkA t n pa) wa hn (tkA_le hpa) hb Ja th tl _ il up lo hv_h32 o_h32 ((fr_h32.2 75 (by decide)).trans ((G_h12.2 75 (by decide)).trans q4)) ((fr_h32.2 77 (by decide)).trans q_h12) (by omega) (tkV t n p) (by omega) 4) (fun r9 h35 e36 => ?_)
                            obtain ⟨rfl, F_h35, r_h35, sm_h35, M_h35⟩ := e36
                            have G_h35 := Fr.tr (Fr.tr G_h12 (fw fr_h32) (fun _ q => q)) F_h35 (fun _ q => q)
                            rw [va] at sm_h35
                            rcases r_h35 with e9b | ⟨pb, wb⟩
                            · obtain ⟨hb_h35, sz_h35, at_h35, fr9_h35, tk_h35, vl_h35, o_h35, f9_h35, q_h35⟩ := M_h35
                              show Wn _ _ 154 _ [] h35 _
                              refine wn_ld (pc' := 155) (q := 0) (kin := 2) (v := .ref (71)) rfl (fun _ _ _ => rfl) rfl rfl ?_
                              refine wn_virI (pc' := 158) rfl rfl (by decide) rfl rfl o_h35 (Nat.le_of_ble_eq_true rfl) (m_goodB _ _ _ _ _ _ _ _ _ _ _ _ _ _ hb_h35 o_h35) ?_
                              refine wn_ifN (t := 162) (f := 161) rfl rfl rfl (by omega) (fun c37 => ?_) (fun c37 => ?_)
                              · have c37 : ¬ 0 = 0 := c37
                                exact absurd c37 (by decide)
                              · have c37 : 0 = 0 := c37
                                have eR : LawR t n f0 p w (stp t n (.inl (e9b.1, e9b.2))) := Or.inl ⟨hl20, Or.inl ⟨w_h1, Or.inl ⟨w_h3, Or.inl ⟨w_h5, Or.inl ⟨w_h7, Or.inl ⟨w_h9, ⟨_, sm_h12, Or.inr (Or.inr (Or.inl ⟨c23, ⟨_, sm_h35, rfl⟩⟩))⟩⟩⟩⟩⟩⟩⟩
                                exact wn_vret rfl rfl ⟨rfl, (Fr.tr G_h35 (fw (Fr.rfl' [71] h35)) (fun _ q => q)), _, MT_l hb_h35 o_h35 q_h35, trivial, eR⟩
                            · obtain ⟨Jb, Sb, yb1, yb2, hpb⟩ := SumR_i (by omega) hn sm_h35 Ja (by omega) (tkA_le hpa)
                              have Jb : WJ wb := Jb
                              have Sb : SmJ 4 wa wb := Sb
                              have yb1 : 5 * npW wb ≤ pb := yb1
                              have yb2 : tkA t n pa < pb := yb2
                              have hpb : pb ≤ n := hpb
                              have tb := Sb.nt
                              have ub := Sb.nl
                              have vb := Sb.va (i := tkV t n p) (by omega)
                              have ob := Sb.1
                              obtain ⟨vl_h35, hv_h35, o_h35, q_h35⟩ := M_h35
                              obtain ⟨e0b, e0bb⟩ := wj_0 Jb
                              obtain ⟨⟨e1b, e2b⟩, ⟨e3b, e4b⟩, ⟨e5b, e6b⟩⟩ := Wf_n Jb.wf
                              obtain ⟨⟨e7b, e8b⟩, ⟨e9b, e10b⟩⟩ := Wf_m Jb.wf
                              have := tkF_le (t := t) (p := pb) hpb
                              have := tkA_ge (t := t) (n := n) (p := pb)
                              have := tkA_le (t := t) (p := pb) hpb
                              have := tkK_le (t := t) (n := n) (p := pb)
                              show Wn _ _ 154 _ [] h35 _
                              refine wn_ld (pc' := 155) (q := 0) (kin := 2) (v := .ref (71)) rfl (fun _ _ _ => rfl) rfl rfl ?_
                              refine wn_virI (pc' := 158) rfl rfl (by decide) rfl rfl o_h35 (Nat.le_of_ble_eq_true rfl) (m_good0 _ _ _ _ _ _ _ _ _ _ _ _ _ o_h35) ?_
                              refine wn_ifN (t := 162) (f := 161) rfl rfl rfl (by omega) (fun c38 => ?_) (fun c38 => ?_)
                              · have c38 : ¬ 1 = 0 := c38
                                have e0b_ := (wj_0 Jb).1
                                refine wn_sp (pc' := 165) (w := nI 456) rfl rfl (by decide) ?_
                                refine wn_bp (pc' := 167) (w := nI 6) rfl rfl (by decide) ?_
                                refine wn_ld (pc' := 168) (q := 0) (kin := 2) (v := .ref (71)) rfl (fun _ _ _ => rfl) rfl rfl ?_
                                refine wn_get (pc' := 171) (v := .ref (77)) rfl rfl o_h35 rfl ?_
                                refine wn_ic (pc' := 172) (w := nI 4) rfl rfl (by decide) ?_
                                refine wn_ialdv (pc' := 173) (j := 4) (v := (nI (nlW wb))) rfl rfl q_h35 rfl (by omega) (by decide) (e7b) ?_
                                refine wn_mulN (pc' := 174) rfl rfl ?_
                                refine wn_addN (pc' := 175) rfl rfl ?_
                                refine wn_st (pc' := 177) (q := 7) (kin := 0) (lv' := [(0, .ref (71)), (1, .int (nI (tkV t n p))), (2, .int ((nI (vaW w (tkV t n p))) - (nI (1)))), (3, .int (nI (tkV t n (tkA t n p)))), (4, .int (nI (tkV t n (tkA t n (tkA t n (tkA t n p)))))), (5, .int (nI (npW w))), (6, .int (nI (2))), (7, .int (nI (456 + (6 * (nlW wb)))))]) rfl (fun _ _ _ => rfl) rfl (Nat.le_of_ble_eq_true rfl) rfl ?_
                                refine wn_ld (pc' := 178) (q := 0) (kin := 2) (v := .ref (71)) rfl (fun _ _ _ => rfl) rfl rfl ?_
                                refine wn_get (pc' := 181) (v := .ref (77)) rfl rfl o_h35 rfl ?_
                                refine wn_ld (pc' := 183) (q := 7) (kin := 0) (v := .int (nI (456 + (6 * (nlW wb))))) rfl (fun _ _ _ => rfl) rfl rfl ?_
                                refine wn_ld (pc' := 184) (q := 1) (kin := 0) (v := .int (nI (tkV t n p))) rfl (fun _ _ _ => rfl) rfl rfl ?_
                                refine wn_iast (pc' := 185) (j := 456 + (6 * (nlW wb))) rfl rfl q_h35 rfl (by omega) (by decide) ?_
                                refine wn_ld (pc' := 186) (q := 0) (kin := 2) (v := .ref (71)) rfl (fun _ _ _ => rfl) rfl rfl ?_
                                refine wn_get (pc' := 189) (v := .ref (77)) rfl rfl (gs_ne (by decide) o_h35) rfl ?_
                                refine wn_ld (pc' := 191) (q := 7) (kin := 0) (v := .int (nI (456 + (6 * (nlW wb))))) rfl (fun _ _ _ => rfl) rfl rfl ?_
                                refine wn_ic (pc' := 192) (w := nI 1) rfl rfl (by decide) ?_
                                refine wn_addN (pc' := 193) rfl rfl ?_
                                refine wn_ld (pc' := 194) (q := 3) (kin := 0) (v := .int (nI (tkV t n (tkA t n p)))) rfl (fun _ _ _ => rfl) rfl rfl ?_
                                refine wn_iast (pc' := 195) (j := (456 + (6 * (nlW wb))) + 1) rfl rfl (gs_self q_h35) rfl (by omega) (by decide) ?_
                                refine wn_ld (pc' := 196) (q := 0) (kin := 2) (v := .ref (71)) rfl (fun _ _ _ => rfl) rfl rfl ?_
                                refine wn_get (pc' := 199) (v := .ref (77)) rfl rfl (gs_ne (by decide) (gs_ne (by decide) o_h35)) rfl ?_
                                refine wn_ld (pc' := 201) (q := 7) (kin := 0) (v := .int (nI (456 + (6 * (nlW wb))))) rfl (fun _ _ _ => rfl) rfl rfl ?_
                                refine wn_ic (pc' := 202) (w := nI 2) rfl rfl (by decide) ?_
                                refine wn_addN (pc' := 203) rfl rfl ?_
                                refine wn_ld (pc' := 205) (q := 4) (kin := 0) (v := .int (nI (tkV t n (tkA t n (tkA t n (tkA t n p)))))) rfl (fun _ _ _ => rfl) rfl rfl ?_
                                refine wn_iast (pc' := 206) (j := (456 + (6 * (nlW wb))) + 2) rfl rfl (gs_self (gs_self q_h35)) rfl (by omega) (by decide) ?_
                                refine wn_ld (pc' := 207) (q := 0) (kin := 2) (v := .ref (71)) rfl (fun _ _ _ => rfl) rfl rfl ?_
                                refine wn_get (pc' := 210) (v := .ref (77)) rfl rfl (gs_ne (by decide) (gs_ne (by decide) (gs_ne (by decide) o_h35))) rfl ?_
                                refine wn_ld (pc' := 212) (q := 7) (kin := 0) (v := .int (nI (456 + (6 * (nlW wb))))) rfl (fun _ _ _ => rfl) rfl rfl ?_
                                refine wn_ic (pc' := 213) (w := nI 3) rfl rfl (by decide) ?_
                                refine wn_addN (pc' := 214) rfl rfl ?_
                                refine wn_ld (pc' := 216) (q := 6) (kin := 0) (v := .int (nI (2))) rfl (fun _ _ _ => rfl) rfl rfl ?_
                                refine wn_iast (pc' := 217) (j := (456 + (6 * (nlW wb))) + 3) rfl rfl (gs_self (gs_self (gs_self q_h35))) rfl (by omega) (by decide) ?_
                                refine wn_ld (pc' := 218) (q := 0) (kin := 2) (v := .ref (71)) rfl (fun _ _ _ => rfl) rfl rfl ?_
                                refine wn_get (pc' := 221) (v := .ref (77)) rfl rfl (gs_ne (by decide) (gs_ne (by decide) (gs_ne (by decide) (gs_ne (by decide) o_h35)))) rfl ?_
                                refine wn_ld (pc' := 223) (q := 7) (kin := 0) (v := .int (nI (456 + (6 * (nlW wb))))) rfl (fun _ _ _ => rfl) rfl rfl ?_
                                refine wn_ic (pc' := 224) (w := nI 4) rfl rfl (by decide) ?_
                                refine wn_addN (pc' := 225) rfl rfl ?_
                                refine wn_ld (pc' := 227) (q := 5) (kin := 0) (v := .int (nI (npW w))) rfl (fun _ _ _ => rfl) rfl rfl ?_
                                refine wn_iast (pc' := 228) (j := (456 + (6 * (nlW wb))) + 4) rfl rfl (gs_self (gs_self (gs_self (gs_self q_h35)))) rfl (by omega) (by decide) ?_
                                refine wn_ld (pc' := 229) (q := 0) (kin := 2) (v := .ref (71)) rfl (fun _ _ _ => rfl) rfl rfl ?_
                                refine wn_get (pc' := 232) (v := .ref (77)) rfl rfl (gs_ne (by decide) (gs_ne (by decide) (gs_ne (by decide) (gs_ne (by decide) (gs_ne (by decide) o_h35))))) rfl ?_
                                refine wn_ld (pc' := 234) (q := 7) (kin := 0) (v := .int (nI (456 + (6 * (nlW wb))))) rfl (fun _ _ _ => rfl) rfl rfl ?_
                                refine wn_ic (pc' := 235) (w := nI 5) rfl rfl (by decide) ?_
                                refine wn_addN (pc' := 236) rfl rfl ?_
                                refine wn_ld (pc' := 237) (q := 0) (kin := 2) (v := .ref (71)) rfl (fun _ _ _ => rfl) rfl rfl ?_
                                refine wn_get (pc' := 240) (v := .ref (77)) rfl rfl (gs_ne (by decide) (gs_ne (by decide) (gs_ne (by decide) (gs_ne (by decide) (gs_ne (by decide) o_h35))))) rfl ?_
                                refine wn_ic (pc' := 241) (w := nI 5) rfl rfl (by decide) ?_
                                refine wn_ialdv (pc' := 242) (j := 5) (v := (nI (npW wb))) rfl rfl (gs_self (gs_self (gs_self (gs_self (gs_self q_h35))))) rfl (by omega) (by decide) ((pk_un (by omega)).trans ((pk_un (by omega)).trans ((pk_un (by omega)).trans ((pk_un (by omega)).trans ((pk_un (by omega)).trans (e9b)))))) ?_
                                refine wn_ld (pc' := 244) (q := 5) (kin := 0) (v := .int (nI (npW w))) rfl (fun _ _ _ => rfl) rfl rfl ?_
                                refine wn_subN (pc' := 245) rfl rfl (by omega) ?_
                                refine wn_iast (pc' := 246) (j := (456 + (6 * (nlW wb))) + 5) rfl rfl (gs_self (gs_self (gs_self (gs_self (gs_self q_h35))))) rfl (by omega) (by decide) ?_
                                refine wn_ld (pc' := 247) (q := 0) (kin := 2) (v := .ref (71)) rfl (fun _ _ _ => rfl) rfl rfl ?_
                                refine wn_get (pc' := 250) (v := .ref (77)) rfl rfl (gs_ne (by decide) (gs_ne (by decide) (gs_ne (by decide) (gs_ne (by decide) (gs_ne (by decide) (gs_ne (by decide) o_h35)))))) rfl ?_
                                refine wn_ic (pc' := 251) (w := nI 4) rfl rfl (by decide) ?_
                                refine wn_pu (pc' := 252) (st' := [.int (nI (4)), .ref (77), .int (nI (4)), .ref (77)]) rfl (fun _ _ _ => rfl) rfl rfl ?_
                                refine wn_ialdv (pc' := 253) (j := 4) (v := (nI (nlW wb))) rfl rfl (gs_self (gs_self (gs_self (gs_self (gs_self (gs_self q_h35)))))) rfl (by omega) (by decide) ((pk_un (by omega)).trans ((pk_un (by omega)).trans ((pk_un (by omega)).trans ((pk_un (by omega)).trans ((pk_un (by omega)).trans ((pk_un (by omega)).trans (e7b))))))) ?_
                                refine wn_ic (pc' := 254) (w := nI 1) rfl rfl (by decide) ?_
                                refine wn_addN (pc' := 255) rfl rfl ?_
                                refine wn_iast (pc' := 256) (j := 4) rfl rfl (gs_self (gs_self (gs_self (gs_self (gs_self (gs_self q_h35)))))) rfl (by omega) (by decide) ?_
                                have eR : LawR t n f0 p w (stp t n (.inr (pb, lawW wb (tkV t n p) (tkV t n (tkA t n p)) (tkV t n (tkA t n (tkA t n (tkA t n p)))) 2 (npW w)))) := Or.inl ⟨hl20, Or.inl ⟨w_h1, Or.inl ⟨w_h3, Or.inl ⟨w_h5, Or.inl ⟨w_h7, Or.inl ⟨w_h9, ⟨_, sm_h12, Or.inr (Or.inr (Or.inl ⟨c23, ⟨_, sm_h35, rfl⟩⟩))⟩⟩⟩⟩⟩⟩⟩
                                exact wn_vret rfl rfl ⟨rfl, (Fr.st (Fr.st (Fr.st (Fr.st (Fr.st (Fr.st (Fr.st (Fr.tr G_h35 (fw (Fr.rfl' [71] h35)) (fun _ q => q)) (by decide)) (by decide)) (by decide)) (by decide)) (by decide)) (by decide)) (by decide)), .inr (pb, lawW wb (tkV t n p) (tkV t n (tkA t n p)) (tkV t n (tkA t n (tkA t n (tkA t n p)))) 2 (npW w)), MT_r hv_h35 (gs_ne (by decide) (gs_ne (by decide) (gs_ne (by decide) (gs_ne (by decide) (gs_ne (by decide) (gs_ne (by decide) (gs_ne (by decide) o_h35))))))) (gs_self (gs_self (gs_self (gs_self (gs_self (gs_self (gs_self q_h35))))))), ⟨hpb, (law_o (by omega) (by omega)).trans (e0b_.trans (congrArg nI (lc_e (law_o (by omega) (by omega))).symm))⟩, eR⟩
                              · have c38 : 1 = 0 := c38
                                exact absurd c38 (by decide)
                      · have c30 : ((nI (2))) = ((-1)) := c30
                        exact absurd c30 (nI_m1 (by omega))
                  · have c22 : (isWd t n pa 18) := c22
                    refine wn_ic (pc' := 100) (w := nI 1) rfl rfl (by decide) ?_
                    refine wn_jp (pc' := 117) rfl rfl ?_
                    refine wn_st (pc' := 119) (q := 6) (kin := 0) (lv' := [(0, .ref (71)), (1, .int (nI (tkV t n p))), (2, .int ((nI (vaW w (tkV t n p))) - (nI (1)))), (3, .int (nI (tkV t n (tkA t n p)))), (4, .int (nI (tkV t n (tkA t n (tkA t n (tkA t n p)))))), (5, .int (nI (npW w))), (6, .int (nI (1)))]) rfl (fun _ _ _ => rfl) rfl (Nat.le_of_ble_eq_true rfl) rfl ?_
                    refine wn_ld (pc' := 121) (q := 6) (kin := 0) (v := .int (nI (1))) rfl (fun _ _ _ => rfl) rfl rfl ?_
                    refine wn_ic (pc' := 122) (w := -1) rfl rfl (by decide) ?_
                    refine wn_icmp (t := 130) (f := 125) rfl rfl rfl (fun c39 => ?_) (fun c39 => ?_)
                    · have c39 : ¬ ((nI (1))) = ((-1)) := c39
                      refine wn_ld (pc' := 131) (q := 0) (kin := 2) (v := .ref (71)) rfl (fun _ _ _ => rfl) rfl rfl ?_
                      refine wn_virI (pc' := 134) rfl rfl (by decide) rfl rfl o_h12 (Nat.le_of_ble_eq_true rfl) (m_good0 _ _ _ _ _ _ _ _ _ _ _ _ _ o_h12) ?_
                      refine wn_ifN (t := 141) (f := 137) rfl rfl rfl (by omega) (fun c40 => ?_) (fun c40 => ?_)
                      · have c40 : 1 = 0 := c40
                        exact absurd c40 (by decide)
                      · have c40 : ¬ 1 = 0 := c40
                        have l9 := litL4
                        have g9 := wd_gt c22
                        refine wn_ld (pc' := 138) (q := 0) (kin := 2) (v := .ref (71)) rfl (fun _ _ _ => rfl) rfl rfl ?_
                        refine wn_virS (pc' := 141) rfl rfl (by decide) rfl rfl o_h12 (Nat.le_of_ble_eq_true rfl) (m_advance _ _ t n (tkA t n pa) hn (tkA_le hpa) hb th tl _ _ _ (nI 0) (-1) il up lo o_h12 ((G_h12.2 75 (by decide)).trans q4)) (fun r9 h41 e42 => ?_)
                        obtain ⟨rfl, f_h41, vl_h41, hv_h41, o_h41⟩ := e42
                        have fr_h41 := Fr.tr (Fr.rfl' [71] h12) f_h41 (fun _ q => q)
                        have := tkF_le (t := t) (p := (tkA t n pa)) (tkA_le hpa)
                        have := tkA_ge (t := t) (n := n) (p := (tkA t n pa))
                        have := tkA_le (t := t) (p := (tkA t n pa)) (tkA_le hpa)
                        have := tkK_le (t := t) (n := n) (p := (tkA t n pa))
                        show Wn _ _ 141 _ [] h41 _
                        refine wn_ld (pc' := 142) (q := 0) (kin := 2) (v := .ref (71)) rfl (fun _ _ _ => rfl) rfl rfl ?_
                        refine wn_virI (pc' := 145) rfl rfl (by decide) rfl rfl o_h41 (Nat.le_of_ble_eq_true rfl) (m_good0 _ _ _ _ _ _ _ _ _ _ _ _ _ o_h41) ?_
                        refine wn_ifN (t := 154) (f := 148) rfl rfl rfl (by omega) (fun c43 => ?_) (fun c43 => ?_)
                        · have c43 : 1 = 0 := c43
                          exact absurd c43 (by decide)
                        · have c43 : ¬ 1 = 0 := c43
                          refine wn_ld (pc' := 149) (q := 0) (kin := 2) (v := .ref (71)) rfl (fun _ _ _ => rfl) rfl rfl ?_
                          refine wn_ld (pc' := 150) (q := 1) (kin := 0) (v := .int (nI (tkV t n p))) rfl (fun _ _ _ => rfl) rfl rfl ?_
                          refine wn_ic (pc' := 151) (w := nI 4) rfl rfl (by decide) ?_
                          refine wn_virS (pc' := 154) rfl rfl (by decide) rfl rfl o_h41 (Nat.le_of_ble_eq_true rfl) (m_readSum _ _ t n (tkA t n pa) wa hn (tkA_le hpa) hb Ja th tl _ il up lo hv_h41 o_h41 ((fr_h41.2 75 (by decide)).trans ((G_h12.2 75 (by decide)).trans q4)) ((fr_h41.2 77 (by decide)).trans q_h12) (by omega) (tkV t n p) (by omega) 4) (fun r9 h44 e45 => ?_)
                          obtain ⟨rfl, F_h44, r_h44, sm_h44, M_h44⟩ := e45
                          have G_h44 := Fr.tr (Fr.tr G_h12 (fw fr_h41) (fun _ q => q)) F_h44 (fun _ q => q)
                          rw [va] at sm_h44
                          rcases r_h44 with e9b | ⟨pb, wb⟩
                          · obtain ⟨hb_h44, sz_h44, at_h44, fr9_h44, tk_h44, vl_h44, o_h44, f9_h44, q_h44⟩ := M_h44
                            show Wn _ _ 154 _ [] h44 _
                            refine wn_ld (pc' := 155) (q := 0) (kin := 2) (v := .ref (71)) rfl (fun _ _ _ => rfl) rfl rfl ?_
                            refine wn_virI (pc' := 158) rfl rfl (by decide) rfl rfl o_h44 (Nat.le_of_ble_eq_true rfl) (m_goodB _ _ _ _ _ _ _ _ _ _ _ _ _ _ hb_h44 o_h44) ?_
                            refine wn_ifN (t := 162) (f := 161) rfl rfl rfl (by omega) (fun c46 => ?_) (fun c46 => ?_)
                            · have c46 : ¬ 0 = 0 := c46
                              exact absurd c46 (by decide)
                            · have c46 : 0 = 0 := c46
                              have eR : LawR t n f0 p w (stp t n (.inl (e9b.1, e9b.2))) := Or.inl ⟨hl20, Or.inl ⟨w_h1, Or.inl ⟨w_h3, Or.inl ⟨w_h5, Or.inl ⟨w_h7, Or.inl ⟨w_h9, ⟨_, sm_h12, Or.inr (Or.inl ⟨c22, ⟨_, sm_h44, rfl⟩⟩)⟩⟩⟩⟩⟩⟩⟩
                              exact wn_vret rfl rfl ⟨rfl, (Fr.tr G_h44 (fw (Fr.rfl' [71] h44)) (fun _ q => q)), _, MT_l hb_h44 o_h44 q_h44, trivial, eR⟩
                          · obtain ⟨Jb, Sb, yb1, yb2, hpb⟩ := SumR_i (by omega) hn sm_h44 Ja (by omega) (tkA_le hpa)
                            have Jb : WJ wb := Jb
                            have Sb : SmJ 4 wa wb := Sb
                            have yb1 : 5 * npW wb ≤ pb := yb1
                            have yb2 : tkA t n pa < pb := yb2
                            have hpb : pb ≤ n := hpb
                            have tb := Sb.nt
                            have ub := Sb.nl
                            have vb := Sb.va (i := tkV t n p) (by omega)
                            have ob := Sb.1
                            obtain ⟨vl_h44, hv_h44, o_h44, q_h44⟩ := M_h44
                            obtain ⟨e0b, e0bb⟩ := wj_0 Jb
                            obtain ⟨⟨e1b, e2b⟩, ⟨e3b, e4b⟩, ⟨e5b, e6b⟩⟩ := Wf_n Jb.wf
                            obtain ⟨⟨e7b, e8b⟩, ⟨e9b, e10b⟩⟩ := Wf_m Jb.wf
                            have := tkF_le (t := t) (p := pb) hpb
                            have := tkA_ge (t := t) (n := n) (p := pb)
                            have := tkA_le (t := t) (p := pb) hpb
                            have := tkK_le (t := t) (n := n) (p := pb)
                            show Wn _ _ 154 _ [] h44 _
                            refine wn_ld (pc' := 155) (q := 0) (kin := 2) (v := .ref (71)) rfl (fun _ _ _ => rfl) rfl rfl ?_
                            refine wn_virI (pc' := 158) rfl rfl (by decide) rfl rfl o_h44 (Nat.le_of_ble_eq_true rfl) (m_good0 _ _ _ _ _ _ _ _ _ _ _ _ _ o_h44) ?_
                            refine wn_ifN (t := 162) (f := 161) rfl rfl rfl (by omega) (fun c47 => ?_) (fun c47 => ?_)
                            · have c47 : ¬ 1 = 0 := c47
                              have e0b_ := (wj_0 Jb).1
                              refine wn_sp (pc' := 165) (w := nI 456) rfl rfl (by decide) ?_
                              refine wn_bp (pc' := 167) (w := nI 6) rfl rfl (by decide) ?_
                              refine wn_ld (pc' := 168) (q := 0) (kin := 2) (v := .ref (71)) rfl (fun _ _ _ => rfl) rfl rfl ?_
                              refine wn_get (pc' := 171) (v := .ref (77)) rfl rfl o_h44 rfl ?_
                              refine wn_ic (pc' := 172) (w := nI 4) rfl rfl (by decide) ?_
                              refine wn_ialdv (pc' := 173) (j := 4) (v := (nI (nlW wb))) rfl rfl q_h44 rfl (by omega) (by decide) (e7b) ?_
                              refine wn_mulN (pc' := 174) rfl rfl ?_
                              refine wn_addN (pc' := 175) rfl rfl ?_
                              refine wn_st (pc' := 177) (q := 7) (kin := 0) (lv' := [(0, .ref (71)), (1, .int (nI (tkV t n p))), (2, .int ((nI (vaW w (tkV t n p))) - (nI (1)))), (3, .int (nI (tkV t n (tkA t n p)))), (4, .int (nI (tkV t n (tkA t n (tkA t n (tkA t n p)))))), (5, .int (nI (npW w))), (6, .int (nI (1))), (7, .int (nI (456 + (6 * (nlW wb)))))]) rfl (fun _ _ _ => rfl) rfl (Nat.le_of_ble_eq_true rfl) rfl ?_
                              refine wn_ld (pc' := 178) (q := 0) (kin := 2) (v := .ref (71)) rfl (fun _ _ _ => rfl) rfl rfl ?_
                              refine wn_get (pc' := 181) (v := .ref (77)) rfl rfl o_h44 rfl ?_
                              refine wn_ld (pc' := 183) (q := 7) (kin := 0) (v := .int (nI (456 + (6 * (nlW wb))))) rfl (fun _ _ _ => rfl) rfl rfl ?_
                              refine wn_ld (pc' := 184) (q := 1) (kin := 0) (v := .int (nI (tkV t n p))) rfl (fun _ _ _ => rfl) rfl rfl ?_
                              refine wn_iast (pc' := 185) (j := 456 + (6 * (nlW wb))) rfl rfl q_h44 rfl (by omega) (by decide) ?_
                              refine wn_ld (pc' := 186) (q := 0) (kin := 2) (v := .ref (71)) rfl (fun _ _ _ => rfl) rfl rfl ?_
                              refine wn_get (pc' := 189) (v := .ref (77)) rfl rfl (gs_ne (by decide) o_h44) rfl ?_
                              refine wn_ld (pc' := 191) (q := 7) (kin := 0) (v := .int (nI (456 + (6 * (nlW wb))))) rfl (fun _ _ _ => rfl) rfl rfl ?_
                              refine wn_ic (pc' := 192) (w := nI 1) rfl rfl (by decide) ?_
                              refine wn_addN (pc' := 193) rfl rfl ?_
                              refine wn_ld (pc' := 194) (q := 3) (kin := 0) (v := .int (nI (tkV t n (tkA t n p)))) rfl (fun _ _ _ => rfl) rfl rfl ?_
                              refine wn_iast (pc' := 195) (j := (456 + (6 * (nlW wb))) + 1) rfl rfl (gs_self q_h44) rfl (by omega) (by decide) ?_
                              refine wn_ld (pc' := 196) (q := 0) (kin := 2) (v := .ref (71)) rfl (fun _ _ _ => rfl) rfl rfl ?_
                              refine wn_get (pc' := 199) (v := .ref (77)) rfl rfl (gs_ne (by decide) (gs_ne (by decide) o_h44)) rfl ?_
                              refine wn_ld (pc' := 201) (q := 7) (kin := 0) (v := .int (nI (456 + (6 * (nlW wb))))) rfl (fun _ _ _ => rfl) rfl rfl ?_
                              refine wn_ic (pc' := 202) (w := nI 2) rfl rfl (by decide) ?_
                              refine wn_addN (pc' := 203) rfl rfl ?_
                              refine wn_ld (pc' := 205) (q := 4) (kin := 0) (v := .int (nI (tkV t n (tkA t n (tkA t n (tkA t n p)))))) rfl (fun _ _ _ => rfl) rfl rfl ?_
                              refine wn_iast (pc' := 206) (j := (456 + (6 * (nlW wb))) + 2) rfl rfl (gs_self (gs_self q_h44)) rfl (by omega) (by decide) ?_
                              refine wn_ld (pc' := 207) (q := 0) (kin := 2) (v := .ref (71)) rfl (fun _ _ _ => rfl) rfl rfl ?_
                              refine wn_get (pc' := 210) (v := .ref (77)) rfl rfl (gs_ne (by decide) (gs_ne (by decide) (gs_ne (by decide) o_h44))) rfl ?_
                              refine wn_ld (pc' := 212) (q := 7) (kin := 0) (v := .int (nI (456 + (6 * (nlW wb))))) rfl (fun _ _ _ => rfl) rfl rfl ?_
                              refine wn_ic (pc' := 213) (w := nI 3) rfl rfl (by decide) ?_
                              refine wn_addN (pc' := 214) rfl rfl ?_
                              refine wn_ld (pc' := 216) (q := 6) (kin := 0) (v := .int (nI (1))) rfl (fun _ _ _ => rfl) rfl rfl ?_
                              refine wn_iast (pc' := 217) (j := (456 + (6 * (nlW wb))) + 3) rfl rfl (gs_self (gs_self (gs_self q_h44))) rfl (by omega) (by decide) ?_
                              refine wn_ld (pc' := 218) (q := 0) (kin := 2) (v := .ref (71)) rfl (fun _ _ _ => rfl) rfl rfl ?_
                              refine wn_get (pc' := 221) (v := .ref (77)) rfl rfl (gs_ne (by decide) (gs_ne (by decide) (gs_ne (by decide) (gs_ne (by decide) o_h44)))) rfl ?_
                              refine wn_ld (pc' := 223) (q := 7) (kin := 0) (v := .int (nI (456 + (6 * (nlW wb))))) rfl (fun _ _ _ => rfl) rfl rfl ?_
                              refine wn_ic (pc' := 224) (w := nI 4) rfl rfl (by decide) ?_
                              refine wn_addN (pc' := 225) rfl rfl ?_
                              refine wn_ld (pc' := 227) (q := 5) (kin := 0) (v := .int (nI (npW w))) rfl (fun _ _ _ => rfl) rfl rfl ?_
                              refine wn_iast (pc' := 228) (j := (456 + (6 * (nlW wb))) + 4) rfl rfl (gs_self (gs_self (gs_self (gs_self q_h44)))) rfl (by omega) (by decide) ?_
                              refine wn_ld (pc' := 229) (q := 0) (kin := 2) (v := .ref (71)) rfl (fun _ _ _ => rfl) rfl rfl ?_
                              refine wn_get (pc' := 232) (v := .ref (77)) rfl rfl (gs_ne (by decide) (gs_ne (by decide) (gs_ne (by decide) (gs_ne (by decide) (gs_ne (by decide) o_h44))))) rfl ?_
                              refine wn_ld (pc' := 234) (q := 7) (kin := 0) (v := .int (nI (456 + (6 * (nlW wb))))) rfl (fun _ _ _ => rfl) rfl rfl ?_
                              refine wn_ic (pc' := 235) (w := nI 5) rfl rfl (by decide) ?_
                              refine wn_addN (pc' := 236) rfl rfl ?_
                              refine wn_ld (pc' := 237) (q := 0) (kin := 2) (v := .ref (71)) rfl (fun _ _ _ => rfl) rfl rfl ?_
                              refine wn_get (pc' := 240) (v := .ref (77)) rfl rfl (gs_ne (by decide) (gs_ne (by decide) (gs_ne (by decide) (gs_ne (by decide) (gs_ne (by decide) o_h44))))) rfl ?_
                              refine wn_ic (pc' := 241) (w := nI 5) rfl rfl (by decide) ?_
                              refine wn_ialdv (pc' := 242) (j := 5) (v := (nI (npW wb))) rfl rfl (gs_self (gs_self (gs_self (gs_self (gs_self q_h44))))) rfl (by omega) (by decide) ((pk_un (by omega)).trans ((pk_un (by omega)).trans ((pk_un (by omega)).trans ((pk_un (by omega)).trans ((pk_un (by omega)).trans (e9b)))))) ?_
                              refine wn_ld (pc' := 244) (q := 5) (kin := 0) (v := .int (nI (npW w))) rfl (fun _ _ _ => rfl) rfl rfl ?_
                              refine wn_subN (pc' := 245) rfl rfl (by omega) ?_
                              refine wn_iast (pc' := 246) (j := (456 + (6 * (nlW wb))) + 5) rfl rfl (gs_self (gs_self (gs_self (gs_self (gs_self q_h44))))) rfl (by omega) (by decide) ?_
                              refine wn_ld (pc' := 247) (q := 0) (kin := 2) (v := .ref (71)) rfl (fun _ _ _ => rfl) rfl rfl ?_
                              refine wn_get (pc' := 250) (v := .ref (77)) rfl rfl (gs_ne (by decide) (gs_ne (by decide) (gs_ne (by decide) (gs_ne (by decide) (gs_ne (by decide) (gs_ne (by decide) o_h44)))))) rfl ?_
                              refine wn_ic (pc' := 251) (w := nI 4) rfl rfl (by decide) ?_
                              refine wn_pu (pc' := 252) (st' := [.int (nI (4)), .ref (77), .int (nI (4)), .ref (77)]) rfl (fun _ _ _ => rfl) rfl rfl ?_
                              refine wn_ialdv (pc' := 253) (j := 4) (v := (nI (nlW wb))) rfl rfl (gs_self (gs_self (gs_self (gs_self (gs_self (gs_self q_h44)))))) rfl (by omega) (by decide) ((pk_un (by omega)).trans ((pk_un (by omega)).trans ((pk_un (by omega)).trans ((pk_un (by omega)).trans ((pk_un (by omega)).trans ((pk_un (by omega)).trans (e7b))))))) ?_
                              refine wn_ic (pc' := 254) (w := nI 1) rfl rfl (by decide) ?_
                              refine wn_addN (pc' := 255) rfl rfl ?_
                              refine wn_iast (pc' := 256) (j := 4) rfl rfl (gs_self (gs_self (gs_self (gs_self (gs_self (gs_self q_h44)))))) rfl (by omega) (by decide) ?_
                              have eR : LawR t n f0 p w (stp t n (.inr (pb, lawW wb (tkV t n p) (tkV t n (tkA t n p)) (tkV t n (tkA t n (tkA t n (tkA t n p)))) 1 (npW w)))) := Or.inl ⟨hl20, Or.inl ⟨w_h1, Or.inl ⟨w_h3, Or.inl ⟨w_h5, Or.inl ⟨w_h7, Or.inl ⟨w_h9, ⟨_, sm_h12, Or.inr (Or.inl ⟨c22, ⟨_, sm_h44, rfl⟩⟩)⟩⟩⟩⟩⟩⟩⟩
                              exact wn_vret rfl rfl ⟨rfl, (Fr.st (Fr.st (Fr.st (Fr.st (Fr.st (Fr.st (Fr.st (Fr.tr G_h44 (fw (Fr.rfl' [71] h44)) (fun _ q => q)) (by decide)) (by decide)) (by decide)) (by decide)) (by decide)) (by decide)) (by decide)), .inr (pb, lawW wb (tkV t n p) (tkV t n (tkA t n p)) (tkV t n (tkA t n (tkA t n (tkA t n p)))) 1 (npW w)), MT_r hv_h44 (gs_ne (by decide) (gs_ne (by decide) (gs_ne (by decide) (gs_ne (by decide) (gs_ne (by decide) (gs_ne (by decide) (gs_ne (by decide) o_h44))))))) (gs_self (gs_self (gs_self (gs_self (gs_self (gs_self (gs_self q_h44))))))), ⟨hpb, (law_o (by omega) (by omega)).trans (e0b_.trans (congrArg nI (lc_e (law_o (by omega) (by omega))).symm))⟩, eR⟩
                            · have c47 : 1 = 0 := c47
                              exact absurd c47 (by decide)
                    · have c39 : ((nI (1))) = ((-1)) := c39
                      exact absurd c39 (nI_m1 (by omega))
                · have c21 : (isWd t n pa 17) := c21
                  refine wn_ic (pc' := 87) (w := nI 0) rfl rfl (by decide) ?_
                  refine wn_jp (pc' := 117) rfl rfl ?_
                  refine wn_st (pc' := 119) (q := 6) (kin := 0) (lv' := [(0, .ref (71)), (1, .int (nI (tkV t n p))), (2, .int ((nI (vaW w (tkV t n p))) - (nI (1)))), (3, .int (nI (tkV t n (tkA t n p)))), (4, .int (nI (tkV t n (tkA t n (tkA t n (tkA t n p)))))), (5, .int (nI (npW w))), (6, .int (nI (0)))]) rfl (fun _ _ _ => rfl) rfl (Nat.le_of_ble_eq_true rfl) rfl ?_
                  refine wn_ld (pc' := 121) (q := 6) (kin := 0) (v := .int (nI (0))) rfl (fun _ _ _ => rfl) rfl rfl ?_
                  refine wn_ic (pc' := 122) (w := -1) rfl rfl (by decide) ?_
                  refine wn_icmp (t := 130) (f := 125) rfl rfl rfl (fun c48 => ?_) (fun c48 => ?_)
                  · have c48 : ¬ ((nI (0))) = ((-1)) := c48
                    refine wn_ld (pc' := 131) (q := 0) (kin := 2) (v := .ref (71)) rfl (fun _ _ _ => rfl) rfl rfl ?_
                    refine wn_virI (pc' := 134) rfl rfl (by decide) rfl rfl o_h12 (Nat.le_of_ble_eq_true rfl) (m_good0 _ _ _ _ _ _ _ _ _ _ _ _ _ o_h12) ?_
                    refine wn_ifN (t := 141) (f := 137) rfl rfl rfl (by omega) (fun c49 => ?_) (fun c49 => ?_)
                    · have c49 : 1 = 0 := c49
                      exact absurd c49 (by decide)
                    · have c49 : ¬ 1 = 0 := c49
                      have l9 := litL4
                      have g9 := wd_gt c21
                      refine wn_ld (pc' := 138) (q := 0) (kin := 2) (v := .ref (71)) rfl (fun _ _ _ => rfl) rfl rfl ?_
                      refine wn_virS (pc' := 141) rfl rfl (by decide) rfl rfl o_h12 (Nat.le_of_ble_eq_true rfl) (m_advance _ _ t n (tkA t n pa) hn (tkA_le hpa) hb th tl _ _ _ (nI 0) (-1) il up lo o_h12 ((G_h12.2 75 (by decide)).trans q4)) (fun r9 h50 e51 => ?_)
                      obtain ⟨rfl, f_h50, vl_h50, hv_h50, o_h50⟩ := e51
                      have fr_h50 := Fr.tr (Fr.rfl' [71] h12) f_h50 (fun _ q => q)
                      have := tkF_le (t := t) (p := (tkA t n pa)) (tkA_le hpa)
                      have := tkA_ge (t := t) (n := n) (p := (tkA t n pa))
                      have := tkA_le (t := t) (p := (tkA t n pa)) (tkA_le hpa)
                      have := tkK_le (t := t) (n := n) (p := (tkA t n pa))
                      show Wn _ _ 141 _ [] h50 _
                      refine wn_ld (pc' := 142) (q := 0) (kin := 2) (v := .ref (71)) rfl (fun _ _ _ => rfl) rfl rfl ?_
                      refine wn_virI (pc' := 145) rfl rfl (by decide) rfl rfl o_h50 (Nat.le_of_ble_eq_true rfl) (m_good0 _ _ _ _ _ _ _ _ _ _ _ _ _ o_h50) ?_
                      refine wn_ifN (t := 154) (f := 148) rfl rfl rfl (by omega) (fun c52 => ?_) (fun c52 => ?_)
                      · have c52 : 1 = 0 := c52
                        exact absurd c52 (by decide)
                      · have c52 : ¬ 1 = 0 := c52
                        refine wn_ld (pc' := 149) (q := 0) (kin := 2) (v := .ref (71)) rfl (fun _ _ _ => rfl) rfl rfl ?_
                        refine wn_ld (pc' := 150) (q := 1) (kin := 0) (v := .int (nI (tkV t n p))) rfl (fun _ _ _ => rfl) rfl rfl ?_
                        refine wn_ic (pc' := 151) (w := nI 4) rfl rfl (by decide) ?_
                        refine wn_virS (pc' := 154) rfl rfl (by decide) rfl rfl o_h50 (Nat.le_of_ble_eq_true rfl) (m_readSum _ _ t n (tkA t n pa) wa hn (tkA_le hpa) hb Ja th tl _ il up lo hv_h50 o_h50 ((fr_h50.2 75 (by decide)).trans ((G_h12.2 75 (by decide)).trans q4)) ((fr_h50.2 77 (by decide)).trans q_h12) (by omega) (tkV t n p) (by omega) 4) (fun r9 h53 e54 => ?_)
                        obtain ⟨rfl, F_h53, r_h53, sm_h53, M_h53⟩ := e54
                        have G_h53 := Fr.tr (Fr.tr G_h12 (fw fr_h50) (fun _ q => q)) F_h53 (fun _ q => q)
                        rw [va] at sm_h53
                        rcases r_h53 with e9b | ⟨pb, wb⟩
                        · obtain ⟨hb_h53, sz_h53, at_h53, fr9_h53, tk_h53, vl_h53, o_h53, f9_h53, q_h53⟩ := M_h53
                          show Wn _ _ 154 _ [] h53 _
                          refine wn_ld (pc' := 155) (q := 0) (kin := 2) (v := .ref (71)) rfl (fun _ _ _ => rfl) rfl rfl ?_
                          refine wn_virI (pc' := 158) rfl rfl (by decide) rfl rfl o_h53 (Nat.le_of_ble_eq_true rfl) (m_goodB _ _ _ _ _ _ _ _ _ _ _ _ _ _ hb_h53 o_h53) ?_
                          refine wn_ifN (t := 162) (f := 161) rfl rfl rfl (by omega) (fun c55 => ?_) (fun c55 => ?_)
                          · have c55 : ¬ 0 = 0 := c55
                            exact absurd c55 (by decide)
                          · have c55 : 0 = 0 := c55
                            have eR : LawR t n f0 p w (stp t n (.inl (e9b.1, e9b.2))) := Or.inl ⟨hl20, Or.inl ⟨w_h1, Or.inl ⟨w_h3, Or.inl ⟨w_h5, Or.inl ⟨w_h7, Or.inl ⟨w_h9, ⟨_, sm_h12, Or.inl ⟨c21, ⟨_, sm_h53, rfl⟩⟩⟩⟩⟩⟩⟩⟩⟩
                            exact wn_vret rfl rfl ⟨rfl, (Fr.tr G_h53 (fw (Fr.rfl' [71] h53)) (fun _ q => q)), _, MT_l hb_h53 o_h53 q_h53, trivial, eR⟩
                        · obtain ⟨Jb, Sb, yb1, yb2, hpb⟩ := SumR_i (by omega) hn sm_h53 Ja (by omega) (tkA_le hpa)
                          have Jb : WJ wb := Jb
                          have Sb : SmJ 4 wa wb := Sb
                          have yb1 : 5 * npW wb ≤ pb := yb1
                          have yb2 : tkA t n pa < pb := yb2
                          have hpb : pb ≤ n := hpb
                          have tb := Sb.nt
                          have ub := Sb.nl
                          have vb := Sb.va (i := tkV t n p) (by omega)
                          have ob := Sb.1
                          obtain ⟨vl_h53, hv_h53, o_h53, q_h53⟩ := M_h53
                          obtain ⟨e0b, e0bb⟩ := wj_0 Jb
                          obtain ⟨⟨e1b, e2b⟩, ⟨e3b, e4b⟩, ⟨e5b, e6b⟩⟩ := Wf_n Jb.wf
                          obtain ⟨⟨e7b, e8b⟩, ⟨e9b, e10b⟩⟩ := Wf_m Jb.wf
                          have := tkF_le (t := t) (p := pb) hpb
                          have := tkA_ge (t := t) (n := n) (p := pb)
                          have := tkA_le (t := t) (p := pb) hpb
                          have := tkK_le (t := t) (n := n) (p := pb)
                          show Wn _ _ 154 _ [] h53 _
                          refine wn_ld (pc' := 155) (q := 0) (kin := 2) (v := .ref (71)) rfl (fun _ _ _ => rfl) rfl rfl ?_
                          refine wn_virI (pc' := 158) rfl rfl (by decide) rfl rfl o_h53 (Nat.le_of_ble_eq_true rfl) (m_good0 _ _ _ _ _ _ _ _ _ _ _ _ _ o_h53) ?_
                          refine wn_ifN (t := 162) (f := 161) rfl rfl rfl (by omega) (fun c56 => ?_) (fun c56 => ?_)
                          · have c56 : ¬ 1 = 0 := c56
                            have e0b_ := (wj_0 Jb).1
                            refine wn_sp (pc' := 165) (w := nI 456) rfl rfl (by decide) ?_
                            refine wn_bp (pc' := 167) (w := nI 6) rfl rfl (by decide) ?_
                            refine wn_ld (pc' := 168) (q := 0) (kin := 2) (v := .ref (71)) rfl (fun _ _ _ => rfl) rfl rfl ?_
                            refine wn_get (pc' := 171) (v := .ref (77)) rfl rfl o_h53 rfl ?_
                            refine wn_ic (pc' := 172) (w := nI 4) rfl rfl (by decide) ?_
                            refine wn_ialdv (pc' := 173) (j := 4) (v := (nI (nlW wb))) rfl rfl q_h53 rfl (by omega) (by decide) (e7b) ?_
                            refine wn_mulN (pc' := 174) rfl rfl ?_
                            refine wn_addN (pc' := 175) rfl rfl ?_
                            refine wn_st (pc' := 177) (q := 7) (kin := 0) (lv' := [(0, .ref (71)), (1, .int (nI (tkV t n p))), (2, .int ((nI (vaW w (tkV t n p))) - (nI (1)))), (3, .int (nI (tkV t n (tkA t n p)))), (4, .int (nI (tkV t n (tkA t n (tkA t n (tkA t n p)))))), (5, .int (nI (npW w))), (6, .int (nI (0))), (7, .int (nI (456 + (6 * (nlW wb)))))]) rfl (fun _ _ _ => rfl) rfl (Nat.le_of_ble_eq_true rfl) rfl ?_
                            refine wn_ld (pc' := 178) (q := 0) (kin := 2) (v := .ref (71)) rfl (fun _ _ _ => rfl) rfl rfl ?_
                            refine wn_get (pc' := 181) (v := .ref (77)) rfl rfl o_h53 rfl ?_
                            refine wn_ld (pc' := 183) (q := 7) (kin := 0) (v := .int (nI (456 + (6 * (nlW wb))))) rfl (fun _ _ _ => rfl) rfl rfl ?_
                            refine wn_ld (pc' := 184) (q := 1) (kin := 0) (v := .int (nI (tkV t n p))) rfl (fun _ _ _ => rfl) rfl rfl ?_
                            refine wn_iast (pc' := 185) (j := 456 + (6 * (nlW wb))) rfl rfl q_h53 rfl (by omega) (by decide) ?_
                            refine wn_ld (pc' := 186) (q := 0) (kin := 2) (v := .ref (71)) rfl (fun _ _ _ => rfl) rfl rfl ?_
                            refine wn_get (pc' := 189) (v := .ref (77)) rfl rfl (gs_ne (by decide) o_h53) rfl ?_
                            refine wn_ld (pc' := 191) (q := 7) (kin := 0) (v := .int (nI (456 + (6 * (nlW wb))))) rfl (fun _ _ _ => rfl) rfl rfl ?_
                            refine wn_ic (pc' := 192) (w := nI 1) rfl rfl (by decide) ?_
                            refine wn_addN (pc' := 193) rfl rfl ?_
                            refine wn_ld (pc' := 194) (q := 3) (kin := 0) (v := .int (nI (tkV t n (tkA t n p)))) rfl (fun _ _ _ => rfl) rfl rfl ?_
                            refine wn_iast (pc' := 195) (j := (456 + (6 * (nlW wb))) + 1) rfl rfl (gs_self q_h53) rfl (by omega) (by decide) ?_
                            refine wn_ld (pc' := 196) (q := 0) (kin := 2) (v := .ref (71)) rfl (fun _ _ _ => rfl) rfl rfl ?_
                            refine wn_get (pc' := 199) (v := .ref (77)) rfl rfl (gs_ne (by decide) (gs_ne (by decide) o_h53)) rfl ?_
                            refine wn_ld (pc' := 201) (q := 7) (kin := 0) (v := .int (nI (456 + (6 * (nlW wb))))) rfl (fun _ _ _ => rfl) rfl rfl ?_
                            refine wn_ic (pc' := 202) (w := nI 2) rfl rfl (by decide) ?_
                            refine wn_addN (pc' := 203) rfl rfl ?_
                            refine wn_ld (pc' := 205) (q := 4) (kin := 0) (v := .int (nI (tkV t n (tkA t n (tkA t n (tkA t n p)))))) rfl (fun _ _ _ => rfl) rfl rfl ?_
                            refine wn_iast (pc' := 206) (j := (456 + (6 * (nlW wb))) + 2) rfl rfl (gs_self (gs_self q_h53)) rfl (by omega) (by decide) ?_
                            refine wn_ld (pc' := 207) (q := 0) (kin := 2) (v := .ref (71)) rfl (fun _ _ _ => rfl) rfl rfl ?_
                            refine wn_get (pc' := 210) (v := .ref (77)) rfl rfl (gs_ne (by decide) (gs_ne (by decide) (gs_ne (by decide) o_h53))) rfl ?_
                            refine wn_ld (pc' := 212) (q := 7) (kin := 0) (v := .int (nI (456 + (6 * (nlW wb))))) rfl (fun _ _ _ => rfl) rfl rfl ?_
                            refine wn_ic (pc' := 213) (w := nI 3) rfl rfl (by decide) ?_
                            refine wn_addN (pc' := 214) rfl rfl ?_
                            refine wn_ld (pc' := 216) (q := 6) (kin := 0) (v := .int (nI (0))) rfl (fun _ _ _ => rfl) rfl rfl ?_
                            refine wn_iast (pc' := 217) (j := (456 + (6 * (nlW wb))) + 3) rfl rfl (gs_self (gs_self (gs_self q_h53))) rfl (by omega) (by decide) ?_
                            refine wn_ld (pc' := 218) (q := 0) (kin := 2) (v := .ref (71)) rfl (fun _ _ _ => rfl) rfl rfl ?_
                            refine wn_get (pc' := 221) (v := .ref (77)) rfl rfl (gs_ne (by decide) (gs_ne (by decide) (gs_ne (by decide) (gs_ne (by decide) o_h53)))) rfl ?_
                            refine wn_ld (pc' := 223) (q := 7) (kin := 0) (v := .int (nI (456 + (6 * (nlW wb))))) rfl (fun _ _ _ => rfl) rfl rfl ?_
                            refine wn_ic (pc' := 224) (w := nI 4) rfl rfl (by decide) ?_
                            refine wn_addN (pc' := 225) rfl rfl ?_
                            refine wn_ld (pc' := 227) (q := 5) (kin := 0) (v := .int (nI (npW w))) rfl (fun _ _ _ => rfl) rfl rfl ?_
                            refine wn_iast (pc' := 228) (j := (456 + (6 * (nlW wb))) + 4) rfl rfl (gs_self (gs_self (gs_self (gs_self q_h53)))) rfl (by omega) (by decide) ?_
                            refine wn_ld (pc' := 229) (q := 0) (kin := 2) (v := .ref (71)) rfl (fun _ _ _ => rfl) rfl rfl ?_
                            refine wn_get (pc' := 232) (v := .ref (77)) rfl rfl (gs_ne (by decide) (gs_ne (by decide) (gs_ne (by decide) (gs_ne (by decide) (gs_ne (by decide) o_h53))))) rfl ?_
                            refine wn_ld (pc' := 234) (q := 7) (kin := 0) (v := .int (nI (456 + (6 * (nlW wb))))) rfl (fun _ _ _ => rfl) rfl rfl ?_
                            refine wn_ic (pc' := 235) (w := nI 5) rfl rfl (by decide) ?_
                            refine wn_addN (pc' := 236) rfl rfl ?_
                            refine wn_ld (pc' := 237) (q := 0) (kin := 2) (v := .ref (71)) rfl (fun _ _ _ => rfl) rfl rfl ?_
                            refine wn_get (pc' := 240) (v := .ref (77)) rfl rfl (gs_ne (by decide) (gs_ne (by decide) (gs_ne (by decide) (gs_ne (by decide) (gs_ne (by decide) o_h53))))) rfl ?_
                            refine wn_ic (pc' := 241) (w := nI 5) rfl rfl (by decide) ?_
                            refine wn_ialdv (pc' := 242) (j := 5) (v := (nI (npW wb))) rfl rfl (gs_self (gs_self (gs_self (gs_self (gs_self q_h53))))) rfl (by omega) (by decide) ((pk_un (by omega)).trans ((pk_un (by omega)).trans ((pk_un (by omega)).trans ((pk_un (by omega)).trans ((pk_un (by omega)).trans (e9b)))))) ?_
                            refine wn_ld (pc' := 244) (q := 5) (kin := 0) (v := .int (nI (npW w))) rfl (fun _ _ _ => rfl) rfl rfl ?_
                            refine wn_subN (pc' := 245) rfl rfl (by omega) ?_
                            refine wn_iast (pc' := 246) (j := (456 + (6 * (nlW wb))) + 5) rfl rfl (gs_self (gs_self (gs_self (gs_self (gs_self q_h53))))) rfl (by omega) (by decide) ?_
                            refine wn_ld (pc' := 247) (q := 0) (kin := 2) (v := .ref (71)) rfl (fun _ _ _ => rfl) rfl rfl ?_
                            refine wn_get (pc' := 250) (v := .ref (77)) rfl rfl (gs_ne (by decide) (gs_ne (by decide) (gs_ne (by decide) (gs_ne (by decide) (gs_ne (by decide) (gs_ne (by decide) o_h53)))))) rfl ?_
                            refine wn_ic (pc' := 251) (w := nI 4) rfl rfl (by decide) ?_
                            refine wn_pu (pc' := 252) (st' := [.int (nI (4)), .ref (77), .int (nI (4)), .ref (77)]) rfl (fun _ _ _ => rfl) rfl rfl ?_
                            refine wn_ialdv (pc' := 253) (j := 4) (v := (nI (nlW wb))) rfl rfl (gs_self (gs_self (gs_self (gs_self (gs_self (gs_self q_h53)))))) rfl (by omega) (by decide) ((pk_un (by omega)).trans ((pk_un (by omega)).trans ((pk_un (by omega)).trans ((pk_un (by omega)).trans ((pk_un (by omega)).trans ((pk_un (by omega)).trans (e7b))))))) ?_
                            refine wn_ic (pc' := 254) (w := nI 1) rfl rfl (by decide) ?_
                            refine wn_addN (pc' := 255) rfl rfl ?_
                            refine wn_iast (pc' := 256) (j := 4) rfl rfl (gs_self (gs_self (gs_self (gs_self (gs_self (gs_self q_h53)))))) rfl (by omega) (by decide) ?_
                            have eR : LawR t n f0 p w (stp t n (.inr (pb, lawW wb (tkV t n p) (tkV t n (tkA t n p)) (tkV t n (tkA t n (tkA t n (tkA t n p)))) 0 (npW w)))) := Or.inl ⟨hl20, Or.inl ⟨w_h1, Or.inl ⟨w_h3, Or.inl ⟨w_h5, Or.inl ⟨w_h7, Or.inl ⟨w_h9, ⟨_, sm_h12, Or.inl ⟨c21, ⟨_, sm_h53, rfl⟩⟩⟩⟩⟩⟩⟩⟩⟩
                            exact wn_vret rfl rfl ⟨rfl, (Fr.st (Fr.st (Fr.st (Fr.st (Fr.st (Fr.st (Fr.st (Fr.tr G_h53 (fw (Fr.rfl' [71] h53)) (fun _ q => q)) (by decide)) (by decide)) (by decide)) (by decide)) (by decide)) (by decide)) (by decide)), .inr (pb, lawW wb (tkV t n p) (tkV t n (tkA t n p)) (tkV t n (tkA t n (tkA t n (tkA t n p)))) 0 (npW w)), MT_r hv_h53 (gs_ne (by decide) (gs_ne (by decide) (gs_ne (by decide) (gs_ne (by decide) (gs_ne (by decide) (gs_ne (by decide) (gs_ne (by decide) o_h53))))))) (gs_self (gs_self (gs_self (gs_self (gs_self (gs_self (gs_self q_h53))))))), ⟨hpb, (law_o (by omega) (by omega)).trans (e0b_.trans (congrArg nI (lc_e (law_o (by omega) (by omega))).symm))⟩, eR⟩
                          · have c56 : 1 = 0 := c56
                            exact absurd c56 (by decide)
                  · have c48 : ((nI (0))) = ((-1)) := c48
                    exact absurd c48 (nI_m1 (by omega))
          · have fr_h9 := Fr.tr fr_h7 f_h9 (fun _ q => q)
            show Wn _ _ 56 _ [] h9 _
            refine wn_ld (pc' := 57) (q := 0) (kin := 2) (v := .ref (71)) rfl (fun _ _ _ => rfl) rfl rfl ?_
            refine wn_get (pc' := 60) (v := .ref (77)) rfl rfl o_h9 rfl ?_
            refine wn_ic (pc' := 61) (w := nI 5) rfl rfl (by decide) ?_
            refine wn_ialdv (pc' := 62) (j := 5) (v := (w (5))) rfl rfl ((fr_h9.2 77 (by decide)).trans q6) rfl (by omega) (by decide) (rfl) ?_
            refine wn_st (pc' := 64) (q := 5) (kin := 0) (lv' := [(0, .ref (71)), (1, .int (nI (tkV t n p))), (2, .int ((nI (vaW w (tkV t n p))) - (nI (1)))), (3, .int (nI (tkV t n (tkA t n p)))), (4, .int (nI (tkV t n (tkA t n (tkA t n (tkA t n p)))))), (5, .int (w (5)))]) rfl (fun _ _ _ => rfl) rfl (Nat.le_of_ble_eq_true rfl) rfl ?_
            refine wn_ld (pc' := 65) (q := 0) (kin := 2) (v := .ref (71)) rfl (fun _ _ _ => rfl) rfl rfl ?_
            refine wn_virI (pc' := 68) rfl rfl (by decide) rfl rfl o_h9 (Nat.le_of_ble_eq_true rfl) (m_goodB _ _ _ _ _ _ _ _ _ _ _ _ _ _ (show ¬ nI 1 = 0 by decide) o_h9) ?_
            refine wn_ifN (t := 77) (f := 71) rfl rfl rfl (by omega) (fun c57 => ?_) (fun c57 => ?_)
            · have c57 : 0 = 0 := c57
              refine wn_ld (pc' := 78) (q := 0) (kin := 2) (v := .ref (71)) rfl (fun _ _ _ => rfl) rfl rfl ?_
              refine wn_go (pc' := 80) (lv' := [(0, .ref (71)), (1, .int (nI (tkV t n p))), (2, .int ((nI (vaW w (tkV t n p))) - (nI (1)))), (3, .int (nI (tkV t n (tkA t n p)))), (4, .int (nI (tkV t n (tkA t n (tkA t n (tkA t n p)))))), (5, .int (w (5)))]) (st' := [.retAddr 17, .ref (71)]) rfl (fun _ _ _ k9 => ⟨by decide, k9⟩) ?_
              refine wn_virI (pc' := 83) rfl rfl (by decide) rfl rfl o_h9 (Nat.le_of_ble_eq_true rfl) (m_isB _ _ _ _ _ _ _ _ _ _ _ _ _ _ (show ¬ nI 1 = 0 by decide) o_h9 17 (by omega)) ?_
              refine wn_ifN (t := 90) (f := 86) rfl rfl rfl (by omega) (fun c58 => ?_) (fun c58 => ?_)
              · have c58 : 0 = 0 := c58
                refine wn_ld (pc' := 91) (q := 0) (kin := 2) (v := .ref (71)) rfl (fun _ _ _ => rfl) rfl rfl ?_
                refine wn_go (pc' := 93) (lv' := [(0, .ref (71)), (1, .int (nI (tkV t n p))), (2, .int ((nI (vaW w (tkV t n p))) - (nI (1)))), (3, .int (nI (tkV t n (tkA t n p)))), (4, .int (nI (tkV t n (tkA t n (tkA t n (tkA t n p)))))), (5, .int (w (5)))]) (st' := [.retAddr 18, .ref (71)]) rfl (fun _ _ _ k9 => ⟨by decide, k9⟩) ?_
                refine wn_virI (pc' := 96) rfl rfl (by decide) rfl rfl o_h9 (Nat.le_of_ble_eq_true rfl) (m_isB _ _ _ _ _ _ _ _ _ _ _ _ _ _ (show ¬ nI 1 = 0 by decide) o_h9 18 (by omega)) ?_
                refine wn_ifN (t := 103) (f := 99) rfl rfl rfl (by omega) (fun c59 => ?_) (fun c59 => ?_)
                · have c59 : 0 = 0 := c59
                  refine wn_ld (pc' := 104) (q := 0) (kin := 2) (v := .ref (71)) rfl (fun _ _ _ => rfl) rfl rfl ?_
                  refine wn_go (pc' := 106) (lv' := [(0, .ref (71)), (1, .int (nI (tkV t n p))), (2, .int ((nI (vaW w (tkV t n p))) - (nI (1)))), (3, .int (nI (tkV t n (tkA t n p)))), (4, .int (nI (tkV t n (tkA t n (tkA t n (tkA t n p)))))), (5, .int (w (5)))]) (st' := [.retAddr 19, .ref (71)]) rfl (fun _ _ _ k9 => ⟨by decide, k9⟩) ?_
                  refine wn_virI (pc' := 109) rfl rfl (by decide) rfl rfl o_h9 (Nat.le_of_ble_eq_true rfl) (m_isB _ _ _ _ _ _ _ _ _ _ _ _ _ _ (show ¬ nI 1 = 0 by decide) o_h9 19 (by omega)) ?_
                  refine wn_ifN (t := 116) (f := 112) rfl rfl rfl (by omega) (fun c60 => ?_) (fun c60 => ?_)
                  · have c60 : 0 = 0 := c60
                    refine wn_ic (pc' := 117) (w := -1) rfl rfl (by decide) ?_
                    refine wn_st (pc' := 119) (q := 6) (kin := 0) (lv' := [(0, .ref (71)), (1, .int (nI (tkV t n p))), (2, .int ((nI (vaW w (tkV t n p))) - (nI (1)))), (3, .int (nI (tkV t n (tkA t n p)))), (4, .int (nI (tkV t n (tkA t n (tkA t n (tkA t n p)))))), (5, .int (w (5))), (6, .int (-1))]) rfl (fun _ _ _ => rfl) rfl (Nat.le_of_ble_eq_true rfl) rfl ?_
                    refine wn_ld (pc' := 121) (q := 6) (kin := 0) (v := .int (-1)) rfl (fun _ _ _ => rfl) rfl rfl ?_
                    refine wn_ic (pc' := 122) (w := -1) rfl rfl (by decide) ?_
                    refine wn_icmp (t := 130) (f := 125) rfl rfl rfl (fun c61 => ?_) (fun c61 => ?_)
                    · have c61 : ¬ ((-1) : Int32) = ((-1)) := c61
                      exact absurd c61 (by decide)
                    · have c61 : ((-1) : Int32) = ((-1)) := c61
                      refine wn_ld (pc' := 126) (q := 0) (kin := 2) (v := .ref (71)) rfl (fun _ _ _ => rfl) rfl rfl ?_
                      refine wn_ic (pc' := 127) (w := nI 1) rfl rfl (by decide) ?_
                      refine wn_virV (pc' := 130) rfl rfl (by decide) rfl rfl o_h9 (Nat.le_of_ble_eq_true rfl) (m_errsB _ _ _ _ _ _ _ _ _ _ _ _ _ _ (show ¬ nI 1 = 0 by decide) o_h9 (nI (1))) ?_
                      refine wn_ld (pc' := 131) (q := 0) (kin := 2) (v := .ref (71)) rfl (fun _ _ _ => rfl) rfl rfl ?_
                      refine wn_virI (pc' := 134) rfl rfl (by decide) rfl rfl o_h9 (Nat.le_of_ble_eq_true rfl) (m_goodB _ _ _ _ _ _ _ _ _ _ _ _ _ _ (show ¬ nI 1 = 0 by decide) o_h9) ?_
                      refine wn_ifN (t := 141) (f := 137) rfl rfl rfl (by omega) (fun c62 => ?_) (fun c62 => ?_)
                      · have c62 : 0 = 0 := c62
                        refine wn_ld (pc' := 142) (q := 0) (kin := 2) (v := .ref (71)) rfl (fun _ _ _ => rfl) rfl rfl ?_
                        refine wn_virI (pc' := 145) rfl rfl (by decide) rfl rfl o_h9 (Nat.le_of_ble_eq_true rfl) (m_goodB _ _ _ _ _ _ _ _ _ _ _ _ _ _ (show ¬ nI 1 = 0 by decide) o_h9) ?_
                        refine wn_ifN (t := 154) (f := 148) rfl rfl rfl (by omega) (fun c63 => ?_) (fun c63 => ?_)
                        · have c63 : 0 = 0 := c63
                          refine wn_ld (pc' := 155) (q := 0) (kin := 2) (v := .ref (71)) rfl (fun _ _ _ => rfl) rfl rfl ?_
                          refine wn_virI (pc' := 158) rfl rfl (by decide) rfl rfl o_h9 (Nat.le_of_ble_eq_true rfl) (m_goodB _ _ _ _ _ _ _ _ _ _ _ _ _ _ (show ¬ nI 1 = 0 by decide) o_h9) ?_
                          refine wn_ifN (t := 162) (f := 161) rfl rfl rfl (by omega) (fun c64 => ?_) (fun c64 => ?_)
                          · have c64 : ¬ 0 = 0 := c64
                            exact absurd c64 (by decide)
                          · have c64 : 0 = 0 := c64
                            have eR : LawR t n f0 p w (stp t n (.inl (1, tkF t n (tkA t n (tkA t n (tkA t n (tkA t n p))))))) := Or.inl ⟨hl20, Or.inl ⟨w_h1, Or.inl ⟨w_h3, Or.inl ⟨w_h5, Or.inl ⟨w_h7, Or.inr ⟨w_h9, rfl⟩⟩⟩⟩⟩⟩
                            exact wn_vret rfl rfl ⟨rfl, (Fr.tr (Fr.rfl' [71, 77] h) (fw fr_h9) (fun _ q => q)), _, MT_l (show ¬ nI 1 = 0 by decide) o_h9 ((fr_h9.2 77 (by decide)).trans q6), trivial, eR⟩
                        · have c63 : ¬ 0 = 0 := c63
                          exact absurd c63 (by decide)
                      · have c62 : ¬ 0 = 0 := c62
                        exact absurd c62 (by decide)
                  · have c60 : ¬ 0 = 0 := c60
                    exact absurd c60 (by decide)
                · have c59 : ¬ 0 = 0 := c59
                  exact absurd c59 (by decide)
              · have c58 : ¬ 0 = 0 := c58
                exact absurd c58 (by decide)
            · have c57 : ¬ 0 = 0 := c57
              exact absurd c57 (by decide)
        · have fr_h7 := Fr.tr fr_h5 f_h7 (fun _ q => q)
          show Wn _ _ 48 _ [.int (nI (0))] h7 _
          refine wn_st (pc' := 50) (q := 4) (kin := 0) (lv' := [(0, .ref (71)), (1, .int (nI (tkV t n p))), (2, .int ((nI (vaW w (tkV t n p))) - (nI (1)))), (3, .int (nI (tkV t n (tkA t n p)))), (4, .int (nI (0)))]) rfl (fun _ _ _ => rfl) rfl (Nat.le_of_ble_eq_true rfl) rfl ?_
          refine wn_ld (pc' := 51) (q := 0) (kin := 2) (v := .ref (71)) rfl (fun _ _ _ => rfl) rfl rfl ?_
          refine wn_go (pc' := 53) (lv' := [(0, .ref (71)), (1, .int (nI (tkV t n p))), (2, .int ((nI (vaW w (tkV t n p))) - (nI (1)))), (3, .int (nI (tkV t n (tkA t n p)))), (4, .int (nI (0)))]) (st' := [.retAddr 10, .ref (71)]) rfl (fun _ _ _ k9 => ⟨by decide, k9⟩) ?_
          refine wn_virV (pc' := 56) rfl rfl (by decide) rfl rfl o_h7 (Nat.le_of_ble_eq_true rfl) (m_needsB _ _ _ _ _ _ _ _ _ _ _ _ _ _ nmF_nz o_h7 10 (by omega)) ?_
          refine wn_ld (pc' := 57) (q := 0) (kin := 2) (v := .ref (71)) rfl (fun _ _ _ => rfl) rfl rfl ?_
          refine wn_get (pc' := 60) (v := .ref (77)) rfl rfl o_h7 rfl ?_
          refine wn_ic (pc' := 61) (w := nI 5) rfl rfl (by decide) ?_
          refine wn_ialdv (pc' := 62) (j := 5) (v := (w (5))) rfl rfl ((fr_h7.2 77 (by decide)).trans q6) rfl (by omega) (by decide) (rfl) ?_
          refine wn_st (pc' := 64) (q := 5) (kin := 0) (lv' := [(0, .ref (71)), (1, .int (nI (tkV t n p))), (2, .int ((nI (vaW w (tkV t n p))) - (nI (1)))), (3, .int (nI (tkV t n (tkA t n p)))), (4, .int (nI (0))), (5, .int (w (5)))]) rfl (fun _ _ _ => rfl) rfl (Nat.le_of_ble_eq_true rfl) rfl ?_
          refine wn_ld (pc' := 65) (q := 0) (kin := 2) (v := .ref (71)) rfl (fun _ _ _ => rfl) rfl rfl ?_
          refine wn_virI (pc' := 68) rfl rfl (by decide) rfl rfl o_h7 (Nat.le_of_ble_eq_true rfl) (m_goodB _ _ _ _ _ _ _ _ _ _ _ _ _ _ nmF_nz o_h7) ?_
          refine wn_ifN (t := 77) (f := 71) rfl rfl rfl (by omega) (fun c65 => ?_) (fun c65 => ?_)
          · have c65 : 0 = 0 := c65
            refine wn_ld (pc' := 78) (q := 0) (kin := 2) (v := .ref (71)) rfl (fun _ _ _ => rfl) rfl rfl ?_
            refine wn_go (pc' := 80) (lv' := [(0, .ref (71)), (1, .int (nI (tkV t n p))), (2, .int ((nI (vaW w (tkV t n p))) - (nI (1)))), (3, .int (nI (tkV t n (tkA t n p)))), (4, .int (nI (0))), (5, .int (w (5)))]) (st' := [.retAddr 17, .ref (71)]) rfl (fun _ _ _ k9 => ⟨by decide, k9⟩) ?_
            refine wn_virI (pc' := 83) rfl rfl (by decide) rfl rfl o_h7 (Nat.le_of_ble_eq_true rfl) (m_isB _ _ _ _ _ _ _ _ _ _ _ _ _ _ nmF_nz o_h7 17 (by omega)) ?_
            refine wn_ifN (t := 90) (f := 86) rfl rfl rfl (by omega) (fun c66 => ?_) (fun c66 => ?_)
            · have c66 : 0 = 0 := c66
              refine wn_ld (pc' := 91) (q := 0) (kin := 2) (v := .ref (71)) rfl (fun _ _ _ => rfl) rfl rfl ?_
              refine wn_go (pc' := 93) (lv' := [(0, .ref (71)), (1, .int (nI (tkV t n p))), (2, .int ((nI (vaW w (tkV t n p))) - (nI (1)))), (3, .int (nI (tkV t n (tkA t n p)))), (4, .int (nI (0))), (5, .int (w (5)))]) (st' := [.retAddr 18, .ref (71)]) rfl (fun _ _ _ k9 => ⟨by decide, k9⟩) ?_
              refine wn_virI (pc' := 96) rfl rfl (by decide) rfl rfl o_h7 (Nat.le_of_ble_eq_true rfl) (m_isB _ _ _ _ _ _ _ _ _ _ _ _ _ _ nmF_nz o_h7 18 (by omega)) ?_
              refine wn_ifN (t := 103) (f := 99) rfl rfl rfl (by omega) (fun c67 => ?_) (fun c67 => ?_)
              · have c67 : 0 = 0 := c67
                refine wn_ld (pc' := 104) (q := 0) (kin := 2) (v := .ref (71)) rfl (fun _ _ _ => rfl) rfl rfl ?_
                refine wn_go (pc' := 106) (lv' := [(0, .ref (71)), (1, .int (nI (tkV t n p))), (2, .int ((nI (vaW w (tkV t n p))) - (nI (1)))), (3, .int (nI (tkV t n (tkA t n p)))), (4, .int (nI (0))), (5, .int (w (5)))]) (st' := [.retAddr 19, .ref (71)]) rfl (fun _ _ _ k9 => ⟨by decide, k9⟩) ?_
                refine wn_virI (pc' := 109) rfl rfl (by decide) rfl rfl o_h7 (Nat.le_of_ble_eq_true rfl) (m_isB _ _ _ _ _ _ _ _ _ _ _ _ _ _ nmF_nz o_h7 19 (by omega)) ?_
                refine wn_ifN (t := 116) (f := 112) rfl rfl rfl (by omega) (fun c68 => ?_) (fun c68 => ?_)
                · have c68 : 0 = 0 := c68
                  refine wn_ic (pc' := 117) (w := -1) rfl rfl (by decide) ?_
                  refine wn_st (pc' := 119) (q := 6) (kin := 0) (lv' := [(0, .ref (71)), (1, .int (nI (tkV t n p))), (2, .int ((nI (vaW w (tkV t n p))) - (nI (1)))), (3, .int (nI (tkV t n (tkA t n p)))), (4, .int (nI (0))), (5, .int (w (5))), (6, .int (-1))]) rfl (fun _ _ _ => rfl) rfl (Nat.le_of_ble_eq_true rfl) rfl ?_
                  refine wn_ld (pc' := 121) (q := 6) (kin := 0) (v := .int (-1)) rfl (fun _ _ _ => rfl) rfl rfl ?_
                  refine wn_ic (pc' := 122) (w := -1) rfl rfl (by decide) ?_
                  refine wn_icmp (t := 130) (f := 125) rfl rfl rfl (fun c69 => ?_) (fun c69 => ?_)
                  · have c69 : ¬ ((-1) : Int32) = ((-1)) := c69
                    exact absurd c69 (by decide)
                  · have c69 : ((-1) : Int32) = ((-1)) := c69
                    refine wn_ld (pc' := 126) (q := 0) (kin := 2) (v := .ref (71)) rfl (fun _ _ _ => rfl) rfl rfl ?_
                    refine wn_ic (pc' := 127) (w := nI 1) rfl rfl (by decide) ?_
                    refine wn_virV (pc' := 130) rfl rfl (by decide) rfl rfl o_h7 (Nat.le_of_ble_eq_true rfl) (m_errsB _ _ _ _ _ _ _ _ _ _ _ _ _ _ nmF_nz o_h7 (nI (1))) ?_
                    refine wn_ld (pc' := 131) (q := 0) (kin := 2) (v := .ref (71)) rfl (fun _ _ _ => rfl) rfl rfl ?_
                    refine wn_virI (pc' := 134) rfl rfl (by decide) rfl rfl o_h7 (Nat.le_of_ble_eq_true rfl) (m_goodB _ _ _ _ _ _ _ _ _ _ _ _ _ _ nmF_nz o_h7) ?_
                    refine wn_ifN (t := 141) (f := 137) rfl rfl rfl (by omega) (fun c70 => ?_) (fun c70 => ?_)
                    · have c70 : 0 = 0 := c70
                      refine wn_ld (pc' := 142) (q := 0) (kin := 2) (v := .ref (71)) rfl (fun _ _ _ => rfl) rfl rfl ?_
                      refine wn_virI (pc' := 145) rfl rfl (by decide) rfl rfl o_h7 (Nat.le_of_ble_eq_true rfl) (m_goodB _ _ _ _ _ _ _ _ _ _ _ _ _ _ nmF_nz o_h7) ?_
                      refine wn_ifN (t := 154) (f := 148) rfl rfl rfl (by omega) (fun c71 => ?_) (fun c71 => ?_)
                      · have c71 : 0 = 0 := c71
                        refine wn_ld (pc' := 155) (q := 0) (kin := 2) (v := .ref (71)) rfl (fun _ _ _ => rfl) rfl rfl ?_
                        refine wn_virI (pc' := 158) rfl rfl (by decide) rfl rfl o_h7 (Nat.le_of_ble_eq_true rfl) (m_goodB _ _ _ _ _ _ _ _ _ _ _ _ _ _ nmF_nz o_h7) ?_
                        refine wn_ifN (t := 162) (f := 161) rfl rfl rfl (by omega) (fun c72 => ?_) (fun c72 => ?_)
                        · have c72 : ¬ 0 = 0 := c72
                          exact absurd c72 (by decide)
                        · have c72 : 0 = 0 := c72
                          have eR : LawR t n f0 p w (stp t n (.inl (nmF t n (tkA t n (tkA t n (tkA t n p))), tkF t n (tkA t n (tkA t n (tkA t n p)))))) := Or.inl ⟨hl20, Or.inl ⟨w_h1, Or.inl ⟨w_h3, Or.inl ⟨w_h5, Or.inr ⟨w_h7, rfl⟩⟩⟩⟩⟩
                          exact wn_vret rfl rfl ⟨rfl, (Fr.tr (Fr.rfl' [71, 77] h) (fw fr_h7) (fun _ q => q)), _, MT_l nmF_nz o_h7 ((fr_h7.2 77 (by decide)).trans q6), trivial, eR⟩
                      · have c71 : ¬ 0 = 0 := c71
                        exact absurd c71 (by decide)
                    · have c70 : ¬ 0 = 0 := c70
                      exact absurd c70 (by decide)
                · have c68 : ¬ 0 = 0 := c68
                  exact absurd c68 (by decide)
              · have c67 : ¬ 0 = 0 := c67
                exact absurd c67 (by decide)
            · have c66 : ¬ 0 = 0 := c66
              exact absurd c66 (by decide)
          · have c65 : ¬ 0 = 0 := c65
            exact absurd c65 (by decide)
      · have fr_h5 := Fr.tr fr_h3 f_h5 (fun _ q => q)
        show Wn _ _ 42 _ [] h5 _
        refine wn_ld (pc' := 43) (q := 0) (kin := 2) (v := .ref (71)) rfl (fun _ _ _ => rfl) rfl rfl ?_
        refine wn_ic (pc' := 44) (w := nI 0) rfl rfl (by decide) ?_
        refine wn_ld (pc' := 45) (q := 2) (kin := 0) (v := .int ((nI (vaW w (tkV t n p))) - (nI (1)))) rfl (fun _ _ _ => rfl) rfl rfl ?_
        refine wn_virI (pc' := 48) rfl rfl (by decide) rfl rfl o_h5 (Nat.le_of_ble_eq_true rfl) (m_numberB _ _ _ _ _ _ _ _ _ _ _ _ _ _ (show ¬ nI 1 = 0 by decide) o_h5 (nI (0)) ((nI (vaW w (tkV t n p))) - (nI (1)))) ?_
        refine wn_st (pc' := 50) (q := 4) (kin := 0) (lv' := [(0, .ref (71)), (1, .int (nI (tkV t n p))), (2, .int ((nI (vaW w (tkV t n p))) - (nI (1)))), (3, .int (nI (tkV t n (tkA t n p)))), (4, .int (nI (0)))]) rfl (fun _ _ _ => rfl) rfl (Nat.le_of_ble_eq_true rfl) rfl ?_
        refine wn_ld (pc' := 51) (q := 0) (kin := 2) (v := .ref (71)) rfl (fun _ _ _ => rfl) rfl rfl ?_
        refine wn_go (pc' := 53) (lv' := [(0, .ref (71)), (1, .int (nI (tkV t n p))), (2, .int ((nI (vaW w (tkV t n p))) - (nI (1)))), (3, .int (nI (tkV t n (tkA t n p)))), (4, .int (nI (0)))]) (st' := [.retAddr 10, .ref (71)]) rfl (fun _ _ _ k9 => ⟨by decide, k9⟩) ?_
        refine wn_virV (pc' := 56) rfl rfl (by decide) rfl rfl o_h5 (Nat.le_of_ble_eq_true rfl) (m_needsB _ _ _ _ _ _ _ _ _ _ _ _ _ _ (show ¬ nI 1 = 0 by decide) o_h5 10 (by omega)) ?_
        refine wn_ld (pc' := 57) (q := 0) (kin := 2) (v := .ref (71)) rfl (fun _ _ _ => rfl) rfl rfl ?_
        refine wn_get (pc' := 60) (v := .ref (77)) rfl rfl o_h5 rfl ?_
        refine wn_ic (pc' := 61) (w := nI 5) rfl rfl (by decide) ?_
        refine wn_ialdv (pc' := 62) (j := 5) (v := (w (5))) rfl rfl ((fr_h5.2 77 (by decide)).trans q6) rfl (by omega) (by decide) (rfl) ?_
        refine wn_st (pc' := 64) (q := 5) (kin := 0) (lv' := [(0, .ref (71)), (1, .int (nI (tkV t n p))), (2, .int ((nI (vaW w (tkV t n p))) - (nI (1)))), (3, .int (nI (tkV t n (tkA t n p)))), (4, .int (nI (0))), (5, .int (w (5)))]) rfl (fun _ _ _ => rfl) rfl (Nat.le_of_ble_eq_true rfl) rfl ?_
        refine wn_ld (pc' := 65) (q := 0) (kin := 2) (v := .ref (71)) rfl (fun _ _ _ => rfl) rfl rfl ?_
        refine wn_virI (pc' := 68) rfl rfl (by decide) rfl rfl o_h5 (Nat.le_of_ble_eq_true rfl) (m_goodB _ _ _ _ _ _ _ _ _ _ _ _ _ _ (show ¬ nI 1 = 0 by decide) o_h5) ?_
        refine wn_ifN (t := 77) (f := 71) rfl rfl rfl (by omega) (fun c73 => ?_) (fun c73 => ?_)
        · have c73 : 0 = 0 := c73
          refine wn_ld (pc' := 78) (q := 0) (kin := 2) (v := .ref (71)) rfl (fun _ _ _ => rfl) rfl rfl ?_
          refine wn_go (pc' := 80) (lv' := [(0, .ref (71)), (1, .int (nI (tkV t n p))), (2, .int ((nI (vaW w (tkV t n p))) - (nI (1)))), (3, .int (nI (tkV t n (tkA t n p)))), (4, .int (nI (0))), (5, .int (w (5)))]) (st' := [.retAddr 17, .ref (71)]) rfl (fun _ _ _ k9 => ⟨by decide, k9⟩) ?_
          refine wn_virI (pc' := 83) rfl rfl (by decide) rfl rfl o_h5 (Nat.le_of_ble_eq_true rfl) (m_isB _ _ _ _ _ _ _ _ _ _ _ _ _ _ (show ¬ nI 1 = 0 by decide) o_h5 17 (by omega)) ?_
          refine wn_ifN (t := 90) (f := 86) rfl rfl rfl (by omega) (fun c74 => ?_) (fun c74 => ?_)
          · have c74 : 0 = 0 := c74
            refine wn_ld (pc' := 91) (q := 0) (kin := 2) (v := .ref (71)) rfl (fun _ _ _ => rfl) rfl rfl ?_
            refine wn_go (pc' := 93) (lv' := [(0, .ref (71)), (1, .int (nI (tkV t n p))), (2, .int ((nI (vaW w (tkV t n p))) - (nI (1)))), (3, .int (nI (tkV t n (tkA t n p)))), (4, .int (nI (0))), (5, .int (w (5)))]) (st' := [.retAddr 18, .ref (71)]) rfl (fun _ _ _ k9 => ⟨by decide, k9⟩) ?_
            refine wn_virI (pc' := 96) rfl rfl (by decide) rfl rfl o_h5 (Nat.le_of_ble_eq_true rfl) (m_isB _ _ _ _ _ _ _ _ _ _ _ _ _ _ (show ¬ nI 1 = 0 by decide) o_h5 18 (by omega)) ?_
            refine wn_ifN (t := 103) (f := 99) rfl rfl rfl (by omega) (fun c75 => ?_) (fun c75 => ?_)
            · have c75 : 0 = 0 := c75
              refine wn_ld (pc' := 104) (q := 0) (kin := 2) (v := .ref (71)) rfl (fun _ _ _ => rfl) rfl rfl ?_
              refine wn_go (pc' := 106) (lv' := [(0, .ref (71)), (1, .int (nI (tkV t n p))), (2, .int ((nI (vaW w (tkV t n p))) - (nI (1)))), (3, .int (nI (tkV t n (tkA t n p)))), (4, .int (nI (0))), (5, .int (w (5)))]) (st' := [.retAddr 19, .ref (71)]) rfl (fun _ _ _ k9 => ⟨by decide, k9⟩) ?_
              refine wn_virI (pc' := 109) rfl rfl (by decide) rfl rfl o_h5 (Nat.le_of_ble_eq_true rfl) (m_isB _ _ _ _ _ _ _ _ _ _ _ _ _ _ (show ¬ nI 1 = 0 by decide) o_h5 19 (by omega)) ?_
              refine wn_ifN (t := 116) (f := 112) rfl rfl rfl (by omega) (fun c76 => ?_) (fun c76 => ?_)
              · have c76 : 0 = 0 := c76
                refine wn_ic (pc' := 117) (w := -1) rfl rfl (by decide) ?_
                refine wn_st (pc' := 119) (q := 6) (kin := 0) (lv' := [(0, .ref (71)), (1, .int (nI (tkV t n p))), (2, .int ((nI (vaW w (tkV t n p))) - (nI (1)))), (3, .int (nI (tkV t n (tkA t n p)))), (4, .int (nI (0))), (5, .int (w (5))), (6, .int (-1))]) rfl (fun _ _ _ => rfl) rfl (Nat.le_of_ble_eq_true rfl) rfl ?_
                refine wn_ld (pc' := 121) (q := 6) (kin := 0) (v := .int (-1)) rfl (fun _ _ _ => rfl) rfl rfl ?_
                refine wn_ic (pc' := 122) (w := -1) rfl rfl (by decide) ?_
                refine wn_icmp (t := 130) (f := 125) rfl rfl rfl (fun c77 => ?_) (fun c77 => ?_)
                · have c77 : ¬ ((-1) : Int32) = ((-1)) := c77
                  exact absurd c77 (by decide)
                · have c77 : ((-1) : Int32) = ((-1)) := c77
                  refine wn_ld (pc' := 126) (q := 0) (kin := 2) (v := .ref (71)) rfl (fun _ _ _ => rfl) rfl rfl ?_
                  refine wn_ic (pc' := 127) (w := nI 1) rfl rfl (by decide) ?_
                  refine wn_virV (pc' := 130) rfl rfl (by decide) rfl rfl o_h5 (Nat.le_of_ble_eq_true rfl) (m_errsB _ _ _ _ _ _ _ _ _ _ _ _ _ _ (show ¬ nI 1 = 0 by decide) o_h5 (nI (1))) ?_
                  refine wn_ld (pc' := 131) (q := 0) (kin := 2) (v := .ref (71)) rfl (fun _ _ _ => rfl) rfl rfl ?_
                  refine wn_virI (pc' := 134) rfl rfl (by decide) rfl rfl o_h5 (Nat.le_of_ble_eq_true rfl) (m_goodB _ _ _ _ _ _ _ _ _ _ _ _ _ _ (show ¬ nI 1 = 0 by decide) o_h5) ?_
                  refine wn_ifN (t := 141) (f := 137) rfl rfl rfl (by omega) (fun c78 => ?_) (fun c78 => ?_)
                  · have c78 : 0 = 0 := c78
                    refine wn_ld (pc' := 142) (q := 0) (kin := 2) (v := .ref (71)) rfl (fun _ _ _ => rfl) rfl rfl ?_
                    refine wn_virI (pc' := 145) rfl rfl (by decide) rfl rfl o_h5 (Nat.le_of_ble_eq_true rfl) (m_goodB _ _ _ _ _ _ _ _ _ _ _ _ _ _ (show ¬ nI 1 = 0 by decide) o_h5) ?_
                    refine wn_ifN (t := 154) (f := 148) rfl rfl rfl (by omega) (fun c79 => ?_) (fun c79 => ?_)
                    · have c79 : 0 = 0 := c79
                      refine wn_ld (pc' := 155) (q := 0) (kin := 2) (v := .ref (71)) rfl (fun _ _ _ => rfl) rfl rfl ?_
                      refine wn_virI (pc' := 158) rfl rfl (by decide) rfl rfl o_h5 (Nat.le_of_ble_eq_true rfl) (m_goodB _ _ _ _ _ _ _ _ _ _ _ _ _ _ (show ¬ nI 1 = 0 by decide) o_h5) ?_
                      refine wn_ifN (t := 162) (f := 161) rfl rfl rfl (by omega) (fun c80 => ?_) (fun c80 => ?_)
                      · have c80 : ¬ 0 = 0 := c80
                        exact absurd c80 (by decide)
                      · have c80 : 0 = 0 := c80
                        have eR : LawR t n f0 p w (stp t n (.inl (1, tkF t n (tkA t n (tkA t n p))))) := Or.inl ⟨hl20, Or.inl ⟨w_h1, Or.inl ⟨w_h3, Or.inr ⟨w_h5, rfl⟩⟩⟩⟩
                        exact wn_vret rfl rfl ⟨rfl, (Fr.tr (Fr.rfl' [71, 77] h) (fw fr_h5) (fun _ q => q)), _, MT_l (show ¬ nI 1 = 0 by decide) o_h5 ((fr_h5.2 77 (by decide)).trans q6), trivial, eR⟩
                    · have c79 : ¬ 0 = 0 := c79
                      exact absurd c79 (by decide)
                  · have c78 : ¬ 0 = 0 := c78
                    exact absurd c78 (by decide)
              · have c76 : ¬ 0 = 0 := c76
                exact absurd c76 (by decide)
            · have c75 : ¬ 0 = 0 := c75
              exact absurd c75 (by decide)
          · have c74 : ¬ 0 = 0 := c74
            exact absurd c74 (by decide)
        · have c73 : ¬ 0 = 0 := c73
          exact absurd c73 (by decide)
    · have fr_h3 := Fr.tr fr_h1 f_h3 (fun _ q => q)
      show Wn _ _ 35 _ [.int (nI (0))] h3 _
      refine wn_st (pc' := 36) (q := 3) (kin := 0) (lv' := [(0, .ref (71)), (1, .int (nI (tkV t n p))), (2, .int ((nI (vaW w (tkV t n p))) - (nI (1)))), (3, .int (nI (0)))]) rfl (fun _ _ _ => rfl) rfl (Nat.le_of_ble_eq_true rfl) rfl ?_
      refine wn_ld (pc' := 37) (q := 0) (kin := 2) (v := .ref (71)) rfl (fun _ _ _ => rfl) rfl rfl ?_
      refine wn_go (pc' := 39) (lv' := [(0, .ref (71)), (1, .int (nI (tkV t n p))), (2, .int ((nI (vaW w (tkV t n p))) - (nI (1)))), (3, .int (nI (0)))]) (st' := [.retAddr 9, .ref (71)]) rfl (fun _ _ _ k9 => ⟨by decide, k9⟩) ?_
      refine wn_virV (pc' := 42) rfl rfl (by decide) rfl rfl o_h3 (Nat.le_of_ble_eq_true rfl) (m_needsB _ _ _ _ _ _ _ _ _ _ _ _ _ _ nmF_nz o_h3 9 (by omega)) ?_
      refine wn_ld (pc' := 43) (q := 0) (kin := 2) (v := .ref (71)) rfl (fun _ _ _ => rfl) rfl rfl ?_
      refine wn_ic (pc' := 44) (w := nI 0) rfl rfl (by decide) ?_
      refine wn_ld (pc' := 45) (q := 2) (kin := 0) (v := .int ((nI (vaW w (tkV t n p))) - (nI (1)))) rfl (fun _ _ _ => rfl) rfl rfl ?_
      refine wn_virI (pc' := 48) rfl rfl (by decide) rfl rfl o_h3 (Nat.le_of_ble_eq_true rfl) (m_numberB _ _ _ _ _ _ _ _ _ _ _ _ _ _ nmF_nz o_h3 (nI (0)) ((nI (vaW w (tkV t n p))) - (nI (1)))) ?_
      refine wn_st (pc' := 50) (q := 4) (kin := 0) (lv' := [(0, .ref (71)), (1, .int (nI (tkV t n p))), (2, .int ((nI (vaW w (tkV t n p))) - (nI (1)))), (3, .int (nI (0))), (4, .int (nI (0)))]) rfl (fun _ _ _ => rfl) rfl (Nat.le_of_ble_eq_true rfl) rfl ?_
      refine wn_ld (pc' := 51) (q := 0) (kin := 2) (v := .ref (71)) rfl (fun _ _ _ => rfl) rfl rfl ?_
      refine wn_go (pc' := 53) (lv' := [(0, .ref (71)), (1, .int (nI (tkV t n p))), (2, .int ((nI (vaW w (tkV t n p))) - (nI (1)))), (3, .int (nI (0))), (4, .int (nI (0)))]) (st' := [.retAddr 10, .ref (71)]) rfl (fun _ _ _ k9 => ⟨by decide, k9⟩) ?_
      refine wn_virV (pc' := 56) rfl rfl (by decide) rfl rfl o_h3 (Nat.le_of_ble_eq_true rfl) (m_needsB _ _ _ _ _ _ _ _ _ _ _ _ _ _ nmF_nz o_h3 10 (by omega)) ?_
      refine wn_ld (pc' := 57) (q := 0) (kin := 2) (v := .ref (71)) rfl (fun _ _ _ => rfl) rfl rfl ?_
      refine wn_get (pc' := 60) (v := .ref (77)) rfl rfl o_h3 rfl ?_
      refine wn_ic (pc' := 61) (w := nI 5) rfl rfl (by decide) ?_
      refine wn_ialdv (pc' := 62) (j := 5) (v := (w (5))) rfl rfl ((fr_h3.2 77 (by decide)).trans q6) rfl (by omega) (by decide) (rfl) ?_
      refine wn_st (pc' := 64) (q := 5) (kin := 0) (lv' := [(0, .ref (71)), (1, .int (nI (tkV t n p))), (2, .int ((nI (vaW w (tkV t n p))) - (nI (1)))), (3, .int (nI (0))), (4, .int (nI (0))), (5, .int (w (5)))]) rfl (fun _ _ _ => rfl) rfl (Nat.le_of_ble_eq_true rfl) rfl ?_
      refine wn_ld (pc' := 65) (q := 0) (kin := 2) (v := .ref (71)) rfl (fun _ _ _ => rfl) rfl rfl ?_
      refine wn_virI (pc' := 68) rfl rfl (by decide) rfl rfl o_h3 (Nat.le_of_ble_eq_true rfl) (m_goodB _ _ _ _ _ _ _ _ _ _ _ _ _ _ nmF_nz o_h3) ?_
      refine wn_ifN (t := 77) (f := 71) rfl rfl rfl (by omega) (fun c81 => ?_) (fun c81 => ?_)
      · have c81 : 0 = 0 := c81
        refine wn_ld (pc' := 78) (q := 0) (kin := 2) (v := .ref (71)) rfl (fun _ _ _ => rfl) rfl rfl ?_
        refine wn_go (pc' := 80) (lv' := [(0, .ref (71)), (1, .int (nI (tkV t n p))), (2, .int ((nI (vaW w (tkV t n p))) - (nI (1)))), (3, .int (nI (0))), (4, .int (nI (0))), (5, .int (w (5)))]) (st' := [.retAddr 17, .ref (71)]) rfl (fun _ _ _ k9 => ⟨by decide, k9⟩) ?_
        refine wn_virI (pc' := 83) rfl rfl (by decide) rfl rfl o_h3 (Nat.le_of_ble_eq_true rfl) (m_isB _ _ _ _ _ _ _ _ _ _ _ _ _ _ nmF_nz o_h3 17 (by omega)) ?_
        refine wn_ifN (t := 90) (f := 86) rfl rfl rfl (by omega) (fun c82 => ?_) (fun c82 => ?_)
        · have c82 : 0 = 0 := c82
          refine wn_ld (pc' := 91) (q := 0) (kin := 2) (v := .ref (71)) rfl (fun _ _ _ => rfl) rfl rfl ?_
          refine wn_go (pc' := 93) (lv' := [(0, .ref (71)), (1, .int (nI (tkV t n p))), (2, .int ((nI (vaW w (tkV t n p))) - (nI (1)))), (3, .int (nI (0))), (4, .int (nI (0))), (5, .int (w (5)))]) (st' := [.retAddr 18, .ref (71)]) rfl (fun _ _ _ k9 => ⟨by decide, k9⟩) ?_
          refine wn_virI (pc' := 96) rfl rfl (by decide) rfl rfl o_h3 (Nat.le_of_ble_eq_true rfl) (m_isB _ _ _ _ _ _ _ _ _ _ _ _ _ _ nmF_nz o_h3 18 (by omega)) ?_
          refine wn_ifN (t := 103) (f := 99) rfl rfl rfl (by omega) (fun c83 => ?_) (fun c83 => ?_)
          · have c83 : 0 = 0 := c83
            refine wn_ld (pc' := 104) (q := 0) (kin := 2) (v := .ref (71)) rfl (fun _ _ _ => rfl) rfl rfl ?_
            refine wn_go (pc' := 106) (lv' := [(0, .ref (71)), (1, .int (nI (tkV t n p))), (2, .int ((nI (vaW w (tkV t n p))) - (nI (1)))), (3, .int (nI (0))), (4, .int (nI (0))), (5, .int (w (5)))]) (st' := [.retAddr 19, .ref (71)]) rfl (fun _ _ _ k9 => ⟨by decide, k9⟩) ?_
            refine wn_virI (pc' := 109) rfl rfl (by decide) rfl rfl o_h3 (Nat.le_of_ble_eq_true rfl) (m_isB _ _ _ _ _ _ _ _ _ _ _ _ _ _ nmF_nz o_h3 19 (by omega)) ?_
            refine wn_ifN (t := 116) (f := 112) rfl rfl rfl (by omega) (fun c84 => ?_) (fun c84 => ?_)
            · have c84 : 0 = 0 := c84
              refine wn_ic (pc' := 117) (w := -1) rfl rfl (by decide) ?_
              refine wn_st (pc' := 119) (q := 6) (kin := 0) (lv' := [(0, .ref (71)), (1, .int (nI (tkV t n p))), (2, .int ((nI (vaW w (tkV t n p))) - (nI (1)))), (3, .int (nI (0))), (4, .int (nI (0))), (5, .int (w (5))), (6, .int (-1))]) rfl (fun _ _ _ => rfl) rfl (Nat.le_of_ble_eq_true rfl) rfl ?_
              refine wn_ld (pc' := 121) (q := 6) (kin := 0) (v := .int (-1)) rfl (fun _ _ _ => rfl) rfl rfl ?_
              refine wn_ic (pc' := 122) (w := -1) rfl rfl (by decide) ?_
              refine wn_icmp (t := 130) (f := 125) rfl rfl rfl (fun c85 => ?_) (fun c85 => ?_)
              · have c85 : ¬ ((-1) : Int32) = ((-1)) := c85
                exact absurd c85 (by decide)
              · have c85 : ((-1) : Int32) = ((-1)) := c85
                refine wn_ld (pc' := 126) (q := 0) (kin := 2) (v := .ref (71)) rfl (fun _ _ _ => rfl) rfl rfl ?_
                refine wn_ic (pc' := 127) (w := nI 1) rfl rfl (by decide) ?_
                refine wn_virV (pc' := 130) rfl rfl (by decide) rfl rfl o_h3 (Nat.le_of_ble_eq_true rfl) (m_errsB _ _ _ _ _ _ _ _ _ _ _ _ _ _ nmF_nz o_h3 (nI (1))) ?_
                refine wn_ld (pc' := 131) (q := 0) (kin := 2) (v := .ref (71)) rfl (fun _ _ _ => rfl) rfl rfl ?_
                refine wn_virI (pc' := 134) rfl rfl (by decide) rfl rfl o_h3 (Nat.le_of_ble_eq_true rfl) (m_goodB _ _ _ _ _ _ _ _ _ _ _ _ _ _ nmF_nz o_h3) ?_
                refine wn_ifN (t := 141) (f := 137) rfl rfl rfl (by omega) (fun c86 => ?_) (fun c86 => ?_)
                · have c86 : 0 = 0 := c86
                  refine wn_ld (pc' := 142) (q := 0) (kin := 2) (v := .ref (71)) rfl (fun _ _ _ => rfl) rfl rfl ?_
                  refine wn_virI (pc' := 145) rfl rfl (by decide) rfl rfl o_h3 (Nat.le_of_ble_eq_true rfl) (m_goodB _ _ _ _ _ _ _ _ _ _ _ _ _ _ nmF_nz o_h3) ?_
                  refine wn_ifN (t := 154) (f := 148) rfl rfl rfl (by omega) (fun c87 => ?_) (fun c87 => ?_)
                  · have c87 : 0 = 0 := c87
                    refine wn_ld (pc' := 155) (q := 0) (kin := 2) (v := .ref (71)) rfl (fun _ _ _ => rfl) rfl rfl ?_
                    refine wn_virI (pc' := 158) rfl rfl (by decide) rfl rfl o_h3 (Nat.le_of_ble_eq_true rfl) (m_goodB _ _ _ _ _ _ _ _ _ _ _ _ _ _ nmF_nz o_h3) ?_
                    refine wn_ifN (t := 162) (f := 161) rfl rfl rfl (by omega) (fun c88 => ?_) (fun c88 => ?_)
                    · have c88 : ¬ 0 = 0 := c88
                      exact absurd c88 (by decide)
                    · have c88 : 0 = 0 := c88
                      have eR : LawR t n f0 p w (stp t n (.inl (nmF t n (tkA t n p), tkF t n (tkA t n p)))) := Or.inl ⟨hl20, Or.inl ⟨w_h1, Or.inr ⟨w_h3, rfl⟩⟩⟩
                      exact wn_vret rfl rfl ⟨rfl, (Fr.tr (Fr.rfl' [71, 77] h) (fw fr_h3) (fun _ q => q)), _, MT_l nmF_nz o_h3 ((fr_h3.2 77 (by decide)).trans q6), trivial, eR⟩
                  · have c87 : ¬ 0 = 0 := c87
                    exact absurd c87 (by decide)
                · have c86 : ¬ 0 = 0 := c86
                  exact absurd c86 (by decide)
            · have c84 : ¬ 0 = 0 := c84
              exact absurd c84 (by decide)
          · have c83 : ¬ 0 = 0 := c83
            exact absurd c83 (by decide)
        · have c82 : ¬ 0 = 0 := c82
          exact absurd c82 (by decide)
      · have c81 : ¬ 0 = 0 := c81
        exact absurd c81 (by decide)
  · have fr_h1 := Fr.tr (Fr.rfl' [71] h) f_h1 (fun _ q => q)
    show Wn _ _ 13 _ [.int (nI (0))] h1 _
    refine wn_st (pc' := 14) (q := 1) (kin := 0) (lv' := [(0, .ref (71)), (1, .int (nI (0)))]) rfl (fun _ _ _ => rfl) rfl (Nat.le_of_ble_eq_true rfl) rfl ?_
    refine wn_ld (pc' := 15) (q := 0) (kin := 2) (v := .ref (71)) rfl (fun _ _ _ => rfl) rfl rfl ?_
    refine wn_get (pc' := 18) (v := .ref (77)) rfl rfl o_h1 rfl ?_
    refine wn_sp (pc' := 21) (w := nI 176) rfl rfl (by decide) ?_
    refine wn_ic (pc' := 22) (w := nI 4) rfl rfl (by decide) ?_
    refine wn_ld (pc' := 23) (q := 1) (kin := 0) (v := .int (nI (0))) rfl (fun _ _ _ => rfl) rfl rfl ?_
    refine wn_mulN (pc' := 24) rfl rfl ?_
    refine wn_addN (pc' := 25) rfl rfl ?_
    refine wn_ialdv (pc' := 26) (j := 176 + (4 * 0)) (v := (w (176 + (4 * 0)))) rfl rfl ((fr_h1.2 77 (by decide)).trans q6) rfl (by omega) (by decide) (rfl) ?_
    refine wn_ic (pc' := 27) (w := nI 1) rfl rfl (by decide) ?_
    refine wn_pu (pc' := 28) (st' := [.int ((w (176 + (4 * 0))) - (nI (1)))]) rfl (fun _ _ _ => rfl) rfl rfl ?_
    refine wn_st (pc' := 29) (q := 2) (kin := 0) (lv' := [(0, .ref (71)), (1, .int (nI (0))), (2, .int ((w (176 + (4 * 0))) - (nI (1))))]) rfl (fun _ _ _ => rfl) rfl (Nat.le_of_ble_eq_true rfl) rfl ?_
    refine wn_ld (pc' := 30) (q := 0) (kin := 2) (v := .ref (71)) rfl (fun _ _ _ => rfl) rfl rfl ?_
    refine wn_ic (pc' := 31) (w := nI 0) rfl rfl (by decide) ?_
    refine wn_ld (pc' := 32) (q := 2) (kin := 0) (v := .int ((w (176 + (4 * 0))) - (nI (1)))) rfl (fun _ _ _ => rfl) rfl rfl ?_
    refine wn_virI (pc' := 35) rfl rfl (by decide) rfl rfl o_h1 (Nat.le_of_ble_eq_true rfl) (m_numberB _ _ _ _ _ _ _ _ _ _ _ _ _ _ nmF_nz o_h1 (nI (0)) ((w (176 + (4 * 0))) - (nI (1)))) ?_
    refine wn_st (pc' := 36) (q := 3) (kin := 0) (lv' := [(0, .ref (71)), (1, .int (nI (0))), (2, .int ((w (176 + (4 * 0))) - (nI (1)))), (3, .int (nI (0)))]) rfl (fun _ _ _ => rfl) rfl (Nat.le_of_ble_eq_true rfl) rfl ?_
    refine wn_ld (pc' := 37) (q := 0) (kin := 2) (v := .ref (71)) rfl (fun _ _ _ => rfl) rfl rfl ?_
    refine wn_go (pc' := 39) (lv' := [(0, .ref (71)), (1, .int (nI (0))), (2, .int ((w (176 + (4 * 0))) - (nI (1)))), (3, .int (nI (0)))]) (st' := [.retAddr 9, .ref (71)]) rfl (fun _ _ _ k9 => ⟨by decide, k9⟩) ?_
    refine wn_virV (pc' := 42) rfl rfl (by decide) rfl rfl o_h1 (Nat.le_of_ble_eq_true rfl) (m_needsB _ _ _ _ _ _ _ _ _ _ _ _ _ _ nmF_nz o_h1 9 (by omega)) ?_
    refine wn_ld (pc' := 43) (q := 0) (kin := 2) (v := .ref (71)) rfl (fun _ _ _ => rfl) rfl rfl ?_
    refine wn_ic (pc' := 44) (w := nI 0) rfl rfl (by decide) ?_
    refine wn_ld (pc' := 45) (q := 2) (kin := 0) (v := .int ((w (176 + (4 * 0))) - (nI (1)))) rfl (fun _ _ _ => rfl) rfl rfl ?_
    refine wn_virI (pc' := 48) rfl rfl (by decide) rfl rfl o_h1 (Nat.le_of_ble_eq_true rfl) (m_numberB _ _ _ _ _ _ _ _ _ _ _ _ _ _ nmF_nz o_h1 (nI (0)) ((w (176 + (4 * 0))) - (nI (1)))) ?_
    refine wn_st (pc' := 50) (q := 4) (kin := 0) (lv' := [(0, .ref (71)), (1, .int (nI (0))), (2, .int ((w (176 + (4 * 0))) - (nI (1)))), (3, .int (nI (0))), (4, .int (nI (0)))]) rfl (fun _ _ _ => rfl) rfl (Nat.le_of_ble_eq_true rfl) rfl ?_
    refine wn_ld (pc' := 51) (q := 0) (kin := 2) (v := .ref (71)) rfl (fun _ _ _ => rfl) rfl rfl ?_
    refine wn_go (pc' := 53) (lv' := [(0, .ref (71)), (1, .int (nI (0))), (2, .int ((w (176 + (4 * 0))) - (nI (1)))), (3, .int (nI (0))), (4, .int (nI (0)))]) (st' := [.retAddr 10, .ref (71)]) rfl (fun _ _ _ k9 => ⟨by decide, k9⟩) ?_
    refine wn_virV (pc' := 56) rfl rfl (by decide) rfl rfl o_h1 (Nat.le_of_ble_eq_true rfl) (m_needsB _ _ _ _ _ _ _ _ _ _ _ _ _ _ nmF_nz o_h1 10 (by omega)) ?_
    refine wn_ld (pc' := 57) (q := 0) (kin := 2) (v := .ref (71)) rfl (fun _ _ _ => rfl) rfl rfl ?_
    refine wn_get (pc' := 60) (v := .ref (77)) rfl rfl o_h1 rfl ?_
    refine wn_ic (pc' := 61) (w := nI 5) rfl rfl (by decide) ?_
    refine wn_ialdv (pc' := 62) (j := 5) (v := (w (5))) rfl rfl ((fr_h1.2 77 (by decide)).trans q6) rfl (by omega) (by decide) (rfl) ?_
    refine wn_st (pc' := 64) (q := 5) (kin := 0) (lv' := [(0, .ref (71)), (1, .int (nI (0))), (2, .int ((w (176 + (4 * 0))) - (nI (1)))), (3, .int (nI (0))), (4, .int (nI (0))), (5, .int (w (5)))]) rfl (fun _ _ _ => rfl) rfl (Nat.le_of_ble_eq_true rfl) rfl ?_
    refine wn_ld (pc' := 65) (q := 0) (kin := 2) (v := .ref (71)) rfl (fun _ _ _ => rfl) rfl rfl ?_
    refine wn_virI (pc' := 68) rfl rfl (by decide) rfl rfl o_h1 (Nat.le_of_ble_eq_true rfl) (m_goodB _ _ _ _ _ _ _ _ _ _ _ _ _ _ nmF_nz o_h1) ?_
    refine wn_ifN (t := 77) (f := 71) rfl rfl rfl (by omega) (fun c89 => ?_) (fun c89 => ?_)
    · have c89 : 0 = 0 := c89
      refine wn_ld (pc' := 78) (q := 0) (kin := 2) (v := .ref (71)) rfl (fun _ _ _ => rfl) rfl rfl ?_
      refine wn_go (pc' := 80) (lv' := [(0, .ref (71)), (1, .int (nI (0))), (2, .int ((w (176 + (4 * 0))) - (nI (1)))), (3, .int (nI (0))), (4, .int (nI (0))), (5, .int (w (5)))]) (st' := [.retAddr 17, .ref (71)]) rfl (fun _ _ _ k9 => ⟨by decide, k9⟩) ?_
      refine wn_virI (pc' := 83) rfl rfl (by decide) rfl rfl o_h1 (Nat.le_of_ble_eq_true rfl) (m_isB _ _ _ _ _ _ _ _ _ _ _ _ _ _ nmF_nz o_h1 17 (by omega)) ?_
      refine wn_ifN (t := 90) (f := 86) rfl rfl rfl (by omega) (fun c90 => ?_) (fun c90 => ?_)
      · have c90 : 0 = 0 := c90
        refine wn_ld (pc' := 91) (q := 0) (kin := 2) (v := .ref (71)) rfl (fun _ _ _ => rfl) rfl rfl ?_
        refine wn_go (pc' := 93) (lv' := [(0, .ref (71)), (1, .int (nI (0))), (2, .int ((w (176 + (4 * 0))) - (nI (1)))), (3, .int (nI (0))), (4, .int (nI (0))), (5, .int (w (5)))]) (st' := [.retAddr 18, .ref (71)]) rfl (fun _ _ _ k9 => ⟨by decide, k9⟩) ?_
        refine wn_virI (pc' := 96) rfl rfl (by decide) rfl rfl o_h1 (Nat.le_of_ble_eq_true rfl) (m_isB _ _ _ _ _ _ _ _ _ _ _ _ _ _ nmF_nz o_h1 18 (by omega)) ?_
        refine wn_ifN (t := 103) (f := 99) rfl rfl rfl (by omega) (fun c91 => ?_) (fun c91 => ?_)
        · have c91 : 0 = 0 := c91
          refine wn_ld (pc' := 104) (q := 0) (kin := 2) (v := .ref (71)) rfl (fun _ _ _ => rfl) rfl rfl ?_
          refine wn_go (pc' := 106) (lv' := [(0, .ref (71)), (1, .int (nI (0))), (2, .int ((w (176 + (4 * 0))) - (nI (1)))), (3, .int (nI (0))), (4, .int (nI (0))), (5, .int (w (5)))]) (st' := [.retAddr 19, .ref (71)]) rfl (fun _ _ _ k9 => ⟨by decide, k9⟩) ?_
          refine wn_virI (pc' := 109) rfl rfl (by decide) rfl rfl o_h1 (Nat.le_of_ble_eq_true rfl) (m_isB _ _ _ _ _ _ _ _ _ _ _ _ _ _ nmF_nz o_h1 19 (by omega)) ?_
          refine wn_ifN (t := 116) (f := 112) rfl rfl rfl (by omega) (fun c92 => ?_) (fun c92 => ?_)
          · have c92 : 0 = 0 := c92
            refine wn_ic (pc' := 117) (w := -1) rfl rfl (by decide) ?_
            refine wn_st (pc' := 119) (q := 6) (kin := 0) (lv' := [(0, .ref (71)), (1, .int (nI (0))), (2, .int ((w (176 + (4 * 0))) - (nI (1)))), (3, .int (nI (0))), (4, .int (nI (0))), (5, .int (w (5))), (6, .int (-1))]) rfl (fun _ _ _ => rfl) rfl (Nat.le_of_ble_eq_true rfl) rfl ?_
            refine wn_ld (pc' := 121) (q := 6) (kin := 0) (v := .int (-1)) rfl (fun _ _ _ => rfl) rfl rfl ?_
            refine wn_ic (pc' := 122) (w := -1) rfl rfl (by decide) ?_
            refine wn_icmp (t := 130) (f := 125) rfl rfl rfl (fun c93 => ?_) (fun c93 => ?_)
            · have c93 : ¬ ((-1) : Int32) = ((-1)) := c93
              exact absurd c93 (by decide)
            · have c93 : ((-1) : Int32) = ((-1)) := c93
              refine wn_ld (pc' := 126) (q := 0) (kin := 2) (v := .ref (71)) rfl (fun _ _ _ => rfl) rfl rfl ?_
              refine wn_ic (pc' := 127) (w := nI 1) rfl rfl (by decide) ?_
              refine wn_virV (pc' := 130) rfl rfl (by decide) rfl rfl o_h1 (Nat.le_of_ble_eq_true rfl) (m_errsB _ _ _ _ _ _ _ _ _ _ _ _ _ _ nmF_nz o_h1 (nI (1))) ?_
              refine wn_ld (pc' := 131) (q := 0) (kin := 2) (v := .ref (71)) rfl (fun _ _ _ => rfl) rfl rfl ?_
              refine wn_virI (pc' := 134) rfl rfl (by decide) rfl rfl o_h1 (Nat.le_of_ble_eq_true rfl) (m_goodB _ _ _ _ _ _ _ _ _ _ _ _ _ _ nmF_nz o_h1) ?_
              refine wn_ifN (t := 141) (f := 137) rfl rfl rfl (by omega) (fun c94 => ?_) (fun c94 => ?_)
              · have c94 : 0 = 0 := c94
                refine wn_ld (pc' := 142) (q := 0) (kin := 2) (v := .ref (71)) rfl (fun _ _ _ => rfl) rfl rfl ?_
                refine wn_virI (pc' := 145) rfl rfl (by decide) rfl rfl o_h1 (Nat.le_of_ble_eq_true rfl) (m_goodB _ _ _ _ _ _ _ _ _ _ _ _ _ _ nmF_nz o_h1) ?_
                refine wn_ifN (t := 154) (f := 148) rfl rfl rfl (by omega) (fun c95 => ?_) (fun c95 => ?_)
                · have c95 : 0 = 0 := c95
                  refine wn_ld (pc' := 155) (q := 0) (kin := 2) (v := .ref (71)) rfl (fun _ _ _ => rfl) rfl rfl ?_
                  refine wn_virI (pc' := 158) rfl rfl (by decide) rfl rfl o_h1 (Nat.le_of_ble_eq_true rfl) (m_goodB _ _ _ _ _ _ _ _ _ _ _ _ _ _ nmF_nz o_h1) ?_
                  refine wn_ifN (t := 162) (f := 161) rfl rfl rfl (by omega) (fun c96 => ?_) (fun c96 => ?_)
                  · have c96 : ¬ 0 = 0 := c96
                    exact absurd c96 (by decide)
                  · have c96 : 0 = 0 := c96
                    have eR : LawR t n f0 p w (stp t n (.inl (nmF t n p, tkF t n p))) := Or.inl ⟨hl20, Or.inr ⟨w_h1, rfl⟩⟩
                    exact wn_vret rfl rfl ⟨rfl, (Fr.tr (Fr.rfl' [71, 77] h) (fw fr_h1) (fun _ q => q)), _, MT_l nmF_nz o_h1 ((fr_h1.2 77 (by decide)).trans q6), trivial, eR⟩
                · have c95 : ¬ 0 = 0 := c95
                  exact absurd c95 (by decide)
              · have c94 : ¬ 0 = 0 := c94
                exact absurd c94 (by decide)
          · have c92 : ¬ 0 = 0 := c92
            exact absurd c92 (by decide)
        · have c91 : ¬ 0 = 0 := c91
          exact absurd c91 (by decide)
      · have c90 : ¬ 0 = 0 := c90
        exact absurd c90 (by decide)
    · have c89 : ¬ 0 = 0 := c89
      exact absurd c89 (by decide)

theorem m_readLine (d : Nat) (h : aH) (t : Nat → Int32) (n p : Nat) (w : Nat → Int32) (hn : n ≤ 1200) (hp : p ≤ n) (hb : byT t) (hJ : WJ w) (th tl vl il : Int32) (up lo : Int64) (hv : vlP t n p vl) (q0 : isO h 71 9 (moS t n p th tl vl (nI 0) (-1) il up lo)) (q4 : isB h 75 1200 t) (q6 : isI h 77 2676 w) (h5 : 5 * npW w ≤ p) : Sp (Rn (d + 7)) 172 [.ref (71)] h (fun r9 h9 => r9 = none ∧ Fr [71, 77] h h9 ∧ ∃ r, LineR t n p w r ∧ MTs t n th tl il up lo h9 r) := by
  obtain ⟨e0, e0b⟩ := wj_0 hJ
  obtain ⟨⟨e1, e2⟩, ⟨e3, e4⟩, ⟨e5, e6⟩⟩ := Wf_n hJ.wf
  obtain ⟨⟨e7, e8⟩, ⟨e9, e10⟩⟩ := Wf_m hJ.wf
  have hF := tkF_le (t := t) hp
  have hA := tkA_ge (t := t) (n := n) (p := p)
  have hA2 := tkA_le (t := t) hp
  have hK := tkK_le (t := t) (n := n) (p := p)
  refine Sp_of (by decide) (Nat.le_of_ble_eq_true rfl) ?_
  show Wn _ _ 0 [(0, .ref (71))] [] _ _
  have tl9 : ∀ (g : aH) (r0 : PR), Fr [71, 77] h g → MTs t n th tl il up lo g r0 → okW n r0 → LineR t n p w (stp t n r0) → Wn (Rn (d + 6)) 172 298 [(0, .ref (71))] [] g (fun r9 h9 => r9 = none ∧ Fr [71, 77] h h9 ∧ ∃ r, LineR t n p w r ∧ MTs t n th tl il up lo h9 r) := by
    intro g r0 hfr hC hO hL
    rcases r0 with e0_ | ⟨p3, w3⟩
    · obtain ⟨hb_g, sz_g, at_g, fr9_g, tk_g, vl_g, o_g, f9_g, q_g⟩ := hC
      refine wn_ld (pc' := 299) (q := 0) (kin := 2) (v := .ref (71)) rfl (fun _ _ _ => rfl) rfl rfl ?_
      refine wn_get (pc' := 302) (v := .int (tk_g)) rfl rfl o_g rfl ?_
      refine wn_ic (pc' := 303) (w := nI 3) rfl rfl (by decide) ?_
      refine wn_icmp (t := 311) (f := 306) rfl rfl rfl (fun c1 => ?_) (fun c1 => ?_)
      · have c1 : ((tk_g)) = ((nI (3))) := c1
        refine wn_ld (pc' := 312) (q := 0) (kin := 2) (v := .ref (71)) rfl (fun _ _ _ => rfl) rfl rfl ?_
        refine wn_virI (pc' := 315) rfl rfl (by decide) rfl rfl o_g (Nat.le_of_ble_eq_true rfl) (m_goodB _ _ _ _ _ _ _ _ _ _ _ _ _ _ hb_g o_g) ?_
        refine wn_ifN (t := 322) (f := 318) rfl rfl rfl (by omega) (fun c2 => ?_) (fun c2 => ?_)
        · have c2 : 0 = 0 := c2
          refine wn_ld (pc' := 323) (q := 0) (kin := 2) (v := .ref (71)) rfl (fun _ _ _ => rfl) rfl rfl ?_
          refine wn_get (pc' := 326) (v := .ref (77)) rfl rfl o_g rfl ?_
          refine wn_ic (pc' := 327) (w := nI 0) rfl rfl (by decide) ?_
          refine wn_pu (pc' := 328) (st' := [.int (nI (0)), .ref (77), .int (nI (0)), .ref (77)]) rfl (fun _ _ _ => rfl) rfl rfl ?_
          refine wn_ialdv (pc' := 329) (j := 0) (v := (f9_g (0))) rfl rfl q_g rfl (by omega) (by decide) (rfl) ?_
          refine wn_ic (pc' := 330) (w := nI 1) rfl rfl (by decide) ?_
          refine wn_pu (pc' := 331) (st' := [.int ((f9_g (0)) + (nI (1))), .int (nI (0)), .ref (77)]) rfl (fun _ _ _ => rfl) rfl rfl ?_
          refine wn_iast (pc' := 332) (j := 0) rfl rfl q_g rfl (by omega) (by decide) ?_
          exact wn_vret rfl rfl ⟨rfl, (Fr.st (Fr.tr hfr (fw (Fr.rfl' [71] g)) (fun _ q => q)) (by decide)), .inl e0_, hL, MT_l hb_g (gs_ne (by decide) o_g) (gs_self q_g)⟩
        · have c2 : ¬ 0 = 0 := c2
          exact absurd c2 (by decide)
      · have c1 : ¬ ((tk_g)) = ((nI (3))) := c1
        refine wn_ld (pc' := 307) (q := 0) (kin := 2) (v := .ref (71)) rfl (fun _ _ _ => rfl) rfl rfl ?_
        refine wn_ic (pc' := 308) (w := nI 1) rfl rfl (by decide) ?_
        refine wn_virV (pc' := 311) rfl rfl (by decide) rfl rfl o_g (Nat.le_of_ble_eq_true rfl) (m_errsB _ _ _ _ _ _ _ _ _ _ _ _ _ _ hb_g o_g (nI (1))) ?_
        refine wn_ld (pc' := 312) (q := 0) (kin := 2) (v := .ref (71)) rfl (fun _ _ _ => rfl) rfl rfl ?_
        refine wn_virI (pc' := 315) rfl rfl (by decide) rfl rfl o_g (Nat.le_of_ble_eq_true rfl) (m_goodB _ _ _ _ _ _ _ _ _ _ _ _ _ _ hb_g o_g) ?_
        refine wn_ifN (t := 322) (f := 318) rfl rfl rfl (by omega) (fun c3 => ?_) (fun c3 => ?_)
        · have c3 : 0 = 0 := c3
          refine wn_ld (pc' := 323) (q := 0) (kin := 2) (v := .ref (71)) rfl (fun _ _ _ => rfl) rfl rfl ?_
          refine wn_get (pc' := 326) (v := .ref (77)) rfl rfl o_g rfl ?_
          refine wn_ic (pc' := 327) (w := nI 0) rfl rfl (by decide) ?_
          refine wn_pu (pc' := 328) (st' := [.int (nI (0)), .ref (77), .int (nI (0)), .ref (77)]) rfl (fun _ _ _ => rfl) rfl rfl ?_
          refine wn_ialdv (pc' := 329) (j := 0) (v := (f9_g (0))) rfl rfl q_g rfl (by omega) (by decide) (rfl) ?_
          refine wn_ic (pc' := 330) (w := nI 1) rfl rfl (by decide) ?_
          refine wn_pu (pc' := 331) (st' := [.int ((f9_g (0)) + (nI (1))), .int (nI (0)), .ref (77)]) rfl (fun _ _ _ => rfl) rfl rfl ?_
          refine wn_iast (pc' := 332) (j := 0) rfl rfl q_g rfl (by omega) (by decide) ?_
          exact wn_vret rfl rfl ⟨rfl, (Fr.st (Fr.tr hfr (fw (Fr.rfl' [71] g)) (fun _ q => q)) (by decide)), .inl e0_, hL, MT_l hb_g (gs_ne (by decide) o_g) (gs_self q_g)⟩
        · have c3 : ¬ 0 = 0 := c3
          exact absurd c3 (by decide)
    · obtain ⟨hp3, h03⟩ := hO
      obtain ⟨vl_g, hv_g, o_g, q_g⟩ := hC
      have := tkF_le (t := t) (p := p3) hp3
      have := tkA_ge (t := t) (n := n) (p := p3)
      have := tkA_le (t := t) (p := p3) hp3
      have := tkK_le (t := t) (n := n) (p := p3)
      refine wn_ld (pc' := 299) (q := 0) (kin := 2) (v := .ref (71)) rfl (fun _ _ _ => rfl) rfl rfl ?_
      refine wn_get (pc' := 302) (v := .int (nI (tkK t n p3))) rfl rfl o_g rfl ?_
      refine wn_ic (pc' := 303) (w := nI 3) rfl rfl (by decide) ?_
      refine wn_icmpN (t := 311) (f := 306) rfl rfl rfl (by omega) (by omega) (fun c4 => ?_) (fun c4 => ?_)
      · have c4 : (tkK t n p3) = 3 := c4
        refine wn_ld (pc' := 312) (q := 0) (kin := 2) (v := .ref (71)) rfl (fun _ _ _ => rfl) rfl rfl ?_
        refine wn_virI (pc' := 315) rfl rfl (by decide) rfl rfl o_g (Nat.le_of_ble_eq_true rfl) (m_good0 _ _ _ _ _ _ _ _ _ _ _ _ _ o_g) ?_
        refine wn_ifN (t := 322) (f := 318) rfl rfl rfl (by omega) (fun c5 => ?_) (fun c5 => ?_)
        · have c5 : 1 = 0 := c5
          exact absurd c5 (by decide)
        · have c5 : ¬ 1 = 0 := c5
          refine wn_ld (pc' := 319) (q := 0) (kin := 2) (v := .ref (71)) rfl (fun _ _ _ => rfl) rfl rfl ?_
          refine wn_virS (pc' := 322) rfl rfl (by decide) rfl rfl o_g (Nat.le_of_ble_eq_true rfl) (m_advance _ _ t n (tkA t n p3) hn (tkA_le hp3) hb th tl _ _ _ (nI 0) (-1) il up lo o_g ((hfr.2 75 (by decide)).trans q4)) (fun r9 h6 e7 => ?_)
          obtain ⟨rfl, f_h6, vl_h6, hv_h6, o_h6⟩ := e7
          have fr_h6 := Fr.tr (Fr.rfl' [71] g) f_h6 (fun _ q => q)
          have := tkF_le (t := t) (p := (tkA t n p3)) (tkA_le hp3)
          have := tkA_ge (t := t) (n := n) (p := (tkA t n p3))
          have := tkA_le (t := t) (p := (tkA t n p3)) (tkA_le hp3)
          have := tkK_le (t := t) (n := n) (p := (tkA t n p3))
          show Wn _ _ 322 _ [] h6 _
          refine wn_ld (pc' := 323) (q := 0) (kin := 2) (v := .ref (71)) rfl (fun _ _ _ => rfl) rfl rfl ?_
          refine wn_get (pc' := 326) (v := .ref (77)) rfl rfl o_h6 rfl ?_
          refine wn_ic (pc' := 327) (w := nI 0) rfl rfl (by decide) ?_
          refine wn_pu (pc' := 328) (st' := [.int (nI (0)), .ref (77), .int (nI (0)), .ref (77)]) rfl (fun _ _ _ => rfl) rfl rfl ?_
          refine wn_ialdv (pc' := 329) (j := 0) (v := (nI (lcW w3))) rfl rfl ((fr_h6.2 77 (by decide)).trans q_g) rfl (by omega) (by decide) (h03) ?_
          refine wn_ic (pc' := 330) (w := nI 1) rfl rfl (by decide) ?_
          refine wn_addN (pc' := 331) rfl rfl ?_
          refine wn_iast (pc' := 332) (j := 0) rfl rfl ((fr_h6.2 77 (by decide)).trans q_g) rfl (by omega) (by decide) ?_
          have eS : stp t n (.inr (p3, w3)) = .inr (tkA t n p3, linW w3) := pI_t c4
          rw [eS] at hL
          exact wn_vret rfl rfl ⟨rfl, (Fr.st (Fr.tr hfr (fw fr_h6) (fun _ q => q)) (by decide)), _, hL, MT_r hv_h6 (gs_ne (by decide) o_h6) (gs_self ((fr_h6.2 77 (by decide)).trans q_g))⟩
      · have c4 : ¬ (tkK t n p3) = 3 := c4
        refine wn_ld (pc' := 307) (q := 0) (kin := 2) (v := .ref (71)) rfl (fun _ _ _ => rfl) rfl rfl ?_
        refine wn_ic (pc' := 308) (w := nI 1) rfl rfl (by decide) ?_
        refine wn_virS (pc' := 311) rfl rfl (by decide) rfl rfl o_g (Nat.le_of_ble_eq_true rfl) (m_errs0 _ _ _ _ _ _ _ _ _ _ _ _ _ o_g (nI (1))) (fun r9 h8 e9 => ?_)
        obtain ⟨rfl, f_h8, o_h8⟩ := e9
        have fr_h8 := Fr.tr (Fr.rfl' [71] g) f_h8 (fun _ q => q)
        show Wn _ _ 311 _ [] h8 _
        refine wn_ld (pc' := 312) (q := 0) (kin := 2) (v := .ref (71)) rfl (fun _ _ _ => rfl) rfl rfl ?_
        refine wn_virI (pc' := 315) rfl rfl (by decide) rfl rfl o_h8 (Nat.le_of_ble_eq_true rfl) (m_goodB _ _ _ _ _ _ _ _ _ _ _ _ _ _ (show ¬ nI 1 = 0 by decide) o_h8) ?_
        refine wn_ifN (t := 322) (f := 318) rfl rfl rfl (by omega) (fun c10 => ?_) (fun c10 => ?_)
        · have c10 : 0 = 0 := c10
          refine wn_ld (pc' := 323) (q := 0) (kin := 2) (v := .ref (71)) rfl (fun _ _ _ => rfl) rfl rfl ?_
          refine wn_get (pc' := 326) (v := .ref (77)) rfl rfl o_h8 rfl ?_
          refine wn_ic (pc' := 327) (w := nI 0) rfl rfl (by decide) ?_
          refine wn_pu (pc' := 328) (st' := [.int (nI (0)), .ref (77), .int (nI (0)), .ref (77)]) rfl (fun _ _ _ => rfl) rfl rfl ?_
          refine wn_ialdv (pc' := 329) (j := 0) (v := (w3 (0))) rfl rfl ((fr_h8.2 77 (by decide)).trans q_g) rfl (by omega) (by decide) (rfl) ?_
          refine wn_ic (pc' := 330) (w := nI 1) rfl rfl (by decide) ?_
          refine wn_pu (pc' := 331) (st' := [.int ((w3 (0)) + (nI (1))), .int (nI (0)), .ref (77)]) rfl (fun _ _ _ => rfl) rfl rfl ?_
          refine wn_iast (pc' := 332) (j := 0) rfl rfl ((fr_h8.2 77 (by decide)).trans q_g) rfl (by omega) (by decide) ?_
          have eS : stp t n (.inr (p3, w3)) = .inl (1, tkF t n p3) := pI_f c4
          rw [eS] at hL
          exact wn_vret rfl rfl ⟨rfl, (Fr.st (Fr.tr hfr (fw fr_h8) (fun _ q => q)) (by decide)), _, hL, MT_l (show ¬ nI 1 = 0 by decide) (gs_ne (by decide) o_h8) (gs_self ((fr_h8.2 77 (by decide)).trans q_g))⟩
        · have c10 : ¬ 0 = 0 := c10
          exact absurd c10 (by decide)
  by_cases k0 : isWd t n p 0
  · have k2 : ¬ isWd t n p 2 := fun q => absurd (isWd_1 (by decide) (by decide) k0 q) (by decide)
    have k4 : ¬ isWd t n p 4 := fun q => absurd (isWd_1 (by decide) (by decide) k0 q) (by decide)
    have k7 : ¬ isWd t n p 7 := fun q => absurd (isWd_1 (by decide) (by decide) k0 q) (by decide)
    have k8 : ¬ isWd t n p 8 := fun q => absurd (isWd_1 (by decide) (by decide) k0 q) (by decide)
    refine wn_ld (pc' := 1) (q := 0) (kin := 2) (v := .ref (71)) rfl (fun _ _ _ => rfl) rfl rfl ?_
    refine wn_go (pc' := 3) (lv' := [(0, .ref (71))]) (st' := [.retAddr 0, .ref (71)]) rfl (fun _ _ _ k9 => ⟨by decide, k9⟩) ?_
    refine wn_virI (pc' := 6) rfl rfl (by decide) rfl rfl q0 (Nat.le_of_ble_eq_true rfl) (m_is0 _ _ t n p hn hp hb th tl _ il up lo hv q0 q4 0 (by omega)) ?_
    rw [← bI_t1 k0]
    refine wn_ifN (t := 45) (f := 9) rfl rfl rfl (by omega) (fun c11 => ?_) (fun c11 => ?_)
    · have c11 : ¬ 1 = 0 := c11
      refine wn_ic (pc' := 46) (w := nI 1) rfl rfl (by decide) ?_
      refine wn_jp (pc' := 50) rfl rfl ?_
      refine wn_st (pc' := 51) (q := 1) (kin := 0) (lv' := [(0, .ref (71)), (1, .int (nI (1)))]) rfl (fun _ _ _ => rfl) rfl (Nat.le_of_ble_eq_true rfl) rfl ?_
      refine wn_ld (pc' := 52) (q := 1) (kin := 0) (v := .int (nI (1))) rfl (fun _ _ _ => rfl) rfl rfl ?_
      refine wn_ifN (t := 60) (f := 55) rfl rfl rfl (by omega) (fun c12 => ?_) (fun c12 => ?_)
      · have c12 : ¬ 1 = 0 := c12
        refine wn_ld (pc' := 61) (q := 0) (kin := 2) (v := .ref (71)) rfl (fun _ _ _ => rfl) rfl rfl ?_
        refine wn_go (pc' := 63) (lv' := [(0, .ref (71)), (1, .int (nI (1)))]) (st' := [.retAddr 0, .ref (71)]) rfl (fun _ _ _ k9 => ⟨by decide, k9⟩) ?_
        refine wn_virI (pc' := 66) rfl rfl (by decide) rfl rfl q0 (Nat.le_of_ble_eq_true rfl) (m_is0 _ _ t n p hn hp hb th tl _ il up lo hv q0 q4 0 (by omega)) ?_
        rw [← bI_t1 k0]
        refine wn_ifN (t := 80) (f := 69) rfl rfl rfl (by omega) (fun c13 => ?_) (fun c13 => ?_)
        · have c13 : 1 = 0 := c13
          exact absurd c13 (by decide)
        · have c13 : ¬ 1 = 0 := c13
          refine wn_ld (pc' := 70) (q := 0) (kin := 2) (v := .ref (71)) rfl (fun _ _ _ => rfl) rfl rfl ?_
          refine wn_get (pc' := 73) (v := .ref (77)) rfl rfl q0 rfl ?_
          refine wn_ic (pc' := 74) (w := nI 1) rfl rfl (by decide) ?_
          refine wn_ialdv (pc' := 75) (j := 1) (v := (nI (nvW w))) rfl rfl q6 rfl (by omega) (by decide) (e1) ?_
          refine wn_bp (pc' := 77) (w := nI 24) rfl rfl (by decide) ?_
          refine wn_icmpN (t := 140) (f := 80) rfl rfl rfl (by omega) (by omega) (fun c14 => ?_) (fun c14 => ?_)
          · have c14 : (nvW w) = 24 := c14
            refine wn_ic (pc' := 141) (w := nI 1) rfl rfl (by decide) ?_
            refine wn_jp (pc' := 145) rfl rfl ?_
            refine wn_st (pc' := 146) (q := 2) (kin := 0) (lv' := [(0, .ref (71)), (1, .int (nI (1))), (2, .int (nI (1)))]) rfl (fun _ _ _ => rfl) rfl (Nat.le_of_ble_eq_true rfl) rfl ?_
            refine wn_ld (pc' := 147) (q := 2) (kin := 0) (v := .int (nI (1))) rfl (fun _ _ _ => rfl) rfl rfl ?_
            refine wn_ifN (t := 155) (f := 150) rfl rfl rfl (by omega) (fun c15 => ?_) (fun c15 => ?_)
            · have c15 : 1 = 0 := c15
              exact absurd c15 (by decide)
            · have c15 : ¬ 1 = 0 := c15
              refine wn_ld (pc' := 151) (q := 0) (kin := 2) (v := .ref (71)) rfl (fun _ _ _ => rfl) rfl rfl ?_
              refine wn_ic (pc' := 152) (w := nI 3) rfl rfl (by decide) ?_
              refine wn_virS (pc' := 155) rfl rfl (by decide) rfl rfl q0 (Nat.le_of_ble_eq_true rfl) (m_errs0 _ _ _ _ _ _ _ _ _ _ _ _ _ q0 (nI (3))) (fun r9 h16 e17 => ?_)
              obtain ⟨rfl, f_h16, o_h16⟩ := e17
              have fr_h16 := Fr.tr (Fr.rfl' [71] h) f_h16 (fun _ q => q)
              show Wn _ _ 155 _ [] h16 _
              refine wn_ld (pc' := 156) (q := 0) (kin := 2) (v := .ref (71)) rfl (fun _ _ _ => rfl) rfl rfl ?_
              refine wn_virI (pc' := 159) rfl rfl (by decide) rfl rfl o_h16 (Nat.le_of_ble_eq_true rfl) (m_goodB _ _ _ _ _ _ _ _ _ _ _ _ _ _ (show ¬ nI 3 = 0 by decide) o_h16) ?_
              refine wn_ifN (t := 163) (f := 162) rfl rfl rfl (by omega) (fun c18 => ?_) (fun c18 => ?_)
              · have c18 : ¬ 0 = 0 := c18
                exact absurd c18 (by decide)
              · have c18 : 0 = 0 := c18
                have eL : LineR t n p w (.inl (3, tkF t n p)) := Or.inl (⟨k0, (pI_f (by omega)).symm⟩)
                exact wn_vret rfl rfl ⟨rfl, (Fr.tr (Fr.rfl' [71, 77] h) (fw fr_h16) (fun _ q => q)), _, eL, MT_l (show ¬ nI 3 = 0 by decide) o_h16 ((fr_h16.2 77 (by decide)).trans q6)⟩
          · have c14 : ¬ (nvW w) = 24 := c14
            refine wn_ld (pc' := 81) (q := 0) (kin := 2) (v := .ref (71)) rfl (fun _ _ _ => rfl) rfl rfl ?_
            refine wn_go (pc' := 83) (lv' := [(0, .ref (71)), (1, .int (nI (1)))]) (st' := [.retAddr 2, .ref (71)]) rfl (fun _ _ _ k9 => ⟨by decide, k9⟩) ?_
            refine wn_virI (pc' := 86) rfl rfl (by decide) rfl rfl q0 (Nat.le_of_ble_eq_true rfl) (m_is0 _ _ t n p hn hp hb th tl _ il up lo hv q0 q4 2 (by omega)) ?_
            rw [← bI_f0 k2]
            refine wn_ifN (t := 100) (f := 89) rfl rfl rfl (by omega) (fun c19 => ?_) (fun c19 => ?_)
            · have c19 : 0 = 0 := c19
              refine wn_ld (pc' := 101) (q := 0) (kin := 2) (v := .ref (71)) rfl (fun _ _ _ => rfl) rfl rfl ?_
              refine wn_go (pc' := 103) (lv' := [(0, .ref (71)), (1, .int (nI (1)))]) (st' := [.retAddr 4, .ref (71)]) rfl (fun _ _ _ k9 => ⟨by decide, k9⟩) ?_
              refine wn_virI (pc' := 106) rfl rfl (by decide) rfl rfl q0 (Nat.le_of_ble_eq_true rfl) (m_is0 _ _ t n p hn hp hb th tl _ il up lo hv q0 q4 4 (by omega)) ?_
              rw [← bI_f0 k4]
              refine wn_ifN (t := 120) (f := 109) rfl rfl rfl (by omega) (fun c20 => ?_) (fun c20 => ?_)
              · have c20 : 0 = 0 := c20
                refine wn_ld (pc' := 121) (q := 0) (kin := 2) (v := .ref (71)) rfl (fun _ _ _ => rfl) rfl rfl ?_
                refine wn_go (pc' := 123) (lv' := [(0, .ref (71)), (1, .int (nI (1)))]) (st' := [.retAddr 8, .ref (71)]) rfl (fun _ _ _ k9 => ⟨by decide, k9⟩) ?_
                refine wn_virI (pc' := 126) rfl rfl (by decide) rfl rfl q0 (Nat.le_of_ble_eq_true rfl) (m_is0 _ _ t n p hn hp hb th tl _ il up lo hv q0 q4 8 (by omega)) ?_
                rw [← bI_f0 k8]
                refine wn_ifN (t := 144) (f := 129) rfl rfl rfl (by omega) (fun c21 => ?_) (fun c21 => ?_)
                · have c21 : 0 = 0 := c21
                  refine wn_ic (pc' := 145) (w := nI 0) rfl rfl (by decide) ?_
                  refine wn_st (pc' := 146) (q := 2) (kin := 0) (lv' := [(0, .ref (71)), (1, .int (nI (1))), (2, .int (nI (0)))]) rfl (fun _ _ _ => rfl) rfl (Nat.le_of_ble_eq_true rfl) rfl ?_
                  refine wn_ld (pc' := 147) (q := 2) (kin := 0) (v := .int (nI (0))) rfl (fun _ _ _ => rfl) rfl rfl ?_
                  refine wn_ifN (t := 155) (f := 150) rfl rfl rfl (by omega) (fun c22 => ?_) (fun c22 => ?_)
                  · have c22 : 0 = 0 := c22
                    refine wn_ld (pc' := 156) (q := 0) (kin := 2) (v := .ref (71)) rfl (fun _ _ _ => rfl) rfl rfl ?_
                    refine wn_virI (pc' := 159) rfl rfl (by decide) rfl rfl q0 (Nat.le_of_ble_eq_true rfl) (m_good0 _ _ _ _ _ _ _ _ _ _ _ _ _ q0) ?_
                    refine wn_ifN (t := 163) (f := 162) rfl rfl rfl (by omega) (fun c23 => ?_) (fun c23 => ?_)
                    · have c23 : ¬ 1 = 0 := c23
                      refine wn_ld (pc' := 164) (q := 0) (kin := 2) (v := .ref (71)) rfl (fun _ _ _ => rfl) rfl rfl ?_
                      refine wn_go (pc' := 166) (lv' := [(0, .ref (71)), (1, .int (nI (1))), (2, .int (nI (0)))]) (st' := [.retAddr 0, .ref (71)]) rfl (fun _ _ _ k9 => ⟨by decide, k9⟩) ?_
                      refine wn_virS (pc' := 169) rfl rfl (by decide) rfl rfl q0 (Nat.le_of_ble_eq_true rfl) (m_takesT _ _ t n p hn hp hb th tl _ il up lo hv q0 q4 0 (by omega) k0) (fun r9 h24 e25 => ?_)
                      obtain ⟨rfl, f_h24, vl_h24, hv_h24, o_h24⟩ := e25
                      have fr_h24 := Fr.tr (Fr.rfl' [71] h) f_h24 (fun _ q => q)
                      have := tkF_le (t := t) (p := (tkA t n p)) (tkA_le hp)
                      have := tkA_ge (t := t) (n := n) (p := (tkA t n p))
                      have := tkA_le (t := t) (p := (tkA t n p)) (tkA_le hp)
                      have := tkK_le (t := t) (n := n) (p := (tkA t n p))
                      have g_h24 := wd_gt k0
                      show Wn _ _ 169 _ [.int (nI (1))] h24 _
                      refine wn_ifN (t := 242) (f := 172) rfl rfl rfl (by omega) (fun c26 => ?_) (fun c26 => ?_)
                      · have c26 : 1 = 0 := c26
                        exact absurd c26 (by decide)
                      · have c26 : ¬ 1 = 0 := c26
                        have hv24 : nvW w < 24 := by omega
                        refine wn_ld (pc' := 173) (q := 0) (kin := 2) (v := .ref (71)) rfl (fun _ _ _ => rfl) rfl rfl ?_
                        refine wn_go (pc' := 175) (lv' := [(0, .ref (71)), (1, .int (nI (1))), (2, .int (nI (0)))]) (st' := [.retAddr 1, .ref (71)]) rfl (fun _ _ _ k9 => ⟨by decide, k9⟩) ?_
                        refine wn_virS (pc' := 178) rfl rfl (by decide) rfl rfl o_h24 (Nat.le_of_ble_eq_true rfl) (m_needs0 _ _ t n (tkA t n p) hn (tkA_le hp) hb th tl _ il up lo hv_h24 o_h24 ((fr_h24.2 75 (by decide)).trans q4) 1 (by omega)) (fun r9 h27 e28 => ?_)
                        obtain ⟨rfl, f_h27, ⟨w_h27, vl_h27, hv_h27, o_h27⟩ | ⟨w_h27, o_h27⟩⟩ := e28
                        · have fr_h27 := Fr.tr fr_h24 f_h27 (fun _ q => q)
                          have := tkF_le (t := t) (p := (tkA t n (tkA t n p))) (tkA_le (tkA_le hp))
                          have := tkA_ge (t := t) (n := n) (p := (tkA t n (tkA t n p)))
                          have := tkA_le (t := t) (p := (tkA t n (tkA t n p))) (tkA_le (tkA_le hp))
                          have := tkK_le (t := t) (n := n) (p := (tkA t n (tkA t n p)))
                          have g_h27 := wd_gt w_h27
                          show Wn _ _ 178 _ [] h27 _
                          refine wn_ld (pc' := 179) (q := 0) (kin := 2) (v := .ref (71)) rfl (fun _ _ _ => rfl) rfl rfl ?_
                          refine wn_ic (pc' := 180) (w := nI 1) rfl rfl (by decide) ?_
                          refine wn_bp (pc' := 182) (w := nI 99) rfl rfl (by decide) ?_
                          refine wn_virS (pc' := 185) rfl rfl (by decide) rfl rfl o_h27 (Nat.le_of_ble_eq_true rfl) (m_num0 _ _ t n (tkA t n (tkA t n p)) hn (tkA_le (tkA_le hp)) hb th tl _ il up lo hv_h27 o_h27 ((fr_h27.2 75 (by decide)).trans q4) 1 (by omega) (nI (99)) (99) (show (nI 99).toInt = 99 by decide) (by decide)) (fun r9 h29 e30 => ?_)
                          obtain ⟨f_h29, ⟨w_h29, rfl, vl_h29, hv_h29, o_h29⟩ | ⟨w_h29, rfl, o_h29⟩⟩ := e30
                          · have fr_h29 := Fr.tr fr_h27 f_h29 (fun _ q => q)
                            have := tkF_le (t := t) (p := (tkA t n (tkA t n (tkA t n p)))) (tkA_le (tkA_le (tkA_le hp)))
                            have := tkA_ge (t := t) (n := n) (p := (tkA t n (tkA t n (tkA t n p))))
                            have := tkA_le (t := t) (p := (tkA t n (tkA t n (tkA t n p)))) (tkA_le (tkA_le (tkA_le hp)))
                            have := tkK_le (t := t) (n := n) (p := (tkA t n (tkA t n (tkA t n p))))
                            have b1_h29 := w_h29.2.1
                            have b2_h29 := w_h29.2.2
                            have g_h29 := nm_gt w_h29
                            show Wn _ _ 185 _ [.int (nI (tkV t n (tkA t n (tkA t n p))))] h29 _
                            refine wn_st (pc' := 186) (q := 3) (kin := 0) (lv' := [(0, .ref (71)), (1, .int (nI (1))), (2, .int (nI (0))), (3, .int (nI (tkV t n (tkA t n (tkA t n p)))))]) rfl (fun _ _ _ => rfl) rfl (Nat.le_of_ble_eq_true rfl) rfl ?_
                            refine wn_ld (pc' := 187) (q := 0) (kin := 2) (v := .ref (71)) rfl (fun _ _ _ => rfl) rfl rfl ?_
                            refine wn_virI (pc' := 190) rfl rfl (by decide) rfl rfl o_h29 (Nat.le_of_ble_eq_true rfl) (m_good0 _ _ _ _ _ _ _ _ _ _ _ _ _ o_h29) ?_
                            refine wn_ifN (t := 239) (f := 193) rfl rfl rfl (by omega) (fun c31 => ?_) (fun c31 => ?_)
                            · have c31 : 1 = 0 := c31
                              exact absurd c31 (by decide)
                            · have c31 : ¬ 1 = 0 := c31
                              refine wn_ld (pc' := 194) (q := 0) (kin := 2) (v := .ref (71)) rfl (fun _ _ _ => rfl) rfl rfl ?_
                              refine wn_get (pc' := 197) (v := .ref (77)) rfl rfl o_h29 rfl ?_
                              refine wn_bp (pc' := 199) (w := nI 8) rfl rfl (by decide) ?_
                              refine wn_ic (pc' := 200) (w := nI 2) rfl rfl (by decide) ?_
                              refine wn_ld (pc' := 201) (q := 0) (kin := 2) (v := .ref (71)) rfl (fun _ _ _ => rfl) rfl rfl ?_
                              refine wn_get (pc' := 204) (v := .ref (77)) rfl rfl o_h29 rfl ?_
                              refine wn_ic (pc' := 205) (w := nI 1) rfl rfl (by decide) ?_
                              refine wn_ialdv (pc' := 206) (j := 1) (v := (nI (nvW w))) rfl rfl ((fr_h29.2 77 (by decide)).trans q6) rfl (by omega) (by decide) (e1) ?_
                              refine wn_mulN (pc' := 207) rfl rfl ?_
                              refine wn_addN (pc' := 208) rfl rfl ?_
                              refine wn_ld (pc' := 209) (q := 3) (kin := 0) (v := .int (nI (tkV t n (tkA t n (tkA t n p))))) rfl (fun _ _ _ => rfl) rfl rfl ?_
                              refine wn_iast (pc' := 210) (j := 8 + (2 * (nvW w))) rfl rfl ((fr_h29.2 77 (by decide)).trans q6) rfl (by omega) (by decide) ?_
                              refine wn_ld (pc' := 211) (q := 0) (kin := 2) (v := .ref (71)) rfl (fun _ _ _ => rfl) rfl rfl ?_
                              refine wn_get (pc' := 214) (v := .ref (77)) rfl rfl (gs_ne (by decide) o_h29) rfl ?_
                              refine wn_bp (pc' := 216) (w := nI 8) rfl rfl (by decide) ?_
                              refine wn_ic (pc' := 217) (w := nI 2) rfl rfl (by decide) ?_
                              refine wn_ld (pc' := 218) (q := 0) (kin := 2) (v := .ref (71)) rfl (fun _ _ _ => rfl) rfl rfl ?_
                              refine wn_get (pc' := 221) (v := .ref (77)) rfl rfl (gs_ne (by decide) o_h29) rfl ?_
                              refine wn_ic (pc' := 222) (w := nI 1) rfl rfl (by decide) ?_
                              refine wn_ialdv (pc' := 223) (j := 1) (v := (nI (nvW w))) rfl rfl (gs_self ((fr_h29.2 77 (by decide)).trans q6)) rfl (by omega) (by decide) ((pk_un (by omega)).trans (e1)) ?_
                              refine wn_mulN (pc' := 224) rfl rfl ?_
                              refine wn_addN (pc' := 225) rfl rfl ?_
                              refine wn_ic (pc' := 226) (w := nI 1) rfl rfl (by decide) ?_
                              refine wn_addN (pc' := 227) rfl rfl ?_
                              refine wn_ic (pc' := 228) (w := -1) rfl rfl (by decide) ?_
                              refine wn_iast (pc' := 229) (j := (8 + (2 * (nvW w))) + 1) rfl rfl (gs_self ((fr_h29.2 77 (by decide)).trans q6)) rfl (by omega) (by decide) ?_
                              refine wn_ld (pc' := 230) (q := 0) (kin := 2) (v := .ref (71)) rfl (fun _ _ _ => rfl) rfl rfl ?_
                              refine wn_get (pc' := 233) (v := .ref (77)) rfl rfl (gs_ne (by decide) (gs_ne (by decide) o_h29)) rfl ?_
                              refine wn_ic (pc' := 234) (w := nI 1) rfl rfl (by decide) ?_
                              refine wn_pu (pc' := 235) (st' := [.int (nI (1)), .ref (77), .int (nI (1)), .ref (77)]) rfl (fun _ _ _ => rfl) rfl rfl ?_
                              refine wn_ialdv (pc' := 236) (j := 1) (v := (nI (nvW w))) rfl rfl (gs_self (gs_self ((fr_h29.2 77 (by decide)).trans q6))) rfl (by omega) (by decide) ((pk_un (by omega)).trans ((pk_un (by omega)).trans (e1))) ?_
                              refine wn_ic (pc' := 237) (w := nI 1) rfl rfl (by decide) ?_
                              refine wn_addN (pc' := 238) rfl rfl ?_
                              refine wn_iast (pc' := 239) (j := 1) rfl rfl (gs_self (gs_self ((fr_h29.2 77 (by decide)).trans q6))) rfl (by omega) (by decide) ?_
                              refine wn_jp (pc' := 298) rfl rfl ?_
                              refine wn_weak (lv' := [(0, .ref (71))]) (by simp) ?_
                              have eR : vilR t n (tkF t n p) (tkA t n p) w = stp t n (.inr (tkA t n (tkA t n (tkA t n p)), vilW w (tkV t n (tkA t n (tkA t n p))))) := (pI_t hv24).trans ((pI_t w_h27).trans (pI_t w_h29))
                              exact tl9 _ (.inr (tkA t n (tkA t n (tkA t n p)), vilW w (tkV t n (tkA t n (tkA t n p))))) (Fr.st (Fr.st (Fr.st (Fr.tr (Fr.rfl' [71, 77] h) (fw fr_h29) (fun _ q => q)) (by decide)) (by decide)) (by decide)) (MT_r hv_h29 (gs_ne (by decide) (gs_ne (by decide) (gs_ne (by decide) o_h29))) (gs_self (gs_self (gs_self ((fr_h29.2 77 (by decide)).trans q6))))) ⟨(tkA_le (tkA_le (tkA_le hp))), (vil_o (by omega) (by omega) (by omega)).trans (e0.trans (congrArg nI (lc_e (vil_o (by omega) (by omega) (by omega))).symm))⟩ (Or.inl ⟨k0, eR.symm⟩)
                          · have fr_h29 := Fr.tr fr_h27 f_h29 (fun _ q => q)
                            show Wn _ _ 185 _ [.int (nI (0))] h29 _
                            refine wn_st (pc' := 186) (q := 3) (kin := 0) (lv' := [(0, .ref (71)), (1, .int (nI (1))), (2, .int (nI (0))), (3, .int (nI (0)))]) rfl (fun _ _ _ => rfl) rfl (Nat.le_of_ble_eq_true rfl) rfl ?_
                            refine wn_ld (pc' := 187) (q := 0) (kin := 2) (v := .ref (71)) rfl (fun _ _ _ => rfl) rfl rfl ?_
                            refine wn_virI (pc' := 190) rfl rfl (by decide) rfl rfl o_h29 (Nat.le_of_ble_eq_true rfl) (m_goodB _ _ _ _ _ _ _ _ _ _ _ _ _ _ nmF_nz o_h29) ?_
                            refine wn_ifN (t := 239) (f := 193) rfl rfl rfl (by omega) (fun c32 => ?_) (fun c32 => ?_)
                            · have c32 : 0 = 0 := c32
                              refine wn_jp (pc' := 298) rfl rfl ?_
                              refine wn_weak (lv' := [(0, .ref (71))]) (by simp) ?_
                              have eR : vilR t n (tkF t n p) (tkA t n p) w = stp t n (.inl (nmF t n (tkA t n (tkA t n p)), tkF t n (tkA t n (tkA t n p)))) := (pI_t hv24).trans ((pI_t w_h27).trans (pI_f w_h29))
                              exact tl9 _ _ (Fr.tr (Fr.rfl' [71, 77] h) (fw fr_h29) (fun _ q => q)) (MT_l nmF_nz o_h29 ((fr_h29.2 77 (by decide)).trans q6)) trivial (Or.inl ⟨k0, eR.symm⟩)
                            · have c32 : ¬ 0 = 0 := c32
                              exact absurd c32 (by decide)
                        · have fr_h27 := Fr.tr fr_h24 f_h27 (fun _ q => q)
                          show Wn _ _ 178 _ [] h27 _
                          refine wn_ld (pc' := 179) (q := 0) (kin := 2) (v := .ref (71)) rfl (fun _ _ _ => rfl) rfl rfl ?_
                          refine wn_ic (pc' := 180) (w := nI 1) rfl rfl (by decide) ?_
                          refine wn_bp (pc' := 182) (w := nI 99) rfl rfl (by decide) ?_
                          refine wn_virI (pc' := 185) rfl rfl (by decide) rfl rfl o_h27 (Nat.le_of_ble_eq_true rfl) (m_numberB _ _ _ _ _ _ _ _ _ _ _ _ _ _ (show ¬ nI 1 = 0 by decide) o_h27 (nI (1)) (nI (99))) ?_
                          refine wn_st (pc' := 186) (q := 3) (kin := 0) (lv' := [(0, .ref (71)), (1, .int (nI (1))), (2, .int (nI (0))), (3, .int (nI (0)))]) rfl (fun _ _ _ => rfl) rfl (Nat.le_of_ble_eq_true rfl) rfl ?_
                          refine wn_ld (pc' := 187) (q := 0) (kin := 2) (v := .ref (71)) rfl (fun _ _ _ => rfl) rfl rfl ?_
                          refine wn_virI (pc' := 190) rfl rfl (by decide) rfl rfl o_h27 (Nat.le_of_ble_eq_true rfl) (m_goodB _ _ _ _ _ _ _ _ _ _ _ _ _ _ (show ¬ nI 1 = 0 by decide) o_h27) ?_
                          refine wn_ifN (t := 239) (f := 193) rfl rfl rfl (by omega) (fun c33 => ?_) (fun c33 => ?_)
                          · have c33 : 0 = 0 := c33
                            refine wn_jp (pc' := 298) rfl rfl ?_
                            refine wn_weak (lv' := [(0, .ref (71))]) (by simp) ?_
                            have eR : vilR t n (tkF t n p) (tkA t n p) w = stp t n (.inl (1, tkF t n (tkA t n p))) := (pI_t hv24).trans (pI_f w_h27)
                            exact tl9 _ _ (Fr.tr (Fr.rfl' [71, 77] h) (fw fr_h27) (fun _ q => q)) (MT_l (show ¬ nI 1 = 0 by decide) o_h27 ((fr_h27.2 77 (by decide)).trans q6)) trivial (Or.inl ⟨k0, eR.symm⟩)
                          · have c33 : ¬ 0 = 0 := c33
                            exact absurd c33 (by decide)
                    · have c23 : 1 = 0 := c23
                      exact absurd c23 (by decide)
                  · have c22 : ¬ 0 = 0 := c22
                    exact absurd c22 (by decide)
                · have c21 : ¬ 0 = 0 := c21
                  exact absurd c21 (by decide)
              · have c20 : ¬ 0 = 0 := c20
                exact absurd c20 (by decide)
            · have c19 : ¬ 0 = 0 := c19
              exact absurd c19 (by decide)
      · have c12 : 1 = 0 := c12
        exact absurd c12 (by decide)
    · have c11 : 1 = 0 := c11
      exact absurd c11 (by decide)
  by_cases k2 : isWd t n p 2
  · have k4 : ¬ isWd t n p 4 := fun q => absurd (isWd_1 (by decide) (by decide) k2 q) (by decide)
    have k7 : ¬ isWd t n p 7 := fun q => absurd (isWd_1 (by decide) (by decide) k2 q) (by decide)
    have k8 : ¬ isWd t n p 8 := fun q => absurd (isWd_1 (by decide) (by decide) k2 q) (by decide)
    refine wn_ld (pc' := 1) (q := 0) (kin := 2) (v := .ref (71)) rfl (fun _ _ _ => rfl) rfl rfl ?_
    refine wn_go (pc' := 3) (lv' := [(0, .ref (71))]) (st' := [.retAddr 0, .ref (71)]) rfl (fun _ _ _ k9 => ⟨by decide, k9⟩) ?_
    refine wn_virI (pc' := 6) rfl rfl (by decide) rfl rfl q0 (Nat.le_of_ble_eq_true rfl) (m_is0 _ _ t n p hn hp hb th tl _ il up lo hv q0 q4 0 (by omega)) ?_
    rw [← bI_f0 k0]
    refine wn_ifN (t := 45) (f := 9) rfl rfl rfl (by omega) (fun c34 => ?_) (fun c34 => ?_)
    · have c34 : ¬ 0 = 0 := c34
      exact absurd c34 (by decide)
    · have c34 : 0 = 0 := c34
      refine wn_ld (pc' := 10) (q := 0) (kin := 2) (v := .ref (71)) rfl (fun _ _ _ => rfl) rfl rfl ?_
      refine wn_go (pc' := 12) (lv' := [(0, .ref (71))]) (st' := [.retAddr 2, .ref (71)]) rfl (fun _ _ _ k9 => ⟨by decide, k9⟩) ?_
      refine wn_virI (pc' := 15) rfl rfl (by decide) rfl rfl q0 (Nat.le_of_ble_eq_true rfl) (m_is0 _ _ t n p hn hp hb th tl _ il up lo hv q0 q4 2 (by omega)) ?_
      rw [← bI_t1 k2]
      refine wn_ifN (t := 45) (f := 18) rfl rfl rfl (by omega) (fun c35 => ?_) (fun c35 => ?_)
      · have c35 : ¬ 1 = 0 := c35
        refine wn_ic (pc' := 46) (w := nI 1) rfl rfl (by decide) ?_
        refine wn_jp (pc' := 50) rfl rfl ?_
        refine wn_st (pc' := 51) (q := 1) (kin := 0) (lv' := [(0, .ref (71)), (1, .int (nI (1)))]) rfl (fun _ _ _ => rfl) rfl (Nat.le_of_ble_eq_true rfl) rfl ?_
        refine wn_ld (pc' := 52) (q := 1) (kin := 0) (v := .int (nI (1))) rfl (fun _ _ _ => rfl) rfl rfl ?_
        refine wn_ifN (t := 60) (f := 55) rfl rfl rfl (by omega) (fun c36 => ?_) (fun c36 => ?_)
        · have c36 : ¬ 1 = 0 := c36
          refine wn_ld (pc' := 61) (q := 0) (kin := 2) (v := .ref (71)) rfl (fun _ _ _ => rfl) rfl rfl ?_
          refine wn_go (pc' := 63) (lv' := [(0, .ref (71)), (1, .int (nI (1)))]) (st' := [.retAddr 0, .ref (71)]) rfl (fun _ _ _ k9 => ⟨by decide, k9⟩) ?_
          refine wn_virI (pc' := 66) rfl rfl (by decide) rfl rfl q0 (Nat.le_of_ble_eq_true rfl) (m_is0 _ _ t n p hn hp hb th tl _ il up lo hv q0 q4 0 (by omega)) ?_
          rw [← bI_f0 k0]
          refine wn_ifN (t := 80) (f := 69) rfl rfl rfl (by omega) (fun c37 => ?_) (fun c37 => ?_)
          · have c37 : 0 = 0 := c37
            refine wn_ld (pc' := 81) (q := 0) (kin := 2) (v := .ref (71)) rfl (fun _ _ _ => rfl) rfl rfl ?_
            refine wn_go (pc' := 83) (lv' := [(0, .ref (71)), (1, .int (nI (1)))]) (st' := [.retAddr 2, .ref (71)]) rfl (fun _ _ _ k9 => ⟨by decide, k9⟩) ?_
            refine wn_virI (pc' := 86) rfl rfl (by decide) rfl rfl q0 (Nat.le_of_ble_eq_true rfl) (m_is0 _ _ t n p hn hp hb th tl _ il up lo hv q0 q4 2 (by omega)) ?_
            rw [← bI_t1 k2]
            refine wn_ifN (t := 100) (f := 89) rfl rfl rfl (by omega) (fun c38 => ?_) (fun c38 => ?_)
            · have c38 : 1 = 0 := c38
              exact absurd c38 (by decide)
            · have c38 : ¬ 1 = 0 := c38
              refine wn_ld (pc' := 90) (q := 0) (kin := 2) (v := .ref (71)) rfl (fun _ _ _ => rfl) rfl rfl ?_
              refine wn_get (pc' := 93) (v := .ref (77)) rfl rfl q0 rfl ?_
              refine wn_ic (pc' := 94) (w := nI 2) rfl rfl (by decide) ?_
              refine wn_ialdv (pc' := 95) (j := 2) (v := (nI (nrW w))) rfl rfl q6 rfl (by omega) (by decide) (e3) ?_
              refine wn_bp (pc' := 97) (w := nI 40) rfl rfl (by decide) ?_
              refine wn_icmpN (t := 140) (f := 100) rfl rfl rfl (by omega) (by omega) (fun c39 => ?_) (fun c39 => ?_)
              · have c39 : (nrW w) = 40 := c39
                refine wn_ic (pc' := 141) (w := nI 1) rfl rfl (by decide) ?_
                refine wn_jp (pc' := 145) rfl rfl ?_
                refine wn_st (pc' := 146) (q := 2) (kin := 0) (lv' := [(0, .ref (71)), (1, .int (nI (1))), (2, .int (nI (1)))]) rfl (fun _ _ _ => rfl) rfl (Nat.le_of_ble_eq_true rfl) rfl ?_
                refine wn_ld (pc' := 147) (q := 2) (kin := 0) (v := .int (nI (1))) rfl (fun _ _ _ => rfl) rfl rfl ?_
                refine wn_ifN (t := 155) (f := 150) rfl rfl rfl (by omega) (fun c40 => ?_) (fun c40 => ?_)
                · have c40 : 1 = 0 := c40
                  exact absurd c40 (by decide)
                · have c40 : ¬ 1 = 0 := c40
                  refine wn_ld (pc' := 151) (q := 0) (kin := 2) (v := .ref (71)) rfl (fun _ _ _ => rfl) rfl rfl ?_
                  refine wn_ic (pc' := 152) (w := nI 3) rfl rfl (by decide) ?_
                  refine wn_virS (pc' := 155) rfl rfl (by decide) rfl rfl q0 (Nat.le_of_ble_eq_true rfl) (m_errs0 _ _ _ _ _ _ _ _ _ _ _ _ _ q0 (nI (3))) (fun r9 h41 e42 => ?_)
                  obtain ⟨rfl, f_h41, o_h41⟩ := e42
                  have fr_h41 := Fr.tr (Fr.rfl' [71] h) f_h41 (fun _ q => q)
                  show Wn _ _ 155 _ [] h41 _
                  refine wn_ld (pc' := 156) (q := 0) (kin := 2) (v := .ref (71)) rfl (fun _ _ _ => rfl) rfl rfl ?_
                  refine wn_virI (pc' := 159) rfl rfl (by decide) rfl rfl o_h41 (Nat.le_of_ble_eq_true rfl) (m_goodB _ _ _ _ _ _ _ _ _ _ _ _ _ _ (show ¬ nI 3 = 0 by decide) o_h41) ?_
                  refine wn_ifN (t := 163) (f := 162) rfl rfl rfl (by omega) (fun c43 => ?_) (fun c43 => ?_)
                  · have c43 : ¬ 0 = 0 := c43
                    exact absurd c43 (by decide)
                  · have c43 : 0 = 0 := c43
                    have eL : LineR t n p w (.inl (3, tkF t n p)) := Or.inr (Or.inl (⟨k2, (pI_f (by omega)).symm⟩))
                    exact wn_vret rfl rfl ⟨rfl, (Fr.tr (Fr.rfl' [71, 77] h) (fw fr_h41) (fun _ q => q)), _, eL, MT_l (show ¬ nI 3 = 0 by decide) o_h41 ((fr_h41.2 77 (by decide)).trans q6)⟩
              · have c39 : ¬ (nrW w) = 40 := c39
                refine wn_ld (pc' := 101) (q := 0) (kin := 2) (v := .ref (71)) rfl (fun _ _ _ => rfl) rfl rfl ?_
                refine wn_go (pc' := 103) (lv' := [(0, .ref (71)), (1, .int (nI (1)))]) (st' := [.retAddr 4, .ref (71)]) rfl (fun _ _ _ k9 => ⟨by decide, k9⟩) ?_
                refine wn_virI (pc' := 106) rfl rfl (by decide) rfl rfl q0 (Nat.le_of_ble_eq_true rfl) (m_is0 _ _ t n p hn hp hb th tl _ il up lo hv q0 q4 4 (by omega)) ?_
                rw [← bI_f0 k4]
                refine wn_ifN (t := 120) (f := 109) rfl rfl rfl (by omega) (fun c44 => ?_) (fun c44 => ?_)
                · have c44 : 0 = 0 := c44
                  refine wn_ld (pc' := 121) (q := 0) (kin := 2) (v := .ref (71)) rfl (fun _ _ _ => rfl) rfl rfl ?_
                  refine wn_go (pc' := 123) (lv' := [(0, .ref (71)), (1, .int (nI (1)))]) (st' := [.retAddr 8, .ref (71)]) rfl (fun _ _ _ k9 => ⟨by decide, k9⟩) ?_
                  refine wn_virI (pc' := 126) rfl rfl (by decide) rfl rfl q0 (Nat.le_of_ble_eq_true rfl) (m_is0 _ _ t n p hn hp hb th tl _ il up lo hv q0 q4 8 (by omega)) ?_
                  rw [← bI_f0 k8]
                  refine wn_ifN (t := 144) (f := 129) rfl rfl rfl (by omega) (fun c45 => ?_) (fun c45 => ?_)
                  · have c45 : 0 = 0 := c45
                    refine wn_ic (pc' := 145) (w := nI 0) rfl rfl (by decide) ?_
                    refine wn_st (pc' := 146) (q := 2) (kin := 0) (lv' := [(0, .ref (71)), (1, .int (nI (1))), (2, .int (nI (0)))]) rfl (fun _ _ _ => rfl) rfl (Nat.le_of_ble_eq_true rfl) rfl ?_
                    refine wn_ld (pc' := 147) (q := 2) (kin := 0) (v := .int (nI (0))) rfl (fun _ _ _ => rfl) rfl rfl ?_
                    refine wn_ifN (t := 155) (f := 150) rfl rfl rfl (by omega) (fun c46 => ?_) (fun c46 => ?_)
                    · have c46 : 0 = 0 := c46
                      refine wn_ld (pc' := 156) (q := 0) (kin := 2) (v := .ref (71)) rfl (fun _ _ _ => rfl) rfl rfl ?_
                      refine wn_virI (pc' := 159) rfl rfl (by decide) rfl rfl q0 (Nat.le_of_ble_eq_true rfl) (m_good0 _ _ _ _ _ _ _ _ _ _ _ _ _ q0) ?_
                      refine wn_ifN (t := 163) (f := 162) rfl rfl rfl (by omega) (fun c47 => ?_) (fun c47 => ?_)
                      · have c47 : ¬ 1 = 0 := c47
                        refine wn_ld (pc' := 164) (q := 0) (kin := 2) (v := .ref (71)) rfl (fun _ _ _ => rfl) rfl rfl ?_
                        refine wn_go (pc' := 166) (lv' := [(0, .ref (71)), (1, .int (nI (1))), (2, .int (nI (0)))]) (st' := [.retAddr 0, .ref (71)]) rfl (fun _ _ _ k9 => ⟨by decide, k9⟩) ?_
                        refine wn_virS (pc' := 169) rfl rfl (by decide) rfl rfl q0 (Nat.le_of_ble_eq_true rfl) (m_takesF _ _ t n p hn hp hb th tl _ il up lo hv q0 q4 0 (by omega) k0) (fun r9 h48 e49 => ?_)
                        obtain ⟨rfl, e9⟩ := e49
                        rw [e9]
                        show Wn _ _ 169 _ [.int (nI (0))] h _
                        refine wn_ifN (t := 242) (f := 172) rfl rfl rfl (by omega) (fun c50 => ?_) (fun c50 => ?_)
                        · have c50 : 0 = 0 := c50
                          refine wn_ld (pc' := 243) (q := 0) (kin := 2) (v := .ref (71)) rfl (fun _ _ _ => rfl) rfl rfl ?_
                          refine wn_go (pc' := 245) (lv' := [(0, .ref (71)), (1, .int (nI (1))), (2, .int (nI (0)))]) (st' := [.retAddr 2, .ref (71)]) rfl (fun _ _ _ k9 => ⟨by decide, k9⟩) ?_
                          refine wn_virS (pc' := 248) rfl rfl (by decide) rfl rfl q0 (Nat.le_of_ble_eq_true rfl) (m_takesT _ _ t n p hn hp hb th tl _ il up lo hv q0 q4 2 (by omega) k2) (fun r9 h51 e52 => ?_)
                          obtain ⟨rfl, f_h51, vl_h51, hv_h51, o_h51⟩ := e52
                          have fr_h51 := Fr.tr (Fr.rfl' [71] h) f_h51 (fun _ q => q)
                          have := tkF_le (t := t) (p := (tkA t n p)) (tkA_le hp)
                          have := tkA_ge (t := t) (n := n) (p := (tkA t n p))
                          have := tkA_le (t := t) (p := (tkA t n p)) (tkA_le hp)
                          have := tkK_le (t := t) (n := n) (p := (tkA t n p))
                          have g_h51 := wd_gt k2
                          show Wn _ _ 248 _ [.int (nI (1))] h51 _
                          refine wn_ifN (t := 258) (f := 251) rfl rfl rfl (by omega) (fun c53 => ?_) (fun c53 => ?_)
                          · have c53 : 1 = 0 := c53
                            exact absurd c53 (by decide)
                          · have c53 : ¬ 1 = 0 := c53
                            refine wn_ld (pc' := 252) (q := 0) (kin := 2) (v := .ref (71)) rfl (fun _ _ _ => rfl) rfl rfl ?_
                            refine wn_virS (pc' := 255) rfl rfl (by decide) rfl rfl o_h51 (Nat.le_of_ble_eq_true rfl) (m_readRoad _ _ t n (tkA t n p) w hn (tkA_le hp) hb hJ th tl _ il up lo hv_h51 o_h51 ((fr_h51.2 75 (by decide)).trans q4) ((fr_h51.2 77 (by decide)).trans q6) (tkF t n p) (by omega)) (fun r9 h54 e55 => ?_)
                            obtain ⟨rfl, F_h54, r_h54, M_h54, ok_h54, eq_h54⟩ := e55
                            have G_h54 := Fr.tr (Fr.tr (Fr.rfl' [71, 77] h) (fw fr_h51) (fun _ q => q)) F_h54 (fun _ q => q)
                            show Wn _ _ 255 _ [] h54 _
                            refine wn_jp (pc' := 298) rfl rfl ?_
                            refine wn_weak (lv' := [(0, .ref (71))]) (by simp) ?_
                            exact tl9 h54 _ G_h54 M_h54 ok_h54 (Or.inr (Or.inl (⟨k2, eq_h54.symm⟩)))
                        · have c50 : ¬ 0 = 0 := c50
                          exact absurd c50 (by decide)
                      · have c47 : 1 = 0 := c47
                        exact absurd c47 (by decide)
                    · have c46 : ¬ 0 = 0 := c46
                      exact absurd c46 (by decide)
                  · have c45 : ¬ 0 = 0 := c45
                    exact absurd c45 (by decide)
                · have c44 : ¬ 0 = 0 := c44
                  exact absurd c44 (by decide)
          · have c37 : ¬ 0 = 0 := c37
            exact absurd c37 (by decide)
        · have c36 : 1 = 0 := c36
          exact absurd c36 (by decide)
      · have c35 : 1 = 0 := c35
        exact absurd c35 (by decide)
  by_cases k4 : isWd t n p 4
  · have k7 : ¬ isWd t n p 7 := fun q => absurd (isWd_1 (by decide) (by decide) k4 q) (by decide)
    have k8 : ¬ isWd t n p 8 := fun q => absurd (isWd_1 (by decide) (by decide) k4 q) (by decide)
    refine wn_ld (pc' := 1) (q := 0) (kin := 2) (v := .ref (71)) rfl (fun _ _ _ => rfl) rfl rfl ?_
    refine wn_go (pc' := 3) (lv' := [(0, .ref (71))]) (st' := [.retAddr 0, .ref (71)]) rfl (fun _ _ _ k9 => ⟨by decide, k9⟩) ?_
    refine wn_virI (pc' := 6) rfl rfl (by decide) rfl rfl q0 (Nat.le_of_ble_eq_true rfl) (m_is0 _ _ t n p hn hp hb th tl _ il up lo hv q0 q4 0 (by omega)) ?_
    rw [← bI_f0 k0]
    refine wn_ifN (t := 45) (f := 9) rfl rfl rfl (by omega) (fun c56 => ?_) (fun c56 => ?_)
    · have c56 : ¬ 0 = 0 := c56
      exact absurd c56 (by decide)
    · have c56 : 0 = 0 := c56
      refine wn_ld (pc' := 10) (q := 0) (kin := 2) (v := .ref (71)) rfl (fun _ _ _ => rfl) rfl rfl ?_
      refine wn_go (pc' := 12) (lv' := [(0, .ref (71))]) (st' := [.retAddr 2, .ref (71)]) rfl (fun _ _ _ k9 => ⟨by decide, k9⟩) ?_
      refine wn_virI (pc' := 15) rfl rfl (by decide) rfl rfl q0 (Nat.le_of_ble_eq_true rfl) (m_is0 _ _ t n p hn hp hb th tl _ il up lo hv q0 q4 2 (by omega)) ?_
      rw [← bI_f0 k2]
      refine wn_ifN (t := 45) (f := 18) rfl rfl rfl (by omega) (fun c57 => ?_) (fun c57 => ?_)
      · have c57 : ¬ 0 = 0 := c57
        exact absurd c57 (by decide)
      · have c57 : 0 = 0 := c57
        refine wn_ld (pc' := 19) (q := 0) (kin := 2) (v := .ref (71)) rfl (fun _ _ _ => rfl) rfl rfl ?_
        refine wn_go (pc' := 21) (lv' := [(0, .ref (71))]) (st' := [.retAddr 4, .ref (71)]) rfl (fun _ _ _ k9 => ⟨by decide, k9⟩) ?_
        refine wn_virI (pc' := 24) rfl rfl (by decide) rfl rfl q0 (Nat.le_of_ble_eq_true rfl) (m_is0 _ _ t n p hn hp hb th tl _ il up lo hv q0 q4 4 (by omega)) ?_
        rw [← bI_t1 k4]
        refine wn_ifN (t := 45) (f := 27) rfl rfl rfl (by omega) (fun c58 => ?_) (fun c58 => ?_)
        · have c58 : ¬ 1 = 0 := c58
          refine wn_ic (pc' := 46) (w := nI 1) rfl rfl (by decide) ?_
          refine wn_jp (pc' := 50) rfl rfl ?_
          refine wn_st (pc' := 51) (q := 1) (kin := 0) (lv' := [(0, .ref (71)), (1, .int (nI (1)))]) rfl (fun _ _ _ => rfl) rfl (Nat.le_of_ble_eq_true rfl) rfl ?_
          refine wn_ld (pc' := 52) (q := 1) (kin := 0) (v := .int (nI (1))) rfl (fun _ _ _ => rfl) rfl rfl ?_
          refine wn_ifN (t := 60) (f := 55) rfl rfl rfl (by omega) (fun c59 => ?_) (fun c59 => ?_)
          · have c59 : ¬ 1 = 0 := c59
            refine wn_ld (pc' := 61) (q := 0) (kin := 2) (v := .ref (71)) rfl (fun _ _ _ => rfl) rfl rfl ?_
            refine wn_go (pc' := 63) (lv' := [(0, .ref (71)), (1, .int (nI (1)))]) (st' := [.retAddr 0, .ref (71)]) rfl (fun _ _ _ k9 => ⟨by decide, k9⟩) ?_
            refine wn_virI (pc' := 66) rfl rfl (by decide) rfl rfl q0 (Nat.le_of_ble_eq_true rfl) (m_is0 _ _ t n p hn hp hb th tl _ il up lo hv q0 q4 0 (by omega)) ?_
            rw [← bI_f0 k0]
            refine wn_ifN (t := 80) (f := 69) rfl rfl rfl (by omega) (fun c60 => ?_) (fun c60 => ?_)
            · have c60 : 0 = 0 := c60
              refine wn_ld (pc' := 81) (q := 0) (kin := 2) (v := .ref (71)) rfl (fun _ _ _ => rfl) rfl rfl ?_
              refine wn_go (pc' := 83) (lv' := [(0, .ref (71)), (1, .int (nI (1)))]) (st' := [.retAddr 2, .ref (71)]) rfl (fun _ _ _ k9 => ⟨by decide, k9⟩) ?_
              refine wn_virI (pc' := 86) rfl rfl (by decide) rfl rfl q0 (Nat.le_of_ble_eq_true rfl) (m_is0 _ _ t n p hn hp hb th tl _ il up lo hv q0 q4 2 (by omega)) ?_
              rw [← bI_f0 k2]
              refine wn_ifN (t := 100) (f := 89) rfl rfl rfl (by omega) (fun c61 => ?_) (fun c61 => ?_)
              · have c61 : 0 = 0 := c61
                refine wn_ld (pc' := 101) (q := 0) (kin := 2) (v := .ref (71)) rfl (fun _ _ _ => rfl) rfl rfl ?_
                refine wn_go (pc' := 103) (lv' := [(0, .ref (71)), (1, .int (nI (1)))]) (st' := [.retAddr 4, .ref (71)]) rfl (fun _ _ _ k9 => ⟨by decide, k9⟩) ?_
                refine wn_virI (pc' := 106) rfl rfl (by decide) rfl rfl q0 (Nat.le_of_ble_eq_true rfl) (m_is0 _ _ t n p hn hp hb th tl _ il up lo hv q0 q4 4 (by omega)) ?_
                rw [← bI_t1 k4]
                refine wn_ifN (t := 120) (f := 109) rfl rfl rfl (by omega) (fun c62 => ?_) (fun c62 => ?_)
                · have c62 : 1 = 0 := c62
                  exact absurd c62 (by decide)
                · have c62 : ¬ 1 = 0 := c62
                  refine wn_ld (pc' := 110) (q := 0) (kin := 2) (v := .ref (71)) rfl (fun _ _ _ => rfl) rfl rfl ?_
                  refine wn_get (pc' := 113) (v := .ref (77)) rfl rfl q0 rfl ?_
                  refine wn_ic (pc' := 114) (w := nI 3) rfl rfl (by decide) ?_
                  refine wn_ialdv (pc' := 115) (j := 3) (v := (nI (ntW w))) rfl rfl q6 rfl (by omega) (by decide) (e5) ?_
                  refine wn_bp (pc' := 117) (w := nI 10) rfl rfl (by decide) ?_
                  refine wn_icmpN (t := 140) (f := 120) rfl rfl rfl (by omega) (by omega) (fun c63 => ?_) (fun c63 => ?_)
                  · have c63 : (ntW w) = 10 := c63
                    refine wn_ic (pc' := 141) (w := nI 1) rfl rfl (by decide) ?_
                    refine wn_jp (pc' := 145) rfl rfl ?_
                    refine wn_st (pc' := 146) (q := 2) (kin := 0) (lv' := [(0, .ref (71)), (1, .int (nI (1))), (2, .int (nI (1)))]) rfl (fun _ _ _ => rfl) rfl (Nat.le_of_ble_eq_true rfl) rfl ?_
                    refine wn_ld (pc' := 147) (q := 2) (kin := 0) (v := .int (nI (1))) rfl (fun _ _ _ => rfl) rfl rfl ?_
                    refine wn_ifN (t := 155) (f := 150) rfl rfl rfl (by omega) (fun c64 => ?_) (fun c64 => ?_)
                    · have c64 : 1 = 0 := c64
                      exact absurd c64 (by decide)
                    · have c64 : ¬ 1 = 0 := c64
                      refine wn_ld (pc' := 151) (q := 0) (kin := 2) (v := .ref (71)) rfl (fun _ _ _ => rfl) rfl rfl ?_
                      refine wn_ic (pc' := 152) (w := nI 3) rfl rfl (by decide) ?_
                      refine wn_virS (pc' := 155) rfl rfl (by decide) rfl rfl q0 (Nat.le_of_ble_eq_true rfl) (m_errs0 _ _ _ _ _ _ _ _ _ _ _ _ _ q0 (nI (3))) (fun r9 h65 e66 => ?_)
                      obtain ⟨rfl, f_h65, o_h65⟩ := e66
                      have fr_h65 := Fr.tr (Fr.rfl' [71] h) f_h65 (fun _ q => q)
                      show Wn _ _ 155 _ [] h65 _
                      refine wn_ld (pc' := 156) (q := 0) (kin := 2) (v := .ref (71)) rfl (fun _ _ _ => rfl) rfl rfl ?_
                      refine wn_virI (pc' := 159) rfl rfl (by decide) rfl rfl o_h65 (Nat.le_of_ble_eq_true rfl) (m_goodB _ _ _ _ _ _ _ _ _ _ _ _ _ _ (show ¬ nI 3 = 0 by decide) o_h65) ?_
                      refine wn_ifN (t := 163) (f := 162) rfl rfl rfl (by omega) (fun c67 => ?_) (fun c67 => ?_)
                      · have c67 : ¬ 0 = 0 := c67
                        exact absurd c67 (by decide)
                      · have c67 : 0 = 0 := c67
                        have eL : LineR t n p w (.inl (3, tkF t n p)) := Or.inr (Or.inr (Or.inl (⟨k4, (pI_f (by omega)).symm⟩)))
                        exact wn_vret rfl rfl ⟨rfl, (Fr.tr (Fr.rfl' [71, 77] h) (fw fr_h65) (fun _ q => q)), _, eL, MT_l (show ¬ nI 3 = 0 by decide) o_h65 ((fr_h65.2 77 (by decide)).trans q6)⟩
                  · have c63 : ¬ (ntW w) = 10 := c63
                    refine wn_ld (pc' := 121) (q := 0) (kin := 2) (v := .ref (71)) rfl (fun _ _ _ => rfl) rfl rfl ?_
                    refine wn_go (pc' := 123) (lv' := [(0, .ref (71)), (1, .int (nI (1)))]) (st' := [.retAddr 8, .ref (71)]) rfl (fun _ _ _ k9 => ⟨by decide, k9⟩) ?_
                    refine wn_virI (pc' := 126) rfl rfl (by decide) rfl rfl q0 (Nat.le_of_ble_eq_true rfl) (m_is0 _ _ t n p hn hp hb th tl _ il up lo hv q0 q4 8 (by omega)) ?_
                    rw [← bI_f0 k8]
                    refine wn_ifN (t := 144) (f := 129) rfl rfl rfl (by omega) (fun c68 => ?_) (fun c68 => ?_)
                    · have c68 : 0 = 0 := c68
                      refine wn_ic (pc' := 145) (w := nI 0) rfl rfl (by decide) ?_
                      refine wn_st (pc' := 146) (q := 2) (kin := 0) (lv' := [(0, .ref (71)), (1, .int (nI (1))), (2, .int (nI (0)))]) rfl (fun _ _ _ => rfl) rfl (Nat.le_of_ble_eq_true rfl) rfl ?_
                      refine wn_ld (pc' := 147) (q := 2) (kin := 0) (v := .int (nI (0))) rfl (fun _ _ _ => rfl) rfl rfl ?_
                      refine wn_ifN (t := 155) (f := 150) rfl rfl rfl (by omega) (fun c69 => ?_) (fun c69 => ?_)
                      · have c69 : 0 = 0 := c69
                        refine wn_ld (pc' := 156) (q := 0) (kin := 2) (v := .ref (71)) rfl (fun _ _ _ => rfl) rfl rfl ?_
                        refine wn_virI (pc' := 159) rfl rfl (by decide) rfl rfl q0 (Nat.le_of_ble_eq_true rfl) (m_good0 _ _ _ _ _ _ _ _ _ _ _ _ _ q0) ?_
                        refine wn_ifN (t := 163) (f := 162) rfl rfl rfl (by omega) (fun c70 => ?_) (fun c70 => ?_)
                        · have c70 : ¬ 1 = 0 := c70
                          refine wn_ld (pc' := 164) (q := 0) (kin := 2) (v := .ref (71)) rfl (fun _ _ _ => rfl) rfl rfl ?_
                          refine wn_go (pc' := 166) (lv' := [(0, .ref (71)), (1, .int (nI (1))), (2, .int (nI (0)))]) (st' := [.retAddr 0, .ref (71)]) rfl (fun _ _ _ k9 => ⟨by decide, k9⟩) ?_
                          refine wn_virS (pc' := 169) rfl rfl (by decide) rfl rfl q0 (Nat.le_of_ble_eq_true rfl) (m_takesF _ _ t n p hn hp hb th tl _ il up lo hv q0 q4 0 (by omega) k0) (fun r9 h71 e72 => ?_)
                          obtain ⟨rfl, e9⟩ := e72
                          rw [e9]
                          show Wn _ _ 169 _ [.int (nI (0))] h _
                          refine wn_ifN (t := 242) (f := 172) rfl rfl rfl (by omega) (fun c73 => ?_) (fun c73 => ?_)
                          · have c73 : 0 = 0 := c73
                            refine wn_ld (pc' := 243) (q := 0) (kin := 2) (v := .ref (71)) rfl (fun _ _ _ => rfl) rfl rfl ?_
                            refine wn_go (pc' := 245) (lv' := [(0, .ref (71)), (1, .int (nI (1))), (2, .int (nI (0)))]) (st' := [.retAddr 2, .ref (71)]) rfl (fun _ _ _ k9 => ⟨by decide, k9⟩) ?_
                            refine wn_virS (pc' := 248) rfl rfl (by decide) rfl rfl q0 (Nat.le_of_ble_eq_true rfl) (m_takesF _ _ t n p hn hp hb th tl _ il up lo hv q0 q4 2 (by omega) k2) (fun r9 h74 e75 => ?_)
                            obtain ⟨rfl, e9⟩ := e75
                            rw [e9]
                            show Wn _ _ 248 _ [.int (nI (0))] h _
                            refine wn_ifN (t := 258) (f := 251) rfl rfl rfl (by omega) (fun c76 => ?_) (fun c76 => ?_)
                            · have c76 : 0 = 0 := c76
                              refine wn_ld (pc' := 259) (q := 0) (kin := 2) (v := .ref (71)) rfl (fun _ _ _ => rfl) rfl rfl ?_
                              refine wn_go (pc' := 261) (lv' := [(0, .ref (71)), (1, .int (nI (1))), (2, .int (nI (0)))]) (st' := [.retAddr 4, .ref (71)]) rfl (fun _ _ _ k9 => ⟨by decide, k9⟩) ?_
                              refine wn_virS (pc' := 264) rfl rfl (by decide) rfl rfl q0 (Nat.le_of_ble_eq_true rfl) (m_takesT _ _ t n p hn hp hb th tl _ il up lo hv q0 q4 4 (by omega) k4) (fun r9 h77 e78 => ?_)
                              obtain ⟨rfl, f_h77, vl_h77, hv_h77, o_h77⟩ := e78
                              have fr_h77 := Fr.tr (Fr.rfl' [71] h) f_h77 (fun _ q => q)
                              have := tkF_le (t := t) (p := (tkA t n p)) (tkA_le hp)
                              have := tkA_ge (t := t) (n := n) (p := (tkA t n p))
                              have := tkA_le (t := t) (p := (tkA t n p)) (tkA_le hp)
                              have := tkK_le (t := t) (n := n) (p := (tkA t n p))
                              have g_h77 := wd_gt k4
                              show Wn _ _ 264 _ [.int (nI (1))] h77 _
                              refine wn_ifN (t := 274) (f := 267) rfl rfl rfl (by omega) (fun c79 => ?_) (fun c79 => ?_)
                              · have c79 : 1 = 0 := c79
                                exact absurd c79 (by decide)
                              · have c79 : ¬ 1 = 0 := c79
                                refine wn_ld (pc' := 268) (q := 0) (kin := 2) (v := .ref (71)) rfl (fun _ _ _ => rfl) rfl rfl ?_
                                refine wn_virS (pc' := 271) rfl rfl (by decide) rfl rfl o_h77 (Nat.le_of_ble_eq_true rfl) (m_readItem _ _ t n (tkA t n p) w hn (tkA_le hp) hb hJ th tl _ il up lo hv_h77 o_h77 ((fr_h77.2 75 (by decide)).trans q4) ((fr_h77.2 77 (by decide)).trans q6) (tkF t n p) (by omega)) (fun r9 h80 e81 => ?_)
                                obtain ⟨rfl, F_h80, r_h80, M_h80, ok_h80, eq_h80⟩ := e81
                                have G_h80 := Fr.tr (Fr.tr (Fr.rfl' [71, 77] h) (fw fr_h77) (fun _ q => q)) F_h80 (fun _ q => q)
                                show Wn _ _ 271 _ [] h80 _
                                refine wn_jp (pc' := 298) rfl rfl ?_
                                refine wn_weak (lv' := [(0, .ref (71))]) (by simp) ?_
                                exact tl9 h80 _ G_h80 M_h80 ok_h80 (Or.inr (Or.inr (Or.inl (⟨k4, eq_h80.symm⟩))))
                            · have c76 : ¬ 0 = 0 := c76
                              exact absurd c76 (by decide)
                          · have c73 : ¬ 0 = 0 := c73
                            exact absurd c73 (by decide)
                        · have c70 : 1 = 0 := c70
                          exact absurd c70 (by decide)
                      · have c69 : ¬ 0 = 0 := c69
                        exact absurd c69 (by decide)
                    · have c68 : ¬ 0 = 0 := c68
                      exact absurd c68 (by decide)
              · have c61 : ¬ 0 = 0 := c61
                exact absurd c61 (by decide)
            · have c60 : ¬ 0 = 0 := c60
              exact absurd c60 (by decide)
          · have c59 : 1 = 0 := c59
            exact absurd c59 (by decide)
        · have c58 : 1 = 0 := c58
          exact absurd c58 (by decide)
  by_cases k7 : isWd t n p 7
  · have k8 : ¬ isWd t n p 8 := fun q => absurd (isWd_1 (by decide) (by decide) k7 q) (by decide)
    refine wn_ld (pc' := 1) (q := 0) (kin := 2) (v := .ref (71)) rfl (fun _ _ _ => rfl) rfl rfl ?_
    refine wn_go (pc' := 3) (lv' := [(0, .ref (71))]) (st' := [.retAddr 0, .ref (71)]) rfl (fun _ _ _ k9 => ⟨by decide, k9⟩) ?_
    refine wn_virI (pc' := 6) rfl rfl (by decide) rfl rfl q0 (Nat.le_of_ble_eq_true rfl) (m_is0 _ _ t n p hn hp hb th tl _ il up lo hv q0 q4 0 (by omega)) ?_
    rw [← bI_f0 k0]
    refine wn_ifN (t := 45) (f := 9) rfl rfl rfl (by omega) (fun c82 => ?_) (fun c82 => ?_)
    · have c82 : ¬ 0 = 0 := c82
      exact absurd c82 (by decide)
    · have c82 : 0 = 0 := c82
      refine wn_ld (pc' := 10) (q := 0) (kin := 2) (v := .ref (71)) rfl (fun _ _ _ => rfl) rfl rfl ?_
      refine wn_go (pc' := 12) (lv' := [(0, .ref (71))]) (st' := [.retAddr 2, .ref (71)]) rfl (fun _ _ _ k9 => ⟨by decide, k9⟩) ?_
      refine wn_virI (pc' := 15) rfl rfl (by decide) rfl rfl q0 (Nat.le_of_ble_eq_true rfl) (m_is0 _ _ t n p hn hp hb th tl _ il up lo hv q0 q4 2 (by omega)) ?_
      rw [← bI_f0 k2]
      refine wn_ifN (t := 45) (f := 18) rfl rfl rfl (by omega) (fun c83 => ?_) (fun c83 => ?_)
      · have c83 : ¬ 0 = 0 := c83
        exact absurd c83 (by decide)
      · have c83 : 0 = 0 := c83
        refine wn_ld (pc' := 19) (q := 0) (kin := 2) (v := .ref (71)) rfl (fun _ _ _ => rfl) rfl rfl ?_
        refine wn_go (pc' := 21) (lv' := [(0, .ref (71))]) (st' := [.retAddr 4, .ref (71)]) rfl (fun _ _ _ k9 => ⟨by decide, k9⟩) ?_
        refine wn_virI (pc' := 24) rfl rfl (by decide) rfl rfl q0 (Nat.le_of_ble_eq_true rfl) (m_is0 _ _ t n p hn hp hb th tl _ il up lo hv q0 q4 4 (by omega)) ?_
        rw [← bI_f0 k4]
        refine wn_ifN (t := 45) (f := 27) rfl rfl rfl (by omega) (fun c84 => ?_) (fun c84 => ?_)
        · have c84 : ¬ 0 = 0 := c84
          exact absurd c84 (by decide)
        · have c84 : 0 = 0 := c84
          refine wn_ld (pc' := 28) (q := 0) (kin := 2) (v := .ref (71)) rfl (fun _ _ _ => rfl) rfl rfl ?_
          refine wn_go (pc' := 30) (lv' := [(0, .ref (71))]) (st' := [.retAddr 7, .ref (71)]) rfl (fun _ _ _ k9 => ⟨by decide, k9⟩) ?_
          refine wn_virI (pc' := 33) rfl rfl (by decide) rfl rfl q0 (Nat.le_of_ble_eq_true rfl) (m_is0 _ _ t n p hn hp hb th tl _ il up lo hv q0 q4 7 (by omega)) ?_
          rw [← bI_t1 k7]
          refine wn_ifN (t := 45) (f := 36) rfl rfl rfl (by omega) (fun c85 => ?_) (fun c85 => ?_)
          · have c85 : ¬ 1 = 0 := c85
            refine wn_ic (pc' := 46) (w := nI 1) rfl rfl (by decide) ?_
            refine wn_jp (pc' := 50) rfl rfl ?_
            refine wn_st (pc' := 51) (q := 1) (kin := 0) (lv' := [(0, .ref (71)), (1, .int (nI (1)))]) rfl (fun _ _ _ => rfl) rfl (Nat.le_of_ble_eq_true rfl) rfl ?_
            refine wn_ld (pc' := 52) (q := 1) (kin := 0) (v := .int (nI (1))) rfl (fun _ _ _ => rfl) rfl rfl ?_
            refine wn_ifN (t := 60) (f := 55) rfl rfl rfl (by omega) (fun c86 => ?_) (fun c86 => ?_)
            · have c86 : ¬ 1 = 0 := c86
              refine wn_ld (pc' := 61) (q := 0) (kin := 2) (v := .ref (71)) rfl (fun _ _ _ => rfl) rfl rfl ?_
              refine wn_go (pc' := 63) (lv' := [(0, .ref (71)), (1, .int (nI (1)))]) (st' := [.retAddr 0, .ref (71)]) rfl (fun _ _ _ k9 => ⟨by decide, k9⟩) ?_
              refine wn_virI (pc' := 66) rfl rfl (by decide) rfl rfl q0 (Nat.le_of_ble_eq_true rfl) (m_is0 _ _ t n p hn hp hb th tl _ il up lo hv q0 q4 0 (by omega)) ?_
              rw [← bI_f0 k0]
              refine wn_ifN (t := 80) (f := 69) rfl rfl rfl (by omega) (fun c87 => ?_) (fun c87 => ?_)
              · have c87 : 0 = 0 := c87
                refine wn_ld (pc' := 81) (q := 0) (kin := 2) (v := .ref (71)) rfl (fun _ _ _ => rfl) rfl rfl ?_
                refine wn_go (pc' := 83) (lv' := [(0, .ref (71)), (1, .int (nI (1)))]) (st' := [.retAddr 2, .ref (71)]) rfl (fun _ _ _ k9 => ⟨by decide, k9⟩) ?_
                refine wn_virI (pc' := 86) rfl rfl (by decide) rfl rfl q0 (Nat.le_of_ble_eq_true rfl) (m_is0 _ _ t n p hn hp hb th tl _ il up lo hv q0 q4 2 (by omega)) ?_
                rw [← bI_f0 k2]
                refine wn_ifN (t := 100) (f := 89) rfl rfl rfl (by omega) (fun c88 => ?_) (fun c88 => ?_)
                · have c88 : 0 = 0 := c88
                  refine wn_ld (pc' := 101) (q := 0) (kin := 2) (v := .ref (71)) rfl (fun _ _ _ => rfl) rfl rfl ?_
                  refine wn_go (pc' := 103) (lv' := [(0, .ref (71)), (1, .int (nI (1)))]) (st' := [.retAddr 4, .ref (71)]) rfl (fun _ _ _ k9 => ⟨by decide, k9⟩) ?_
                  refine wn_virI (pc' := 106) rfl rfl (by decide) rfl rfl q0 (Nat.le_of_ble_eq_true rfl) (m_is0 _ _ t n p hn hp hb th tl _ il up lo hv q0 q4 4 (by omega)) ?_
                  rw [← bI_f0 k4]
                  refine wn_ifN (t := 120) (f := 109) rfl rfl rfl (by omega) (fun c89 => ?_) (fun c89 => ?_)
                  · have c89 : 0 = 0 := c89
                    refine wn_ld (pc' := 121) (q := 0) (kin := 2) (v := .ref (71)) rfl (fun _ _ _ => rfl) rfl rfl ?_
                    refine wn_go (pc' := 123) (lv' := [(0, .ref (71)), (1, .int (nI (1)))]) (st' := [.retAddr 8, .ref (71)]) rfl (fun _ _ _ k9 => ⟨by decide, k9⟩) ?_
                    refine wn_virI (pc' := 126) rfl rfl (by decide) rfl rfl q0 (Nat.le_of_ble_eq_true rfl) (m_is0 _ _ t n p hn hp hb th tl _ il up lo hv q0 q4 8 (by omega)) ?_
                    rw [← bI_f0 k8]
                    refine wn_ifN (t := 144) (f := 129) rfl rfl rfl (by omega) (fun c90 => ?_) (fun c90 => ?_)
                    · have c90 : 0 = 0 := c90
                      refine wn_ic (pc' := 145) (w := nI 0) rfl rfl (by decide) ?_
                      refine wn_st (pc' := 146) (q := 2) (kin := 0) (lv' := [(0, .ref (71)), (1, .int (nI (1))), (2, .int (nI (0)))]) rfl (fun _ _ _ => rfl) rfl (Nat.le_of_ble_eq_true rfl) rfl ?_
                      refine wn_ld (pc' := 147) (q := 2) (kin := 0) (v := .int (nI (0))) rfl (fun _ _ _ => rfl) rfl rfl ?_
                      refine wn_ifN (t := 155) (f := 150) rfl rfl rfl (by omega) (fun c91 => ?_) (fun c91 => ?_)
                      · have c91 : 0 = 0 := c91
                        refine wn_ld (pc' := 156) (q := 0) (kin := 2) (v := .ref (71)) rfl (fun _ _ _ => rfl) rfl rfl ?_
                        refine wn_virI (pc' := 159) rfl rfl (by decide) rfl rfl q0 (Nat.le_of_ble_eq_true rfl) (m_good0 _ _ _ _ _ _ _ _ _ _ _ _ _ q0) ?_
                        refine wn_ifN (t := 163) (f := 162) rfl rfl rfl (by omega) (fun c92 => ?_) (fun c92 => ?_)
                        · have c92 : ¬ 1 = 0 := c92
                          refine wn_ld (pc' := 164) (q := 0) (kin := 2) (v := .ref (71)) rfl (fun _ _ _ => rfl) rfl rfl ?_
                          refine wn_go (pc' := 166) (lv' := [(0, .ref (71)), (1, .int (nI (1))), (2, .int (nI (0)))]) (st' := [.retAddr 0, .ref (71)]) rfl (fun _ _ _ k9 => ⟨by decide, k9⟩) ?_
                          refine wn_virS (pc' := 169) rfl rfl (by decide) rfl rfl q0 (Nat.le_of_ble_eq_true rfl) (m_takesF _ _ t n p hn hp hb th tl _ il up lo hv q0 q4 0 (by omega) k0) (fun r9 h93 e94 => ?_)
                          obtain ⟨rfl, e9⟩ := e94
                          rw [e9]
                          show Wn _ _ 169 _ [.int (nI (0))] h _
                          refine wn_ifN (t := 242) (f := 172) rfl rfl rfl (by omega) (fun c95 => ?_) (fun c95 => ?_)
                          · have c95 : 0 = 0 := c95
                            refine wn_ld (pc' := 243) (q := 0) (kin := 2) (v := .ref (71)) rfl (fun _ _ _ => rfl) rfl rfl ?_
                            refine wn_go (pc' := 245) (lv' := [(0, .ref (71)), (1, .int (nI (1))), (2, .int (nI (0)))]) (st' := [.retAddr 2, .ref (71)]) rfl (fun _ _ _ k9 => ⟨by decide, k9⟩) ?_
                            refine wn_virS (pc' := 248) rfl rfl (by decide) rfl rfl q0 (Nat.le_of_ble_eq_true rfl) (m_takesF _ _ t n p hn hp hb th tl _ il up lo hv q0 q4 2 (by omega) k2) (fun r9 h96 e97 => ?_)
                            obtain ⟨rfl, e9⟩ := e97
                            rw [e9]
                            show Wn _ _ 248 _ [.int (nI (0))] h _
                            refine wn_ifN (t := 258) (f := 251) rfl rfl rfl (by omega) (fun c98 => ?_) (fun c98 => ?_)
                            · have c98 : 0 = 0 := c98
                              refine wn_ld (pc' := 259) (q := 0) (kin := 2) (v := .ref (71)) rfl (fun _ _ _ => rfl) rfl rfl ?_
                              refine wn_go (pc' := 261) (lv' := [(0, .ref (71)), (1, .int (nI (1))), (2, .int (nI (0)))]) (st' := [.retAddr 4, .ref (71)]) rfl (fun _ _ _ k9 => ⟨by decide, k9⟩) ?_
                              refine wn_virS (pc' := 264) rfl rfl (by decide) rfl rfl q0 (Nat.le_of_ble_eq_true rfl) (m_takesF _ _ t n p hn hp hb th tl _ il up lo hv q0 q4 4 (by omega) k4) (fun r9 h99 e100 => ?_)
                              obtain ⟨rfl, e9⟩ := e100
                              rw [e9]
                              show Wn _ _ 264 _ [.int (nI (0))] h _
                              refine wn_ifN (t := 274) (f := 267) rfl rfl rfl (by omega) (fun c101 => ?_) (fun c101 => ?_)
                              · have c101 : 0 = 0 := c101
                                refine wn_ld (pc' := 275) (q := 0) (kin := 2) (v := .ref (71)) rfl (fun _ _ _ => rfl) rfl rfl ?_
                                refine wn_go (pc' := 277) (lv' := [(0, .ref (71)), (1, .int (nI (1))), (2, .int (nI (0)))]) (st' := [.retAddr 7, .ref (71)]) rfl (fun _ _ _ k9 => ⟨by decide, k9⟩) ?_
                                refine wn_virS (pc' := 280) rfl rfl (by decide) rfl rfl q0 (Nat.le_of_ble_eq_true rfl) (m_takesT _ _ t n p hn hp hb th tl _ il up lo hv q0 q4 7 (by omega) k7) (fun r9 h102 e103 => ?_)
                                obtain ⟨rfl, f_h102, vl_h102, hv_h102, o_h102⟩ := e103
                                have fr_h102 := Fr.tr (Fr.rfl' [71] h) f_h102 (fun _ q => q)
                                have := tkF_le (t := t) (p := (tkA t n p)) (tkA_le hp)
                                have := tkA_ge (t := t) (n := n) (p := (tkA t n p))
                                have := tkA_le (t := t) (p := (tkA t n p)) (tkA_le hp)
                                have := tkK_le (t := t) (n := n) (p := (tkA t n p))
                                have g_h102 := wd_gt k7
                                show Wn _ _ 280 _ [.int (nI (1))] h102 _
                                refine wn_ifN (t := 290) (f := 283) rfl rfl rfl (by omega) (fun c104 => ?_) (fun c104 => ?_)
                                · have c104 : 1 = 0 := c104
                                  exact absurd c104 (by decide)
                                · have c104 : ¬ 1 = 0 := c104
                                  refine wn_ld (pc' := 284) (q := 0) (kin := 2) (v := .ref (71)) rfl (fun _ _ _ => rfl) rfl rfl ?_
                                  refine wn_virS (pc' := 287) rfl rfl (by decide) rfl rfl o_h102 (Nat.le_of_ble_eq_true rfl) (m_readSays _ _ t n (tkA t n p) w hn (tkA_le hp) hb hJ th tl _ il up lo hv_h102 o_h102 ((fr_h102.2 75 (by decide)).trans q4) ((fr_h102.2 77 (by decide)).trans q6)) (fun r9 h105 e106 => ?_)
                                  obtain ⟨rfl, F_h105, r_h105, M_h105, ok_h105, eq_h105⟩ := e106
                                  have G_h105 := Fr.tr (Fr.tr (Fr.rfl' [71, 77] h) (fw fr_h102) (fun _ q => q)) F_h105 (fun _ q => q)
                                  show Wn _ _ 287 _ [] h105 _
                                  refine wn_jp (pc' := 298) rfl rfl ?_
                                  refine wn_weak (lv' := [(0, .ref (71))]) (by simp) ?_
                                  exact tl9 h105 _ G_h105 M_h105 ok_h105 (Or.inr (Or.inr (Or.inr (Or.inl (⟨k7, eq_h105.symm⟩)))))
                              · have c101 : ¬ 0 = 0 := c101
                                exact absurd c101 (by decide)
                            · have c98 : ¬ 0 = 0 := c98
                              exact absurd c98 (by decide)
                          · have c95 : ¬ 0 = 0 := c95
                            exact absurd c95 (by decide)
                        · have c92 : 1 = 0 := c92
                          exact absurd c92 (by decide)
                      · have c91 : ¬ 0 = 0 := c91
                        exact absurd c91 (by decide)
                    · have c90 : ¬ 0 = 0 := c90
                      exact absurd c90 (by decide)
                  · have c89 : ¬ 0 = 0 := c89
                    exact absurd c89 (by decide)
                · have c88 : ¬ 0 = 0 := c88
                  exact absurd c88 (by decide)
              · have c87 : ¬ 0 = 0 := c87
                exact absurd c87 (by decide)
            · have c86 : 1 = 0 := c86
              exact absurd c86 (by decide)
          · have c85 : 1 = 0 := c85
            exact absurd c85 (by decide)
  by_cases k8 : isWd t n p 8
  · have l9 := litL3
    refine wn_ld (pc' := 1) (q := 0) (kin := 2) (v := .ref (71)) rfl (fun _ _ _ => rfl) rfl rfl ?_
    refine wn_go (pc' := 3) (lv' := [(0, .ref (71))]) (st' := [.retAddr 0, .ref (71)]) rfl (fun _ _ _ k9 => ⟨by decide, k9⟩) ?_
    refine wn_virI (pc' := 6) rfl rfl (by decide) rfl rfl q0 (Nat.le_of_ble_eq_true rfl) (m_is0 _ _ t n p hn hp hb th tl _ il up lo hv q0 q4 0 (by omega)) ?_
    rw [← bI_f0 k0]
    refine wn_ifN (t := 45) (f := 9) rfl rfl rfl (by omega) (fun c107 => ?_) (fun c107 => ?_)
    · have c107 : ¬ 0 = 0 := c107
      exact absurd c107 (by decide)
    · have c107 : 0 = 0 := c107
      refine wn_ld (pc' := 10) (q := 0) (kin := 2) (v := .ref (71)) rfl (fun _ _ _ => rfl) rfl rfl ?_
      refine wn_go (pc' := 12) (lv' := [(0, .ref (71))]) (st' := [.retAddr 2, .ref (71)]) rfl (fun _ _ _ k9 => ⟨by decide, k9⟩) ?_
      refine wn_virI (pc' := 15) rfl rfl (by decide) rfl rfl q0 (Nat.le_of_ble_eq_true rfl) (m_is0 _ _ t n p hn hp hb th tl _ il up lo hv q0 q4 2 (by omega)) ?_
      rw [← bI_f0 k2]
      refine wn_ifN (t := 45) (f := 18) rfl rfl rfl (by omega) (fun c108 => ?_) (fun c108 => ?_)
      · have c108 : ¬ 0 = 0 := c108
        exact absurd c108 (by decide)
      · have c108 : 0 = 0 := c108
        refine wn_ld (pc' := 19) (q := 0) (kin := 2) (v := .ref (71)) rfl (fun _ _ _ => rfl) rfl rfl ?_
        refine wn_go (pc' := 21) (lv' := [(0, .ref (71))]) (st' := [.retAddr 4, .ref (71)]) rfl (fun _ _ _ k9 => ⟨by decide, k9⟩) ?_
        refine wn_virI (pc' := 24) rfl rfl (by decide) rfl rfl q0 (Nat.le_of_ble_eq_true rfl) (m_is0 _ _ t n p hn hp hb th tl _ il up lo hv q0 q4 4 (by omega)) ?_
        rw [← bI_f0 k4]
        refine wn_ifN (t := 45) (f := 27) rfl rfl rfl (by omega) (fun c109 => ?_) (fun c109 => ?_)
        · have c109 : ¬ 0 = 0 := c109
          exact absurd c109 (by decide)
        · have c109 : 0 = 0 := c109
          refine wn_ld (pc' := 28) (q := 0) (kin := 2) (v := .ref (71)) rfl (fun _ _ _ => rfl) rfl rfl ?_
          refine wn_go (pc' := 30) (lv' := [(0, .ref (71))]) (st' := [.retAddr 7, .ref (71)]) rfl (fun _ _ _ k9 => ⟨by decide, k9⟩) ?_
          refine wn_virI (pc' := 33) rfl rfl (by decide) rfl rfl q0 (Nat.le_of_ble_eq_true rfl) (m_is0 _ _ t n p hn hp hb th tl _ il up lo hv q0 q4 7 (by omega)) ?_
          rw [← bI_f0 k7]
          refine wn_ifN (t := 45) (f := 36) rfl rfl rfl (by omega) (fun c110 => ?_) (fun c110 => ?_)
          · have c110 : ¬ 0 = 0 := c110
            exact absurd c110 (by decide)
          · have c110 : 0 = 0 := c110
            refine wn_ld (pc' := 37) (q := 0) (kin := 2) (v := .ref (71)) rfl (fun _ _ _ => rfl) rfl rfl ?_
            refine wn_go (pc' := 39) (lv' := [(0, .ref (71))]) (st' := [.retAddr 8, .ref (71)]) rfl (fun _ _ _ k9 => ⟨by decide, k9⟩) ?_
            refine wn_virI (pc' := 42) rfl rfl (by decide) rfl rfl q0 (Nat.le_of_ble_eq_true rfl) (m_is0 _ _ t n p hn hp hb th tl _ il up lo hv q0 q4 8 (by omega)) ?_
            rw [← bI_t1 k8]
            refine wn_ifN (t := 49) (f := 45) rfl rfl rfl (by omega) (fun c111 => ?_) (fun c111 => ?_)
            · have c111 : 1 = 0 := c111
              exact absurd c111 (by decide)
            · have c111 : ¬ 1 = 0 := c111
              refine wn_ic (pc' := 46) (w := nI 1) rfl rfl (by decide) ?_
              refine wn_jp (pc' := 50) rfl rfl ?_
              refine wn_st (pc' := 51) (q := 1) (kin := 0) (lv' := [(0, .ref (71)), (1, .int (nI (1)))]) rfl (fun _ _ _ => rfl) rfl (Nat.le_of_ble_eq_true rfl) rfl ?_
              refine wn_ld (pc' := 52) (q := 1) (kin := 0) (v := .int (nI (1))) rfl (fun _ _ _ => rfl) rfl rfl ?_
              refine wn_ifN (t := 60) (f := 55) rfl rfl rfl (by omega) (fun c112 => ?_) (fun c112 => ?_)
              · have c112 : ¬ 1 = 0 := c112
                refine wn_ld (pc' := 61) (q := 0) (kin := 2) (v := .ref (71)) rfl (fun _ _ _ => rfl) rfl rfl ?_
                refine wn_go (pc' := 63) (lv' := [(0, .ref (71)), (1, .int (nI (1)))]) (st' := [.retAddr 0, .ref (71)]) rfl (fun _ _ _ k9 => ⟨by decide, k9⟩) ?_
                refine wn_virI (pc' := 66) rfl rfl (by decide) rfl rfl q0 (Nat.le_of_ble_eq_true rfl) (m_is0 _ _ t n p hn hp hb th tl _ il up lo hv q0 q4 0 (by omega)) ?_
                rw [← bI_f0 k0]
                refine wn_ifN (t := 80) (f := 69) rfl rfl rfl (by omega) (fun c113 => ?_) (fun c113 => ?_)
                · have c113 : 0 = 0 := c113
                  refine wn_ld (pc' := 81) (q := 0) (kin := 2) (v := .ref (71)) rfl (fun _ _ _ => rfl) rfl rfl ?_
                  refine wn_go (pc' := 83) (lv' := [(0, .ref (71)), (1, .int (nI (1)))]) (st' := [.retAddr 2, .ref (71)]) rfl (fun _ _ _ k9 => ⟨by decide, k9⟩) ?_
                  refine wn_virI (pc' := 86) rfl rfl (by decide) rfl rfl q0 (Nat.le_of_ble_eq_true rfl) (m_is0 _ _ t n p hn hp hb th tl _ il up lo hv q0 q4 2 (by omega)) ?_
                  rw [← bI_f0 k2]
                  refine wn_ifN (t := 100) (f := 89) rfl rfl rfl (by omega) (fun c114 => ?_) (fun c114 => ?_)
                  · have c114 : 0 = 0 := c114
                    refine wn_ld (pc' := 101) (q := 0) (kin := 2) (v := .ref (71)) rfl (fun _ _ _ => rfl) rfl rfl ?_
                    refine wn_go (pc' := 103) (lv' := [(0, .ref (71)), (1, .int (nI (1)))]) (st' := [.retAddr 4, .ref (71)]) rfl (fun _ _ _ k9 => ⟨by decide, k9⟩) ?_
                    refine wn_virI (pc' := 106) rfl rfl (by decide) rfl rfl q0 (Nat.le_of_ble_eq_true rfl) (m_is0 _ _ t n p hn hp hb th tl _ il up lo hv q0 q4 4 (by omega)) ?_
                    rw [← bI_f0 k4]
                    refine wn_ifN (t := 120) (f := 109) rfl rfl rfl (by omega) (fun c115 => ?_) (fun c115 => ?_)
                    · have c115 : 0 = 0 := c115
                      refine wn_ld (pc' := 121) (q := 0) (kin := 2) (v := .ref (71)) rfl (fun _ _ _ => rfl) rfl rfl ?_
                      refine wn_go (pc' := 123) (lv' := [(0, .ref (71)), (1, .int (nI (1)))]) (st' := [.retAddr 8, .ref (71)]) rfl (fun _ _ _ k9 => ⟨by decide, k9⟩) ?_
                      refine wn_virI (pc' := 126) rfl rfl (by decide) rfl rfl q0 (Nat.le_of_ble_eq_true rfl) (m_is0 _ _ t n p hn hp hb th tl _ il up lo hv q0 q4 8 (by omega)) ?_
                      rw [← bI_t1 k8]
                      refine wn_ifN (t := 144) (f := 129) rfl rfl rfl (by omega) (fun c116 => ?_) (fun c116 => ?_)
                      · have c116 : 1 = 0 := c116
                        exact absurd c116 (by decide)
                      · have c116 : ¬ 1 = 0 := c116
                        refine wn_ld (pc' := 130) (q := 0) (kin := 2) (v := .ref (71)) rfl (fun _ _ _ => rfl) rfl rfl ?_
                        refine wn_get (pc' := 133) (v := .ref (77)) rfl rfl q0 rfl ?_
                        refine wn_ic (pc' := 134) (w := nI 4) rfl rfl (by decide) ?_
                        refine wn_ialdv (pc' := 135) (j := 4) (v := (nI (nlW w))) rfl rfl q6 rfl (by omega) (by decide) (e7) ?_
                        refine wn_bp (pc' := 137) (w := nI 20) rfl rfl (by decide) ?_
                        refine wn_icmpN (t := 144) (f := 140) rfl rfl rfl (by omega) (by omega) (fun c117 => ?_) (fun c117 => ?_)
                        · have c117 : ¬ (nlW w) = 20 := c117
                          refine wn_ic (pc' := 145) (w := nI 0) rfl rfl (by decide) ?_
                          refine wn_st (pc' := 146) (q := 2) (kin := 0) (lv' := [(0, .ref (71)), (1, .int (nI (1))), (2, .int (nI (0)))]) rfl (fun _ _ _ => rfl) rfl (Nat.le_of_ble_eq_true rfl) rfl ?_
                          refine wn_ld (pc' := 147) (q := 2) (kin := 0) (v := .int (nI (0))) rfl (fun _ _ _ => rfl) rfl rfl ?_
                          refine wn_ifN (t := 155) (f := 150) rfl rfl rfl (by omega) (fun c118 => ?_) (fun c118 => ?_)
                          · have c118 : 0 = 0 := c118
                            refine wn_ld (pc' := 156) (q := 0) (kin := 2) (v := .ref (71)) rfl (fun _ _ _ => rfl) rfl rfl ?_
                            refine wn_virI (pc' := 159) rfl rfl (by decide) rfl rfl q0 (Nat.le_of_ble_eq_true rfl) (m_good0 _ _ _ _ _ _ _ _ _ _ _ _ _ q0) ?_
                            refine wn_ifN (t := 163) (f := 162) rfl rfl rfl (by omega) (fun c119 => ?_) (fun c119 => ?_)
                            · have c119 : ¬ 1 = 0 := c119
                              refine wn_ld (pc' := 164) (q := 0) (kin := 2) (v := .ref (71)) rfl (fun _ _ _ => rfl) rfl rfl ?_
                              refine wn_go (pc' := 166) (lv' := [(0, .ref (71)), (1, .int (nI (1))), (2, .int (nI (0)))]) (st' := [.retAddr 0, .ref (71)]) rfl (fun _ _ _ k9 => ⟨by decide, k9⟩) ?_
                              refine wn_virS (pc' := 169) rfl rfl (by decide) rfl rfl q0 (Nat.le_of_ble_eq_true rfl) (m_takesF _ _ t n p hn hp hb th tl _ il up lo hv q0 q4 0 (by omega) k0) (fun r9 h120 e121 => ?_)
                              obtain ⟨rfl, e9⟩ := e121
                              rw [e9]
                              show Wn _ _ 169 _ [.int (nI (0))] h _
                              refine wn_ifN (t := 242) (f := 172) rfl rfl rfl (by omega) (fun c122 => ?_) (fun c122 => ?_)
                              · have c122 : 0 = 0 := c122
                                refine wn_ld (pc' := 243) (q := 0) (kin := 2) (v := .ref (71)) rfl (fun _ _ _ => rfl) rfl rfl ?_
                                refine wn_go (pc' := 245) (lv' := [(0, .ref (71)), (1, .int (nI (1))), (2, .int (nI (0)))]) (st' := [.retAddr 2, .ref (71)]) rfl (fun _ _ _ k9 => ⟨by decide, k9⟩) ?_
                                refine wn_virS (pc' := 248) rfl rfl (by decide) rfl rfl q0 (Nat.le_of_ble_eq_true rfl) (m_takesF _ _ t n p hn hp hb th tl _ il up lo hv q0 q4 2 (by omega) k2) (fun r9 h123 e124 => ?_)
                                obtain ⟨rfl, e9⟩ := e124
                                rw [e9]
                                show Wn _ _ 248 _ [.int (nI (0))] h _
                                refine wn_ifN (t := 258) (f := 251) rfl rfl rfl (by omega) (fun c125 => ?_) (fun c125 => ?_)
                                · have c125 : 0 = 0 := c125
                                  refine wn_ld (pc' := 259) (q := 0) (kin := 2) (v := .ref (71)) rfl (fun _ _ _ => rfl) rfl rfl ?_
                                  refine wn_go (pc' := 261) (lv' := [(0, .ref (71)), (1, .int (nI (1))), (2, .int (nI (0)))]) (st' := [.retAddr 4, .ref (71)]) rfl (fun _ _ _ k9 => ⟨by decide, k9⟩) ?_
                                  refine wn_virS (pc' := 264) rfl rfl (by decide) rfl rfl q0 (Nat.le_of_ble_eq_true rfl) (m_takesF _ _ t n p hn hp hb th tl _ il up lo hv q0 q4 4 (by omega) k4) (fun r9 h126 e127 => ?_)
                                  obtain ⟨rfl, e9⟩ := e127
                                  rw [e9]
                                  show Wn _ _ 264 _ [.int (nI (0))] h _
                                  refine wn_ifN (t := 274) (f := 267) rfl rfl rfl (by omega) (fun c128 => ?_) (fun c128 => ?_)
                                  · have c128 : 0 = 0 := c128
                                    refine wn_ld (pc' := 275) (q := 0) (kin := 2) (v := .ref (71)) rfl (fun _ _ _ => rfl) rfl rfl ?_
                                    refine wn_go (pc' := 277) (lv' := [(0, .ref (71)), (1, .int (nI (1))), (2, .int (nI (0)))]) (st' := [.retAddr 7, .ref (71)]) rfl (fun _ _ _ k9 => ⟨by decide, k9⟩) ?_
                                    refine wn_virS (pc' := 280) rfl rfl (by decide) rfl rfl q0 (Nat.le_of_ble_eq_true rfl) (m_takesF _ _ t n p hn hp hb th tl _ il up lo hv q0 q4 7 (by omega) k7) (fun r9 h129 e130 => ?_)
                                    obtain ⟨rfl, e9⟩ := e130
                                    rw [e9]
                                    show Wn _ _ 280 _ [.int (nI (0))] h _
                                    refine wn_ifN (t := 290) (f := 283) rfl rfl rfl (by omega) (fun c131 => ?_) (fun c131 => ?_)
                                    · have c131 : 0 = 0 := c131
                                      refine wn_ld (pc' := 291) (q := 0) (kin := 2) (v := .ref (71)) rfl (fun _ _ _ => rfl) rfl rfl ?_
                                      refine wn_virS (pc' := 294) rfl rfl (by decide) rfl rfl q0 (Nat.le_of_ble_eq_true rfl) (m_advance _ _ t n (tkA t n p) hn (tkA_le hp) hb th tl _ _ _ (nI 0) (-1) il up lo q0 q4) (fun r9 h132 e133 => ?_)
                                      obtain ⟨rfl, f_h132, vl_h132, hv_h132, o_h132⟩ := e133
                                      have fr_h132 := Fr.tr (Fr.rfl' [71] h) f_h132 (fun _ q => q)
                                      have := tkF_le (t := t) (p := (tkA t n p)) (tkA_le hp)
                                      have := tkA_ge (t := t) (n := n) (p := (tkA t n p))
                                      have := tkA_le (t := t) (p := (tkA t n p)) (tkA_le hp)
                                      have := tkK_le (t := t) (n := n) (p := (tkA t n p))
                                      show Wn _ _ 294 _ [] h132 _
                                      refine wn_ld (pc' := 295) (q := 0) (kin := 2) (v := .ref (71)) rfl (fun _ _ _ => rfl) rfl rfl ?_
                                      have g9 := wd_gt k8
                                      refine wn_virS (pc' := 298) rfl rfl (by decide) rfl rfl o_h132 (Nat.le_of_ble_eq_true rfl) (m_readLaw _ _ t n (tkA t n p) w hn (tkA_le hp) hb hJ th tl _ il up lo hv_h132 o_h132 ((fr_h132.2 75 (by decide)).trans q4) ((fr_h132.2 77 (by decide)).trans q6) (by omega) (tkF t n p) (by omega)) (fun r9 h134 e135 => ?_)
                                      obtain ⟨rfl, F_h134, r_h134, M_h134, ok_h134, eq_h134⟩ := e135
                                      have G_h134 := Fr.tr (Fr.tr (Fr.rfl' [71, 77] h) (fw fr_h132) (fun _ q => q)) F_h134 (fun _ q => q)
                                      show Wn _ _ 298 _ [] h134 _
                                      refine wn_weak (lv' := [(0, .ref (71))]) (by simp) ?_
                                      exact tl9 h134 _ G_h134 M_h134 ok_h134 (Or.inr (Or.inr (Or.inr (Or.inr (Or.inl (⟨k8, eq_h134⟩))))))
                                    · have c131 : ¬ 0 = 0 := c131
                                      exact absurd c131 (by decide)
                                  · have c128 : ¬ 0 = 0 := c128
                                    exact absurd c128 (by decide)
                                · have c125 : ¬ 0 = 0 := c125
                                  exact absurd c125 (by decide)
                              · have c122 : ¬ 0 = 0 := c122
                                exact absurd c122 (by decide)
                            · have c119 : 1 = 0 := c119
                              exact absurd c119 (by decide)
                          · have c118 : ¬ 0 = 0 := c118
                            exact absurd c118 (by decide)
                        · have c117 : (nlW w) = 20 := c117
                          refine wn_ic (pc' := 141) (w := nI 1) rfl rfl (by decide) ?_
                          refine wn_jp (pc' := 145) rfl rfl ?_
                          refine wn_st (pc' := 146) (q := 2) (kin := 0) (lv' := [(0, .ref (71)), (1, .int (nI (1))), (2, .int (nI (1)))]) rfl (fun _ _ _ => rfl) rfl (Nat.le_of_ble_eq_true rfl) rfl ?_
                          refine wn_ld (pc' := 147) (q := 2) (kin := 0) (v := .int (nI (1))) rfl (fun _ _ _ => rfl) rfl rfl ?_
                          refine wn_ifN (t := 155) (f := 150) rfl rfl rfl (by omega) (fun c136 => ?_) (fun c136 => ?_)
                          · have c136 : 1 = 0 := c136
                            exact absurd c136 (by decide)
                          · have c136 : ¬ 1 = 0 := c136
                            refine wn_ld (pc' := 151) (q := 0) (kin := 2) (v := .ref (71)) rfl (fun _ _ _ => rfl) rfl rfl ?_
                            refine wn_ic (pc' := 152) (w := nI 3) rfl rfl (by decide) ?_
                            refine wn_virS (pc' := 155) rfl rfl (by decide) rfl rfl q0 (Nat.le_of_ble_eq_true rfl) (m_errs0 _ _ _ _ _ _ _ _ _ _ _ _ _ q0 (nI (3))) (fun r9 h137 e138 => ?_)
                            obtain ⟨rfl, f_h137, o_h137⟩ := e138
                            have fr_h137 := Fr.tr (Fr.rfl' [71] h) f_h137 (fun _ q => q)
                            show Wn _ _ 155 _ [] h137 _
                            refine wn_ld (pc' := 156) (q := 0) (kin := 2) (v := .ref (71)) rfl (fun _ _ _ => rfl) rfl rfl ?_
                            refine wn_virI (pc' := 159) rfl rfl (by decide) rfl rfl o_h137 (Nat.le_of_ble_eq_true rfl) (m_goodB _ _ _ _ _ _ _ _ _ _ _ _ _ _ (show ¬ nI 3 = 0 by decide) o_h137) ?_
                            refine wn_ifN (t := 163) (f := 162) rfl rfl rfl (by omega) (fun c139 => ?_) (fun c139 => ?_)
                            · have c139 : ¬ 0 = 0 := c139
                              exact absurd c139 (by decide)
                            · have c139 : 0 = 0 := c139
                              have eL : LineR t n p w (.inl (3, tkF t n p)) := Or.inr (Or.inr (Or.inr (Or.inr (Or.inl (⟨k8, Or.inr ⟨by omega, rfl⟩⟩)))))
                              exact wn_vret rfl rfl ⟨rfl, (Fr.tr (Fr.rfl' [71, 77] h) (fw fr_h137) (fun _ q => q)), _, eL, MT_l (show ¬ nI 3 = 0 by decide) o_h137 ((fr_h137.2 77 (by decide)).trans q6)⟩
                    · have c115 : ¬ 0 = 0 := c115
                      exact absurd c115 (by decide)
                  · have c114 : ¬ 0 = 0 := c114
                    exact absurd c114 (by decide)
                · have c113 : ¬ 0 = 0 := c113
                  exact absurd c113 (by decide)
              · have c112 : 1 = 0 := c112
                exact absurd c112 (by decide)
  · refine wn_ld (pc' := 1) (q := 0) (kin := 2) (v := .ref (71)) rfl (fun _ _ _ => rfl) rfl rfl ?_
    refine wn_go (pc' := 3) (lv' := [(0, .ref (71))]) (st' := [.retAddr 0, .ref (71)]) rfl (fun _ _ _ k9 => ⟨by decide, k9⟩) ?_
    refine wn_virI (pc' := 6) rfl rfl (by decide) rfl rfl q0 (Nat.le_of_ble_eq_true rfl) (m_is0 _ _ t n p hn hp hb th tl _ il up lo hv q0 q4 0 (by omega)) ?_
    rw [← bI_f0 k0]
    refine wn_ifN (t := 45) (f := 9) rfl rfl rfl (by omega) (fun c140 => ?_) (fun c140 => ?_)
    · have c140 : ¬ 0 = 0 := c140
      exact absurd c140 (by decide)
    · have c140 : 0 = 0 := c140
      refine wn_ld (pc' := 10) (q := 0) (kin := 2) (v := .ref (71)) rfl (fun _ _ _ => rfl) rfl rfl ?_
      refine wn_go (pc' := 12) (lv' := [(0, .ref (71))]) (st' := [.retAddr 2, .ref (71)]) rfl (fun _ _ _ k9 => ⟨by decide, k9⟩) ?_
      refine wn_virI (pc' := 15) rfl rfl (by decide) rfl rfl q0 (Nat.le_of_ble_eq_true rfl) (m_is0 _ _ t n p hn hp hb th tl _ il up lo hv q0 q4 2 (by omega)) ?_
      rw [← bI_f0 k2]
      refine wn_ifN (t := 45) (f := 18) rfl rfl rfl (by omega) (fun c141 => ?_) (fun c141 => ?_)
      · have c141 : ¬ 0 = 0 := c141
        exact absurd c141 (by decide)
      · have c141 : 0 = 0 := c141
        refine wn_ld (pc' := 19) (q := 0) (kin := 2) (v := .ref (71)) rfl (fun _ _ _ => rfl) rfl rfl ?_
        refine wn_go (pc' := 21) (lv' := [(0, .ref (71))]) (st' := [.retAddr 4, .ref (71)]) rfl (fun _ _ _ k9 => ⟨by decide, k9⟩) ?_
        refine wn_virI (pc' := 24) rfl rfl (by decide) rfl rfl q0 (Nat.le_of_ble_eq_true rfl) (m_is0 _ _ t n p hn hp hb th tl _ il up lo hv q0 q4 4 (by omega)) ?_
        rw [← bI_f0 k4]
        refine wn_ifN (t := 45) (f := 27) rfl rfl rfl (by omega) (fun c142 => ?_) (fun c142 => ?_)
        · have c142 : ¬ 0 = 0 := c142
          exact absurd c142 (by decide)
        · have c142 : 0 = 0 := c142
          refine wn_ld (pc' := 28) (q := 0) (kin := 2) (v := .ref (71)) rfl (fun _ _ _ => rfl) rfl rfl ?_
          refine wn_go (pc' := 30) (lv' := [(0, .ref (71))]) (st' := [.retAddr 7, .ref (71)]) rfl (fun _ _ _ k9 => ⟨by decide, k9⟩) ?_
          refine wn_virI (pc' := 33) rfl rfl (by decide) rfl rfl q0 (Nat.le_of_ble_eq_true rfl) (m_is0 _ _ t n p hn hp hb th tl _ il up lo hv q0 q4 7 (by omega)) ?_
          rw [← bI_f0 k7]
          refine wn_ifN (t := 45) (f := 36) rfl rfl rfl (by omega) (fun c143 => ?_) (fun c143 => ?_)
          · have c143 : ¬ 0 = 0 := c143
            exact absurd c143 (by decide)
          · have c143 : 0 = 0 := c143
            refine wn_ld (pc' := 37) (q := 0) (kin := 2) (v := .ref (71)) rfl (fun _ _ _ => rfl) rfl rfl ?_
            refine wn_go (pc' := 39) (lv' := [(0, .ref (71))]) (st' := [.retAddr 8, .ref (71)]) rfl (fun _ _ _ k9 => ⟨by decide, k9⟩) ?_
            refine wn_virI (pc' := 42) rfl rfl (by decide) rfl rfl q0 (Nat.le_of_ble_eq_true rfl) (m_is0 _ _ t n p hn hp hb th tl _ il up lo hv q0 q4 8 (by omega)) ?_
            rw [← bI_f0 k8]
            refine wn_ifN (t := 49) (f := 45) rfl rfl rfl (by omega) (fun c144 => ?_) (fun c144 => ?_)
            · have c144 : 0 = 0 := c144
              refine wn_ic (pc' := 50) (w := nI 0) rfl rfl (by decide) ?_
              refine wn_st (pc' := 51) (q := 1) (kin := 0) (lv' := [(0, .ref (71)), (1, .int (nI (0)))]) rfl (fun _ _ _ => rfl) rfl (Nat.le_of_ble_eq_true rfl) rfl ?_
              refine wn_ld (pc' := 52) (q := 1) (kin := 0) (v := .int (nI (0))) rfl (fun _ _ _ => rfl) rfl rfl ?_
              refine wn_ifN (t := 60) (f := 55) rfl rfl rfl (by omega) (fun c145 => ?_) (fun c145 => ?_)
              · have c145 : ¬ 0 = 0 := c145
                exact absurd c145 (by decide)
              · have c145 : 0 = 0 := c145
                refine wn_ld (pc' := 56) (q := 0) (kin := 2) (v := .ref (71)) rfl (fun _ _ _ => rfl) rfl rfl ?_
                refine wn_ic (pc' := 57) (w := nI 1) rfl rfl (by decide) ?_
                refine wn_virS (pc' := 60) rfl rfl (by decide) rfl rfl q0 (Nat.le_of_ble_eq_true rfl) (m_errs0 _ _ _ _ _ _ _ _ _ _ _ _ _ q0 (nI (1))) (fun r9 h146 e147 => ?_)
                obtain ⟨rfl, f_h146, o_h146⟩ := e147
                have fr_h146 := Fr.tr (Fr.rfl' [71] h) f_h146 (fun _ q => q)
                show Wn _ _ 60 _ [] h146 _
                refine wn_ld (pc' := 61) (q := 0) (kin := 2) (v := .ref (71)) rfl (fun _ _ _ => rfl) rfl rfl ?_
                refine wn_go (pc' := 63) (lv' := [(0, .ref (71)), (1, .int (nI (0)))]) (st' := [.retAddr 0, .ref (71)]) rfl (fun _ _ _ k9 => ⟨by decide, k9⟩) ?_
                refine wn_virI (pc' := 66) rfl rfl (by decide) rfl rfl o_h146 (Nat.le_of_ble_eq_true rfl) (m_isB _ _ _ _ _ _ _ _ _ _ _ _ _ _ (show ¬ nI 1 = 0 by decide) o_h146 0 (by omega)) ?_
                refine wn_ifN (t := 80) (f := 69) rfl rfl rfl (by omega) (fun c148 => ?_) (fun c148 => ?_)
                · have c148 : 0 = 0 := c148
                  refine wn_ld (pc' := 81) (q := 0) (kin := 2) (v := .ref (71)) rfl (fun _ _ _ => rfl) rfl rfl ?_
                  refine wn_go (pc' := 83) (lv' := [(0, .ref (71)), (1, .int (nI (0)))]) (st' := [.retAddr 2, .ref (71)]) rfl (fun _ _ _ k9 => ⟨by decide, k9⟩) ?_
                  refine wn_virI (pc' := 86) rfl rfl (by decide) rfl rfl o_h146 (Nat.le_of_ble_eq_true rfl) (m_isB _ _ _ _ _ _ _ _ _ _ _ _ _ _ (show ¬ nI 1 = 0 by decide) o_h146 2 (by omega)) ?_
                  refine wn_ifN (t := 100) (f := 89) rfl rfl rfl (by omega) (fun c149 => ?_) (fun c149 => ?_)
                  · have c149 : 0 = 0 := c149
                    refine wn_ld (pc' := 101) (q := 0) (kin := 2) (v := .ref (71)) rfl (fun _ _ _ => rfl) rfl rfl ?_
                    refine wn_go (pc' := 103) (lv' := [(0, .ref (71)), (1, .int (nI (0)))]) (st' := [.retAddr 4, .ref (71)]) rfl (fun _ _ _ k9 => ⟨by decide, k9⟩) ?_
                    refine wn_virI (pc' := 106) rfl rfl (by decide) rfl rfl o_h146 (Nat.le_of_ble_eq_true rfl) (m_isB _ _ _ _ _ _ _ _ _ _ _ _ _ _ (show ¬ nI 1 = 0 by decide) o_h146 4 (by omega)) ?_
                    refine wn_ifN (t := 120) (f := 109) rfl rfl rfl (by omega) (fun c150 => ?_) (fun c150 => ?_)
                    · have c150 : 0 = 0 := c150
                      refine wn_ld (pc' := 121) (q := 0) (kin := 2) (v := .ref (71)) rfl (fun _ _ _ => rfl) rfl rfl ?_
                      refine wn_go (pc' := 123) (lv' := [(0, .ref (71)), (1, .int (nI (0)))]) (st' := [.retAddr 8, .ref (71)]) rfl (fun _ _ _ k9 => ⟨by decide, k9⟩) ?_
                      refine wn_virI (pc' := 126) rfl rfl (by decide) rfl rfl o_h146 (Nat.le_of_ble_eq_true rfl) (m_isB _ _ _ _ _ _ _ _ _ _ _ _ _ _ (show ¬ nI 1 = 0 by decide) o_h146 8 (by omega)) ?_
                      refine wn_ifN (t := 144) (f := 129) rfl rfl rfl (by omega) (fun c151 => ?_) (fun c151 => ?_)
                      · have c151 : 0 = 0 := c151
                        refine wn_ic (pc' := 145) (w := nI 0) rfl rfl (by decide) ?_
                        refine wn_st (pc' := 146) (q := 2) (kin := 0) (lv' := [(0, .ref (71)), (1, .int (nI (0))), (2, .int (nI (0)))]) rfl (fun _ _ _ => rfl) rfl (Nat.le_of_ble_eq_true rfl) rfl ?_
                        refine wn_ld (pc' := 147) (q := 2) (kin := 0) (v := .int (nI (0))) rfl (fun _ _ _ => rfl) rfl rfl ?_
                        refine wn_ifN (t := 155) (f := 150) rfl rfl rfl (by omega) (fun c152 => ?_) (fun c152 => ?_)
                        · have c152 : 0 = 0 := c152
                          refine wn_ld (pc' := 156) (q := 0) (kin := 2) (v := .ref (71)) rfl (fun _ _ _ => rfl) rfl rfl ?_
                          refine wn_virI (pc' := 159) rfl rfl (by decide) rfl rfl o_h146 (Nat.le_of_ble_eq_true rfl) (m_goodB _ _ _ _ _ _ _ _ _ _ _ _ _ _ (show ¬ nI 1 = 0 by decide) o_h146) ?_
                          refine wn_ifN (t := 163) (f := 162) rfl rfl rfl (by omega) (fun c153 => ?_) (fun c153 => ?_)
                          · have c153 : ¬ 0 = 0 := c153
                            exact absurd c153 (by decide)
                          · have c153 : 0 = 0 := c153
                            have eL : LineR t n p w (.inl (1, tkF t n p)) := Or.inr (Or.inr (Or.inr (Or.inr (Or.inr ⟨⟨k0, k2, k4, k7, k8⟩, rfl⟩))))
                            exact wn_vret rfl rfl ⟨rfl, (Fr.tr (Fr.rfl' [71, 77] h) (fw fr_h146) (fun _ q => q)), _, eL, MT_l (show ¬ nI 1 = 0 by decide) o_h146 ((fr_h146.2 77 (by decide)).trans q6)⟩
                        · have c152 : ¬ 0 = 0 := c152
                          exact absurd c152 (by decide)
                      · have c151 : ¬ 0 = 0 := c151
                        exact absurd c151 (by decide)
                    · have c150 : ¬ 0 = 0 := c150
                      exact absurd c150 (by decide)
                  · have c149 : ¬ 0 = 0 := c149
                    exact absurd c149 (by decide)
                · have c148 : ¬ 0 = 0 := c148
                  exact absurd c148 (by decide)
            · have c144 : ¬ 0 = 0 := c144
              exact absurd c144 (by decide)

