/-! THE CLASS'S READER: a tape -/
theorem wn_alen {C : aC} {i pc : Nat} {lv : aL} {st : List Value} {h : aH} {Q : Option Value → aH → Prop} {a b k pc' t n : Nat} {x : _} (hi : ins i pc = some (.arraylength, a, b)) (hn : pc + 1 = pc') (ht : t < 6) (ho : h[k]? = some (.inl (t, n, x))) (kk : Wn C i pc' lv (.int (nI n) :: st) h Q) : Wn C i pc lv (.ref k :: st) h Q := by
  subst hn
  exact wn_go hi (fun K r h1 k9 => Or.inl ⟨k, st, t, (n, x), rfl, ht, ho, k9⟩) kk
/-- lines half read -/
def LnI (t : Nat → Int32) (n : Nat) (f : Nat → Int32) (i : Nat) (r : PR) : Prop := (∀ r', Res t n r r' → LinR t n 0 (iniW f) r') ∧ match r with
  | .inl _ => True
  | .inr (p, w) => WI n p w ∧ i ≤ p
theorem LnI_s {t : Nat → Int32} {n : Nat} {f : Nat → Int32} {i p : Nat} {w : Nat → Int32} {r1 : PR} (hn : n ≤ 1200) (H : LnI t n f i (.inr (p, w))) (hk : ¬ tkK t n p = 0) (h : LineR t n p w r1) : LnI t n f (i + 1) r1 := by
  refine ⟨fun r' hr => H.1 _ (Res_s hk h hr), ?_⟩
  cases r1 with
  | inl e => trivial
  | inr x =>
    obtain ⟨p1, w1⟩ := x
    obtain ⟨a, b⟩ := LineR_i hn H.2.1 h
    have c := H.2.2
    exact ⟨a, by omega⟩
def rOK (r : PR) : Int32 := match r with
  | .inl _ => nI 0
  | .inr _ => nI 1
theorem x_readTape (d : Nat) (h : aH) (t ct : Nat → Int32) (n lr : Nat) (f : Nat → Int32) (hn : n ≤ 1200) (hlr : lr = 24 ∨ lr = 3) (o1 : isB h 1 1200 ct) (o1v : ∀ x, x < 1200 → ct x = t x) (fk fp y1 y2 y3 y4 y5 : Int32) (o2 : isO h 2 3 [.int fk, .int fp, .ref lr, .ref 1, .int y1, .int y2, .int y3, .int y4, .int y5]) (S : LandS h lr) : Sp (Rn (d + 7)) 24 [.ref (2), .int (nI (n))] h (fun r9 h9 => FrL lr h h9 ∧ ∃ r, LinR t n 0 (iniW f) r ∧ WIr n r ∧ CS t n lr h9 r ∧ r9 = some (.int (rOK r))) := by
  obtain ⟨x0, x1, x2, x3, x4, x5, sz9, rf9, rt9, rv9, ag9, vr9, sd9, tl9, it9, fi9, se9, sg9, ls9, rs9, rp9, pj9, pk9, pv9, d0, _⟩ := id S
  refine Sp_of (by decide) (Nat.le_of_ble_eq_true rfl) ?_
  show Wn _ _ 0 [(0, .ref (2)), (1, .int (nI (n)))] [] _ _
  refine wn_ld (pc' := 1) (q := 0) (kin := 2) (v := .ref (2)) rfl (fun _ _ _ => rfl) rfl rfl ?_
  refine wn_ic (pc' := 2) (w := nI 0) rfl rfl (by decide) ?_
  refine wn_put (pc' := 5) rfl rfl o2 (Nat.le_of_ble_eq_true rfl) ⟨rfl, rfl⟩ ?_
  show Wn _ _ 5 _ [] (h.set 2 (.inr (3, [.int (nI (0)), .int (fp), .ref (lr), .ref (1), .int (y1), .int (y2), .int (y3), .int (y4), .int (y5)]))) _
  refine wn_ld (pc' := 6) (q := 0) (kin := 2) (v := .ref (2)) rfl (fun _ _ _ => rfl) rfl rfl ?_
  refine wn_ic (pc' := 7) (w := -1) rfl rfl (by decide) ?_
  refine wn_put (pc' := 10) rfl rfl (gs_self o2) (Nat.le_of_ble_eq_true rfl) ⟨rfl, rfl⟩ ?_
  show Wn _ _ 10 _ [] ((h.set 2 (.inr (3, [.int (nI (0)), .int (fp), .ref (lr), .ref (1), .int (y1), .int (y2), .int (y3), .int (y4), .int (y5)]))).set 2 (.inr (3, [.int (nI (0)), .int (-1), .ref (lr), .ref (1), .int (y1), .int (y2), .int (y3), .int (y4), .int (y5)]))) _
  refine wn_ld (pc' := 11) (q := 0) (kin := 2) (v := .ref (2)) rfl (fun _ _ _ => rfl) rfl rfl ?_
  refine wn_ld (pc' := 12) (q := 1) (kin := 0) (v := .int (nI (n))) rfl (fun _ _ _ => rfl) rfl rfl ?_
  refine wn_ld (pc' := 13) (q := 0) (kin := 2) (v := .ref (2)) rfl (fun _ _ _ => rfl) rfl rfl ?_
  refine wn_get (pc' := 16) (v := .ref (1)) rfl rfl (gs_self (gs_self o2)) rfl ?_
  refine wn_alen (pc' := 17) rfl rfl (by decide) (gs_ne (by decide) (gs_ne (by decide) o1)) ?_
  refine wn_minN (pc' := 20) rfl rfl (Nat.le_of_ble_eq_true rfl) (by omega) (by omega) ?_
  refine wn_top (y := nI n) (congrArg nI (by omega)) ?_
  refine wn_put (pc' := 23) rfl rfl (gs_self (gs_self o2)) (Nat.le_of_ble_eq_true rfl) ⟨rfl, rfl⟩ ?_
  show Wn _ _ 23 _ [] (((h.set 2 (.inr (3, [.int (nI (0)), .int (fp), .ref (lr), .ref (1), .int (y1), .int (y2), .int (y3), .int (y4), .int (y5)]))).set 2 (.inr (3, [.int (nI (0)), .int (-1), .ref (lr), .ref (1), .int (y1), .int (y2), .int (y3), .int (y4), .int (y5)]))).set 2 (.inr (3, [.int (nI (0)), .int (-1), .ref (lr), .ref (1), .int (nI (n)), .int (y2), .int (y3), .int (y4), .int (y5)]))) _
  refine wn_ld (pc' := 24) (q := 0) (kin := 2) (v := .ref (2)) rfl (fun _ _ _ => rfl) rfl rfl ?_
  refine wn_get (pc' := 27) (v := .ref (lr)) rfl rfl (gs_self (gs_self (gs_self o2))) rfl ?_
  refine wn_virS (pc' := 30) rfl rfl (by decide) rfl rfl (gs_ne (by omega) (gs_ne (by omega) (gs_ne (by omega) d0))) (Nat.le_of_ble_eq_true rfl) (x_empty _ _ lr f (S.kp (fun k p1 p2 => fr2 (Fr.st (Fr.st (Fr.st (Fr.rfl' [2] h) (by decide)) (by decide)) (by decide)) (by omega)))) (fun r9 h1 e2 => ?_)
  obtain ⟨rfl, q_h1, L_h1, W_h1⟩ := e2
  show Wn _ _ 30 _ [] h1 _
  refine wn_ld (pc' := 31) (q := 0) (kin := 2) (v := .ref (2)) rfl (fun _ _ _ => rfl) rfl rfl ?_
  refine wn_ic (pc' := 32) (w := nI 0) rfl rfl (by decide) ?_
  refine wn_put (pc' := 35) rfl rfl ((q_h1.2 2 (by omega)).trans (gs_self (gs_self (gs_self o2)))) (Nat.le_of_ble_eq_true rfl) ⟨rfl, rfl⟩ ?_
  show Wn _ _ 35 _ [] (h1.set 2 (.inr (3, [.int (nI (0)), .int (-1), .ref (lr), .ref (1), .int (nI (n)), .int (y2), .int (y3), .int (nI (0)), .int (y5)]))) _
  refine wn_ld (pc' := 36) (q := 0) (kin := 2) (v := .ref (2)) rfl (fun _ _ _ => rfl) rfl rfl ?_
  refine wn_virS (pc' := 39) rfl rfl (by decide) rfl rfl (gs_self ((q_h1.2 2 (by omega)).trans (gs_self (gs_self (gs_self o2))))) (Nat.le_of_ble_eq_true rfl) (x_advance _ _ t ct n 0 lr (nI 0) (-1) _ _ _ hn (by omega) (gs_ne (by decide) ((q_h1.2 1 (by omega)).trans (gs_ne (by decide) (gs_ne (by decide) (gs_ne (by decide) o1))))) o1v (gs_self ((q_h1.2 2 (by omega)).trans (gs_self (gs_self (gs_self o2)))))) (fun r9 h3 e4 => ?_)
  obtain ⟨rfl, f_h3, o_h3⟩ := e4
  show Wn _ _ 39 _ [] h3 _
  refine wn_ic (pc' := 40) (w := nI 0) rfl rfl (by decide) ?_
  refine wn_st (pc' := 41) (q := 2) (kin := 0) (lv' := [(0, .ref (2)), (1, .int (nI (n))), (2, .int (nI (0)))]) rfl (fun _ _ _ => rfl) rfl (Nat.le_of_ble_eq_true rfl) rfl ?_
  have fl9 : FrL lr h h1 := ((FrL.rfl' lr h).f2 (Fr.st (Fr.st (Fr.st (Fr.rfl' [2] h) (by decide)) (by decide)) (by decide))).q q_h1
  have fA9 : Fr [2] h1 (h1.set 2 (.inr (3, [.int (nI (0)), .int (-1), .ref (lr), .ref (1), .int (nI (n)), .int (y2), .int (y3), .int (nI (0)), .int (y5)]))) := (Fr.st (Fr.rfl' [2] h1) (by decide))
  have fs9 := (fl9.f2 fA9).f2 f_h3
  have lp5 : ∀ (n_lp5 : Nat) (g : aH) (i : Nat) (r : PR), 1200 + 1 ≤ i + n_lp5 → i ≤ 1200 → FrL lr h g → CS t n lr g r → LnI t n f i r → Wn (Rn (d + 6)) 24 41 [(0, .ref (2)), (2, .int (nI (i)))] [] g (fun r9 h9 => FrL lr h h9 ∧ ∃ r, LinR t n 0 (iniW f) r ∧ WIr n r ∧ CS t n lr h9 r ∧ r9 = some (.int (rOK r))) := by
    intro n_lp5
    induction n_lp5 with
    | zero => intro g i r hm hi1 hfl hC hS; exfalso; omega
    | succ n_lp5 ih =>
      intro g i r hm hi1 hfl hC hS
      rcases r with e0 | ⟨p2, w2⟩
      · obtain ⟨hb_g, p_g, hp_g, o_g, S_g⟩ := hC
        have := tkF_le (t := t) (p := p_g) hp_g
        have := tkA_ge (t := t) (n := n) (p := p_g)
        have := tkA_le (t := t) (p := p_g) hp_g
        have := tkK_le (t := t) (n := n) (p := p_g)
        refine wn_ld (pc' := 42) (q := 2) (kin := 0) (v := .int (nI (i))) rfl (fun _ _ _ => rfl) rfl rfl ?_
        refine wn_sp (pc' := 45) (w := nI 1200) rfl rfl (by decide) ?_
        refine wn_icmpN (t := 163) (f := 48) rfl rfl rfl (by omega) (by omega) (fun c6 => ?_) (fun c6 => ?_)
        · have c6 : 1200 ≤ i := c6
          refine wn_ld (pc' := 164) (q := 0) (kin := 2) (v := .ref (2)) rfl (fun _ _ _ => rfl) rfl rfl ?_
          refine wn_get (pc' := 167) (v := .int (nI (e0.1))) rfl rfl o_g rfl ?_
          refine wn_ifc (t := 174) (f := 170) rfl rfl rfl (fun c7 => ?_) (fun c7 => ?_)
          · have c7 : ¬ ((nI (e0.1))) = 0 := c7
            refine wn_ic (pc' := 175) (w := nI 0) rfl rfl (by decide) ?_
            exact wn_iret rfl rfl (by decide) ⟨hfl, .inl e0, hS.1 _ rfl, trivial, CS_l hb_g hp_g o_g S_g, rfl⟩
          · have c7 : ((nI (e0.1))) = 0 := c7
            exact absurd c7 hb_g
        · have c6 : i < 1200 := c6
          refine wn_ld (pc' := 49) (q := 0) (kin := 2) (v := .ref (2)) rfl (fun _ _ _ => rfl) rfl rfl ?_
          refine wn_get (pc' := 52) (v := .int (nI (e0.1))) rfl rfl o_g rfl ?_
          refine wn_ifc (t := 163) (f := 55) rfl rfl rfl (fun c8 => ?_) (fun c8 => ?_)
          · have c8 : ¬ ((nI (e0.1))) = 0 := c8
            refine wn_ld (pc' := 164) (q := 0) (kin := 2) (v := .ref (2)) rfl (fun _ _ _ => rfl) rfl rfl ?_
            refine wn_get (pc' := 167) (v := .int (nI (e0.1))) rfl rfl o_g rfl ?_
            refine wn_ifc (t := 174) (f := 170) rfl rfl rfl (fun c9 => ?_) (fun c9 => ?_)
            · have c9 : ¬ ((nI (e0.1))) = 0 := c9
              refine wn_ic (pc' := 175) (w := nI 0) rfl rfl (by decide) ?_
              exact wn_iret rfl rfl (by decide) ⟨hfl, .inl e0, hS.1 _ rfl, trivial, CS_l hb_g hp_g o_g S_g, rfl⟩
            · have c9 : ((nI (e0.1))) = 0 := c9
              exact absurd c9 c8
          · have c8 : ((nI (e0.1))) = 0 := c8
            exact absurd c8 hb_g
      · obtain ⟨hS1, ⟨J2, h52, hl2, hp2⟩, hip⟩ := id hS
        obtain ⟨o_g, R1_g, R2_g⟩ := hC
        obtain ⟨szy, rfy, rty, rvy, agy, vry, sdy, tly, l0y, l1y, l2y, l3y, l4y, l5y, l6y, l7y, l8y, g1y, g2y, g3y, g4y, g5y⟩ := id R1_g
        obtain ⟨secy, ity, fiy, sey, sgy, lsty, rsy, rpy, pjy, pky, pvy, k0y, k1y, k2y, k3y, k4y, k5y, k6y, k7y, k8y, k9y, k10y, k11y, k12y, k13y⟩ := id R2_g
        obtain ⟨e0y, e0by⟩ := wj_0 J2
        obtain ⟨⟨e1y, e2y⟩, ⟨e3y, e4y⟩, ⟨e5y, e6y⟩⟩ := Wf_n J2.wf
        obtain ⟨⟨e7y, e8y⟩, ⟨e9y, e10y⟩⟩ := Wf_m J2.wf
        rw [e0y, e1y, e3y, e5y] at l0y
        rw [e7y, e9y] at k1y
        have := tkF_le (t := t) (p := p2) hp2
        have := tkA_ge (t := t) (n := n) (p := p2)
        have := tkA_le (t := t) (p := p2) hp2
        have := tkK_le (t := t) (n := n) (p := p2)
        have hF2 := tkF_ge (t := t) (n := n) (p := p2)
        refine wn_ld (pc' := 42) (q := 2) (kin := 0) (v := .int (nI (i))) rfl (fun _ _ _ => rfl) rfl rfl ?_
        refine wn_sp (pc' := 45) (w := nI 1200) rfl rfl (by decide) ?_
        refine wn_icmpN (t := 163) (f := 48) rfl rfl rfl (by omega) (by omega) (fun c10 => ?_) (fun c10 => ?_)
        · have c10 : 1200 ≤ i := c10
          refine wn_ld (pc' := 164) (q := 0) (kin := 2) (v := .ref (2)) rfl (fun _ _ _ => rfl) rfl rfl ?_
          refine wn_get (pc' := 167) (v := .int (nI (0))) rfl rfl o_g rfl ?_
          refine wn_ifN (t := 174) (f := 170) rfl rfl rfl (by omega) (fun c11 => ?_) (fun c11 => ?_)
          · have c11 : ¬ 0 = 0 := c11
            exact absurd c11 (by decide)
          · have c11 : 0 = 0 := c11
            refine wn_ic (pc' := 171) (w := nI 1) rfl rfl (by decide) ?_
            refine wn_jp (pc' := 175) rfl rfl ?_
            have hk0 : tkK t n p2 = 0 := by first | assumption | exact tkK_0.mpr (by omega)
            exact wn_iret rfl rfl (by decide) ⟨hfl, .inr (p2, w2), hS1 _ (Res_e hk0), hS.2.1, CS_r o_g R1_g R2_g, rfl⟩
        · have c10 : i < 1200 := c10
          refine wn_ld (pc' := 49) (q := 0) (kin := 2) (v := .ref (2)) rfl (fun _ _ _ => rfl) rfl rfl ?_
          refine wn_get (pc' := 52) (v := .int (nI (0))) rfl rfl o_g rfl ?_
          refine wn_ifN (t := 163) (f := 55) rfl rfl rfl (by omega) (fun c12 => ?_) (fun c12 => ?_)
          · have c12 : ¬ 0 = 0 := c12
            exact absurd c12 (by decide)
          · have c12 : 0 = 0 := c12
            refine wn_ld (pc' := 56) (q := 0) (kin := 2) (v := .ref (2)) rfl (fun _ _ _ => rfl) rfl rfl ?_
            refine wn_get (pc' := 59) (v := .int (nI (tkK t n p2))) rfl rfl o_g rfl ?_
            refine wn_ifN (t := 163) (f := 62) rfl rfl rfl (by omega) (fun c13 => ?_) (fun c13 => ?_)
            · have c13 : (tkK t n p2) = 0 := c13
              refine wn_ld (pc' := 164) (q := 0) (kin := 2) (v := .ref (2)) rfl (fun _ _ _ => rfl) rfl rfl ?_
              refine wn_get (pc' := 167) (v := .int (nI (0))) rfl rfl o_g rfl ?_
              refine wn_ifN (t := 174) (f := 170) rfl rfl rfl (by omega) (fun c14 => ?_) (fun c14 => ?_)
              · have c14 : ¬ 0 = 0 := c14
                exact absurd c14 (by decide)
              · have c14 : 0 = 0 := c14
                refine wn_ic (pc' := 171) (w := nI 1) rfl rfl (by decide) ?_
                refine wn_jp (pc' := 175) rfl rfl ?_
                have hk0 : tkK t n p2 = 0 := by first | assumption | exact tkK_0.mpr (by omega)
                exact wn_iret rfl rfl (by decide) ⟨hfl, .inr (p2, w2), hS1 _ (Res_e hk0), hS.2.1, CS_r o_g R1_g R2_g, rfl⟩
            · have c13 : ¬ (tkK t n p2) = 0 := c13
              refine wn_ld (pc' := 63) (q := 0) (kin := 2) (v := .ref (2)) rfl (fun _ _ _ => rfl) rfl rfl ?_
              refine wn_get (pc' := 66) (v := .int (nI (tkF t n p2))) rfl rfl o_g rfl ?_
              refine wn_st (pc' := 67) (q := 3) (kin := 0) (lv' := [(0, .ref (2)), (2, .int (nI (i))), (3, .int (nI (tkF t n p2)))]) rfl (fun _ _ _ => rfl) rfl (Nat.le_of_ble_eq_true rfl) rfl ?_
              refine wn_ld (pc' := 68) (q := 0) (kin := 2) (v := .ref (2)) rfl (fun _ _ _ => rfl) rfl rfl ?_
              refine wn_go (pc' := 70) (lv' := [(0, .ref (2)), (2, .int (nI (i))), (3, .int (nI (tkF t n p2)))]) (st' := [.retAddr 0, .ref (2)]) rfl (fun _ _ _ k9 => ⟨by decide, k9⟩) ?_
              refine wn_virS (pc' := 73) rfl rfl (by decide) rfl rfl o_g (Nat.le_of_ble_eq_true rfl) (x_tryWord _ _ t ct n p2 lr (nI (0)) (-1) hn hp2 ((hfl.2 1 (by decide) (by omega)).trans o1) o1v o_g 0 (by omega)) (fun r9 h15 e16 => ?_)
              obtain ⟨rfl, f_h15, o_h15⟩ := e16
              by_cases w_h15 : isWd t n p2 0
              · rw [wdP_t w_h15] at o_h15
                have fr_h15 := Fr.tr (Fr.rfl' [2] g) f_h15 (fun _ q => q)
                rw [← bI_t1 w_h15]
                have := tkF_le (t := t) (p := (tkA t n p2)) (tkA_le hp2)
                have := tkA_ge (t := t) (n := n) (p := (tkA t n p2))
                have := tkA_le (t := t) (p := (tkA t n p2)) (tkA_le hp2)
                have := tkK_le (t := t) (n := n) (p := (tkA t n p2))
                show Wn _ _ 73 _ [.int (nI (1))] h15 _
                refine wn_ifN (t := 84) (f := 76) rfl rfl rfl (by omega) (fun c17 => ?_) (fun c17 => ?_)
                · have c17 : 1 = 0 := c17
                  exact absurd c17 (by decide)
                · have c17 : ¬ 1 = 0 := c17
                  refine wn_ld (pc' := 77) (q := 0) (kin := 2) (v := .ref (2)) rfl (fun _ _ _ => rfl) rfl rfl ?_
                  refine wn_ld (pc' := 78) (q := 3) (kin := 0) (v := .int (nI (tkF t n p2))) rfl (fun _ _ _ => rfl) rfl rfl ?_
                  refine wn_virS (pc' := 81) rfl rfl (by decide) rfl rfl o_h15 (Nat.le_of_ble_eq_true rfl) (x_readVillage _ _ t ct n (tkA t n p2) lr w2 hn (tkA_le hp2) hlr J2 ((fr2 fr_h15 (by decide)).trans ((hfl.2 1 (by decide) (by omega)).trans o1)) o1v o_h15 (R1_g.kp (fun k p1 p2 => fr2 fr_h15 (by omega))) (R2_g.kp (fun k p1 p2 => fr2 fr_h15 (by omega))) (tkF t n p2)) (fun r9 h18 e19 => ?_)
                  obtain ⟨rfl, fl0_h18, CS_h18⟩ := e19
                  have fl_h18 := FrL.tr (FrL.f2 hfl fr_h15) fl0_h18
                  show Wn _ _ 81 _ [] h18 _
                  refine wn_jp (pc' := 157) rfl rfl ?_
                  refine wn_incN (n := 1) (pc' := 160) (lv' := [(0, .ref (2)), (2, .int (nI (i + 1))), (3, .int (nI (tkF t n p2)))]) rfl rfl rfl (Nat.le_of_ble_eq_true rfl) rfl (by decide) ?_
                  refine wn_jp (pc' := 41) rfl rfl ?_
                  refine wn_weak (lv' := [(0, .ref (2)), (2, .int (nI (i + 1)))]) (by simp) ?_
                  exact ih h18 (i + 1) (vilR t n (tkF t n p2) (tkA t n p2) w2) (by omega) (by omega) fl_h18 CS_h18 (LnI_s hn hS c13 (Or.inl (⟨w_h15, rfl⟩)))
              · rw [wdP_f w_h15] at o_h15
                have fr_h15 := Fr.tr (Fr.rfl' [2] g) f_h15 (fun _ q => q)
                rw [← bI_f0 w_h15]
                show Wn _ _ 73 _ [.int (nI (0))] h15 _
                refine wn_ifN (t := 84) (f := 76) rfl rfl rfl (by omega) (fun c20 => ?_) (fun c20 => ?_)
                · have c20 : 0 = 0 := c20
                  refine wn_ld (pc' := 85) (q := 0) (kin := 2) (v := .ref (2)) rfl (fun _ _ _ => rfl) rfl rfl ?_
                  refine wn_go (pc' := 87) (lv' := [(0, .ref (2)), (2, .int (nI (i))), (3, .int (nI (tkF t n p2)))]) (st' := [.retAddr 2, .ref (2)]) rfl (fun _ _ _ k9 => ⟨by decide, k9⟩) ?_
                  refine wn_virS (pc' := 90) rfl rfl (by decide) rfl rfl o_h15 (Nat.le_of_ble_eq_true rfl) (x_tryWord _ _ t ct n p2 lr (nI (0)) (-1) hn hp2 ((fr2 fr_h15 (by decide)).trans ((hfl.2 1 (by decide) (by omega)).trans o1)) o1v o_h15 2 (by omega)) (fun r9 h21 e22 => ?_)
                  obtain ⟨rfl, f_h21, o_h21⟩ := e22
                  by_cases w_h21 : isWd t n p2 2
                  · rw [wdP_t w_h21] at o_h21
                    have fr_h21 := Fr.tr fr_h15 f_h21 (fun _ q => q)
                    rw [← bI_t1 w_h21]
                    have := tkF_le (t := t) (p := (tkA t n p2)) (tkA_le hp2)
                    have := tkA_ge (t := t) (n := n) (p := (tkA t n p2))
                    have := tkA_le (t := t) (p := (tkA t n p2)) (tkA_le hp2)
                    have := tkK_le (t := t) (n := n) (p := (tkA t n p2))
                    show Wn _ _ 90 _ [.int (nI (1))] h21 _
                    refine wn_ifN (t := 101) (f := 93) rfl rfl rfl (by omega) (fun c23 => ?_) (fun c23 => ?_)
                    · have c23 : 1 = 0 := c23
                      exact absurd c23 (by decide)
                    · have c23 : ¬ 1 = 0 := c23
                      refine wn_ld (pc' := 94) (q := 0) (kin := 2) (v := .ref (2)) rfl (fun _ _ _ => rfl) rfl rfl ?_
                      refine wn_ld (pc' := 95) (q := 3) (kin := 0) (v := .int (nI (tkF t n p2))) rfl (fun _ _ _ => rfl) rfl rfl ?_
                      refine wn_virS (pc' := 98) rfl rfl (by decide) rfl rfl o_h21 (Nat.le_of_ble_eq_true rfl) (x_readRoad _ _ t ct n (tkA t n p2) lr w2 hn (tkA_le hp2) hlr J2 ((fr2 fr_h21 (by decide)).trans ((hfl.2 1 (by decide) (by omega)).trans o1)) o1v o_h21 (R1_g.kp (fun k p1 p2 => fr2 fr_h21 (by omega))) (R2_g.kp (fun k p1 p2 => fr2 fr_h21 (by omega))) (tkF t n p2)) (fun r9 h24 e25 => ?_)
                      obtain ⟨rfl, fl0_h24, CS_h24⟩ := e25
                      have fl_h24 := FrL.tr (FrL.f2 hfl fr_h21) fl0_h24
                      show Wn _ _ 98 _ [] h24 _
                      refine wn_jp (pc' := 157) rfl rfl ?_
                      refine wn_incN (n := 1) (pc' := 160) (lv' := [(0, .ref (2)), (2, .int (nI (i + 1))), (3, .int (nI (tkF t n p2)))]) rfl rfl rfl (Nat.le_of_ble_eq_true rfl) rfl (by decide) ?_
                      refine wn_jp (pc' := 41) rfl rfl ?_
                      refine wn_weak (lv' := [(0, .ref (2)), (2, .int (nI (i + 1)))]) (by simp) ?_
                      exact ih h24 (i + 1) (rodR t n (tkF t n p2) (tkA t n p2) w2) (by omega) (by omega) fl_h24 CS_h24 (LnI_s hn hS c13 (Or.inr (Or.inl (⟨w_h21, rfl⟩))))
                  · rw [wdP_f w_h21] at o_h21
                    have fr_h21 := Fr.tr fr_h15 f_h21 (fun _ q => q)
                    rw [← bI_f0 w_h21]
                    show Wn _ _ 90 _ [.int (nI (0))] h21 _
                    refine wn_ifN (t := 101) (f := 93) rfl rfl rfl (by omega) (fun c26 => ?_) (fun c26 => ?_)
                    · have c26 : 0 = 0 := c26
                      refine wn_ld (pc' := 102) (q := 0) (kin := 2) (v := .ref (2)) rfl (fun _ _ _ => rfl) rfl rfl ?_
                      refine wn_go (pc' := 104) (lv' := [(0, .ref (2)), (2, .int (nI (i))), (3, .int (nI (tkF t n p2)))]) (st' := [.retAddr 4, .ref (2)]) rfl (fun _ _ _ k9 => ⟨by decide, k9⟩) ?_
                      refine wn_virS (pc' := 107) rfl rfl (by decide) rfl rfl o_h21 (Nat.le_of_ble_eq_true rfl) (x_tryWord _ _ t ct n p2 lr (nI (0)) (-1) hn hp2 ((fr2 fr_h21 (by decide)).trans ((hfl.2 1 (by decide) (by omega)).trans o1)) o1v o_h21 4 (by omega)) (fun r9 h27 e28 => ?_)
                      obtain ⟨rfl, f_h27, o_h27⟩ := e28
                      by_cases w_h27 : isWd t n p2 4
                      · rw [wdP_t w_h27] at o_h27
                        have fr_h27 := Fr.tr fr_h21 f_h27 (fun _ q => q)
                        rw [← bI_t1 w_h27]
                        have := tkF_le (t := t) (p := (tkA t n p2)) (tkA_le hp2)
                        have := tkA_ge (t := t) (n := n) (p := (tkA t n p2))
                        have := tkA_le (t := t) (p := (tkA t n p2)) (tkA_le hp2)
                        have := tkK_le (t := t) (n := n) (p := (tkA t n p2))
                        show Wn _ _ 107 _ [.int (nI (1))] h27 _
                        refine wn_ifN (t := 118) (f := 110) rfl rfl rfl (by omega) (fun c29 => ?_) (fun c29 => ?_)
                        · have c29 : 1 = 0 := c29
                          exact absurd c29 (by decide)
                        · have c29 : ¬ 1 = 0 := c29
                          refine wn_ld (pc' := 111) (q := 0) (kin := 2) (v := .ref (2)) rfl (fun _ _ _ => rfl) rfl rfl ?_
                          refine wn_ld (pc' := 112) (q := 3) (kin := 0) (v := .int (nI (tkF t n p2))) rfl (fun _ _ _ => rfl) rfl rfl ?_
                          refine wn_virS (pc' := 115) rfl rfl (by decide) rfl rfl o_h27 (Nat.le_of_ble_eq_true rfl) (x_readItem _ _ t ct n (tkA t n p2) lr w2 hn (tkA_le hp2) hlr J2 ((fr2 fr_h27 (by decide)).trans ((hfl.2 1 (by decide) (by omega)).trans o1)) o1v o_h27 (R1_g.kp (fun k p1 p2 => fr2 fr_h27 (by omega))) (R2_g.kp (fun k p1 p2 => fr2 fr_h27 (by omega))) (tkF t n p2)) (fun r9 h30 e31 => ?_)
                          obtain ⟨rfl, fl0_h30, CS_h30⟩ := e31
                          have fl_h30 := FrL.tr (FrL.f2 hfl fr_h27) fl0_h30
                          show Wn _ _ 115 _ [] h30 _
                          refine wn_jp (pc' := 157) rfl rfl ?_
                          refine wn_incN (n := 1) (pc' := 160) (lv' := [(0, .ref (2)), (2, .int (nI (i + 1))), (3, .int (nI (tkF t n p2)))]) rfl rfl rfl (Nat.le_of_ble_eq_true rfl) rfl (by decide) ?_
                          refine wn_jp (pc' := 41) rfl rfl ?_
                          refine wn_weak (lv' := [(0, .ref (2)), (2, .int (nI (i + 1)))]) (by simp) ?_
                          exact ih h30 (i + 1) (itmR t n (tkF t n p2) (tkA t n p2) w2) (by omega) (by omega) fl_h30 CS_h30 (LnI_s hn hS c13 (Or.inr (Or.inr (Or.inl (⟨w_h27, rfl⟩)))))
                      · rw [wdP_f w_h27] at o_h27
                        have fr_h27 := Fr.tr fr_h21 f_h27 (fun _ q => q)
                        rw [← bI_f0 w_h27]
                        show Wn _ _ 107 _ [.int (nI (0))] h27 _
                        refine wn_ifN (t := 118) (f := 110) rfl rfl rfl (by omega) (fun c32 => ?_) (fun c32 => ?_)
                        · have c32 : 0 = 0 := c32
                          refine wn_ld (pc' := 119) (q := 0) (kin := 2) (v := .ref (2)) rfl (fun _ _ _ => rfl) rfl rfl ?_
                          refine wn_go (pc' := 121) (lv' := [(0, .ref (2)), (2, .int (nI (i))), (3, .int (nI (tkF t n p2)))]) (st' := [.retAddr 7, .ref (2)]) rfl (fun _ _ _ k9 => ⟨by decide, k9⟩) ?_
                          refine wn_virS (pc' := 124) rfl rfl (by decide) rfl rfl o_h27 (Nat.le_of_ble_eq_true rfl) (x_tryWord _ _ t ct n p2 lr (nI (0)) (-1) hn hp2 ((fr2 fr_h27 (by decide)).trans ((hfl.2 1 (by decide) (by omega)).trans o1)) o1v o_h27 7 (by omega)) (fun r9 h33 e34 => ?_)
                          obtain ⟨rfl, f_h33, o_h33⟩ := e34
                          by_cases w_h33 : isWd t n p2 7
                          · rw [wdP_t w_h33] at o_h33
                            have fr_h33 := Fr.tr fr_h27 f_h33 (fun _ q => q)
                            rw [← bI_t1 w_h33]
                            have := tkF_le (t := t) (p := (tkA t n p2)) (tkA_le hp2)
                            have := tkA_ge (t := t) (n := n) (p := (tkA t n p2))
                            have := tkA_le (t := t) (p := (tkA t n p2)) (tkA_le hp2)
                            have := tkK_le (t := t) (n := n) (p := (tkA t n p2))
                            show Wn _ _ 124 _ [.int (nI (1))] h33 _
                            refine wn_ifN (t := 134) (f := 127) rfl rfl rfl (by omega) (fun c35 => ?_) (fun c35 => ?_)
                            · have c35 : 1 = 0 := c35
                              exact absurd c35 (by decide)
                            · have c35 : ¬ 1 = 0 := c35
                              refine wn_ld (pc' := 128) (q := 0) (kin := 2) (v := .ref (2)) rfl (fun _ _ _ => rfl) rfl rfl ?_
                              refine wn_virS (pc' := 131) rfl rfl (by decide) rfl rfl o_h33 (Nat.le_of_ble_eq_true rfl) (x_readSaying _ _ t ct n (tkA t n p2) lr w2 hn (tkA_le hp2) hlr J2 ((fr2 fr_h33 (by decide)).trans ((hfl.2 1 (by decide) (by omega)).trans o1)) o1v o_h33 (R1_g.kp (fun k p1 p2 => fr2 fr_h33 (by omega))) (R2_g.kp (fun k p1 p2 => fr2 fr_h33 (by omega)))) (fun r9 h36 e37 => ?_)
                              obtain ⟨rfl, fl0_h36, CS_h36⟩ := e37
                              have fl_h36 := FrL.tr (FrL.f2 hfl fr_h33) fl0_h36
                              show Wn _ _ 131 _ [] h36 _
                              refine wn_jp (pc' := 157) rfl rfl ?_
                              refine wn_incN (n := 1) (pc' := 160) (lv' := [(0, .ref (2)), (2, .int (nI (i + 1))), (3, .int (nI (tkF t n p2)))]) rfl rfl rfl (Nat.le_of_ble_eq_true rfl) rfl (by decide) ?_
                              refine wn_jp (pc' := 41) rfl rfl ?_
                              refine wn_weak (lv' := [(0, .ref (2)), (2, .int (nI (i + 1)))]) (by simp) ?_
                              exact ih h36 (i + 1) (sayR t n (tkA t n p2) w2) (by omega) (by omega) fl_h36 CS_h36 (LnI_s hn hS c13 (Or.inr (Or.inr (Or.inr (Or.inl (⟨w_h33, rfl⟩))))))
                          · rw [wdP_f w_h33] at o_h33
                            have fr_h33 := Fr.tr fr_h27 f_h33 (fun _ q => q)
                            rw [← bI_f0 w_h33]
                            show Wn _ _ 124 _ [.int (nI (0))] h33 _
                            refine wn_ifN (t := 134) (f := 127) rfl rfl rfl (by omega) (fun c38 => ?_) (fun c38 => ?_)
                            · have c38 : 0 = 0 := c38
                              refine wn_ld (pc' := 135) (q := 0) (kin := 2) (v := .ref (2)) rfl (fun _ _ _ => rfl) rfl rfl ?_
                              refine wn_go (pc' := 137) (lv' := [(0, .ref (2)), (2, .int (nI (i))), (3, .int (nI (tkF t n p2)))]) (st' := [.retAddr 8, .ref (2)]) rfl (fun _ _ _ k9 => ⟨by decide, k9⟩) ?_
                              refine wn_virS (pc' := 140) rfl rfl (by decide) rfl rfl o_h33 (Nat.le_of_ble_eq_true rfl) (x_tryWord _ _ t ct n p2 lr (nI (0)) (-1) hn hp2 ((fr2 fr_h33 (by decide)).trans ((hfl.2 1 (by decide) (by omega)).trans o1)) o1v o_h33 8 (by omega)) (fun r9 h39 e40 => ?_)
                              obtain ⟨rfl, f_h39, o_h39⟩ := e40
                              by_cases w_h39 : isWd t n p2 8
                              · rw [wdP_t w_h39] at o_h39
                                have fr_h39 := Fr.tr fr_h33 f_h39 (fun _ q => q)
                                rw [← bI_t1 w_h39]
                                have := tkF_le (t := t) (p := (tkA t n p2)) (tkA_le hp2)
                                have := tkA_ge (t := t) (n := n) (p := (tkA t n p2))
                                have := tkA_le (t := t) (p := (tkA t n p2)) (tkA_le hp2)
                                have := tkK_le (t := t) (n := n) (p := (tkA t n p2))
                                show Wn _ _ 140 _ [.int (nI (1))] h39 _
                                refine wn_ifN (t := 151) (f := 143) rfl rfl rfl (by omega) (fun c41 => ?_) (fun c41 => ?_)
                                · have c41 : 1 = 0 := c41
                                  exact absurd c41 (by decide)
                                · have c41 : ¬ 1 = 0 := c41
                                  refine wn_ld (pc' := 144) (q := 0) (kin := 2) (v := .ref (2)) rfl (fun _ _ _ => rfl) rfl rfl ?_
                                  refine wn_ld (pc' := 145) (q := 3) (kin := 0) (v := .int (nI (tkF t n p2))) rfl (fun _ _ _ => rfl) rfl rfl ?_
                                  have l9 := litL3
                                  have g9 := wd_gt w_h39
                                  refine wn_virS (pc' := 148) rfl rfl (by decide) rfl rfl o_h39 (Nat.le_of_ble_eq_true rfl) (x_readLaw _ _ t ct n (tkA t n p2) lr w2 hn (tkA_le hp2) hlr J2 ((fr2 fr_h39 (by decide)).trans ((hfl.2 1 (by decide) (by omega)).trans o1)) o1v o_h39 (R1_g.kp (fun k p1 p2 => fr2 fr_h39 (by omega))) (R2_g.kp (fun k p1 p2 => fr2 fr_h39 (by omega))) (by omega) (tkF t n p2)) (fun r9 h42 e43 => ?_)
                                  obtain ⟨rfl, fl0_h42, r_h42, lw_h42, CS_h42⟩ := e43
                                  have fl_h42 := FrL.tr (FrL.f2 hfl fr_h39) fl0_h42
                                  show Wn _ _ 148 _ [] h42 _
                                  refine wn_jp (pc' := 157) rfl rfl ?_
                                  refine wn_incN (n := 1) (pc' := 160) (lv' := [(0, .ref (2)), (2, .int (nI (i + 1))), (3, .int (nI (tkF t n p2)))]) rfl rfl rfl (Nat.le_of_ble_eq_true rfl) rfl (by decide) ?_
                                  refine wn_jp (pc' := 41) rfl rfl ?_
                                  refine wn_weak (lv' := [(0, .ref (2)), (2, .int (nI (i + 1)))]) (by simp) ?_
                                  exact ih h42 (i + 1) (r_h42) (by omega) (by omega) fl_h42 CS_h42 (LnI_s hn hS c13 (Or.inr (Or.inr (Or.inr (Or.inr (Or.inl (⟨w_h39, lw_h42⟩)))))))
                              · rw [wdP_f w_h39] at o_h39
                                have fr_h39 := Fr.tr fr_h33 f_h39 (fun _ q => q)
                                rw [← bI_f0 w_h39]
                                show Wn _ _ 140 _ [.int (nI (0))] h39 _
                                refine wn_ifN (t := 151) (f := 143) rfl rfl rfl (by omega) (fun c44 => ?_) (fun c44 => ?_)
                                · have c44 : 0 = 0 := c44
                                  refine wn_ld (pc' := 152) (q := 0) (kin := 2) (v := .ref (2)) rfl (fun _ _ _ => rfl) rfl rfl ?_
                                  refine wn_ic (pc' := 153) (w := nI 1) rfl rfl (by decide) ?_
                                  refine wn_ld (pc' := 154) (q := 3) (kin := 0) (v := .int (nI (tkF t n p2))) rfl (fun _ _ _ => rfl) rfl rfl ?_
                                  refine wn_virS (pc' := 157) rfl rfl (by decide) rfl rfl o_h39 (Nat.le_of_ble_eq_true rfl) (x_refuse0 _ _ lr n _ _ _ _ _ o_h39 (nI (1)) (nI (tkF t n p2))) (fun r9 h45 e46 => ?_)
                                  obtain ⟨rfl, f_h45, o_h45⟩ := e46
                                  have fr_h45 := Fr.tr fr_h39 f_h45 (fun _ q => q)
                                  show Wn _ _ 157 _ [] h45 _
                                  refine wn_incN (n := 1) (pc' := 160) (lv' := [(0, .ref (2)), (2, .int (nI (i + 1))), (3, .int (nI (tkF t n p2)))]) rfl rfl rfl (Nat.le_of_ble_eq_true rfl) rfl (by decide) ?_
                                  refine wn_jp (pc' := 41) rfl rfl ?_
                                  refine wn_weak (lv' := [(0, .ref (2)), (2, .int (nI (i + 1)))]) (by simp) ?_
                                  exact ih h45 (i + 1) (.inl (1, tkF t n p2)) (by omega) (by omega) (FrL.f2 hfl fr_h45) (CS_l (show ¬ nI 1 = 0 by decide) hp2 o_h45 ((R1_g.s R2_g).kp (fun k p1 p2 => fr2 fr_h45 (by omega)))) (LnI_s hn hS c13 (Or.inr (Or.inr (Or.inr (Or.inr (Or.inr ⟨⟨w_h15, w_h21, w_h27, w_h33, w_h39⟩, rfl⟩))))))
                                · have c44 : ¬ 0 = 0 := c44
                                  exact absurd c44 (by decide)
                            · have c38 : ¬ 0 = 0 := c38
                              exact absurd c38 (by decide)
                        · have c32 : ¬ 0 = 0 := c32
                          exact absurd c32 (by decide)
                    · have c26 : ¬ 0 = 0 := c26
                      exact absurd c26 (by decide)
                · have c20 : ¬ 0 = 0 := c20
                  exact absurd c20 (by decide)
  refine wn_weak (lv' := [(0, .ref (2)), (2, .int (nI (0)))]) (by simp) ?_
  exact lp5 (1200 + 1) h3 0 (.inr (0, iniW f)) (by omega) (by omega) fs9 (CS_r o_h3 ((L_h1.kp (fun k p1 p2 => fr2 fA9 (by omega))).kp (fun k p1 p2 => fr2 f_h3 (by omega))) ((W_h1.kp (fun k p1 p2 => fr2 fA9 (by omega))).kp (fun k p1 p2 => fr2 f_h3 (by omega)))) ⟨fun _ q => q, ini_wi f n, Nat.le_refl 0⟩

