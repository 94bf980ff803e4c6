/-! THE CLASS'S READER: parts and sums -/
def FrL (lr : Nat) (h h' : aH) : Prop := h'.length = h.length ∧ ∀ k, k ≠ 2 → k < lr ∨ lr + 20 ≤ k → h'[k]? = h[k]?
theorem fr2 {h h' : aH} (F : Fr [2] h h') {k : Nat} (hk : k ≠ 2) : h'[k]? = h[k]? := F.2 k (by simp only [List.mem_cons, List.not_mem_nil, or_false]; exact hk)
theorem FrL.rfl' (lr : Nat) (h : aH) : FrL lr h h := ⟨rfl, fun _ _ _ => rfl⟩
theorem FrL.f2 {lr : Nat} {h h1 h2 : aH} (A : FrL lr h h1) (B : Fr [2] h1 h2) : FrL lr h h2 := ⟨B.1.trans A.1, fun k a b => (fr2 B a).trans (A.2 k a b)⟩
theorem FrL.q {lr : Nat} {h h1 h2 : aH} (A : FrL lr h h1) (B : FrQ lr h1 h2) : FrL lr h h2 := ⟨B.1.trans A.1, fun k a b => (B.2 k b).trans (A.2 k a b)⟩
theorem FrL.tr {lr : Nat} {h h1 h2 : aH} (A : FrL lr h h1) (B : FrL lr h1 h2) : FrL lr h h2 := ⟨B.1.trans A.1, fun k a b => (B.2 k a b).trans (A.2 k a b)⟩
/-- the class's reader stands at an outcome so far -/
def CS (t : Nat → Int32) (n lr : Nat) (h : aH) (r : PR) : Prop := match r with
  | .inl e => ¬ nI e.1 = 0 ∧ ∃ p', p' ≤ n ∧ isO h 2 3 (rdS t lr (nI e.1) (nI e.2) n p') ∧ LandS h lr
  | .inr (p, w) => isO h 2 3 (rdS t lr (nI 0) (-1) n p) ∧ LandR h lr w ∧ LawsR h (lr + 9) w
theorem CS_l {t : Nat → Int32} {n lr : Nat} {h : aH} {k pl p' : Nat} (hb : ¬ nI k = 0) (hp : p' ≤ n) (o : isO h 2 3 (rdS t lr (nI k) (nI pl) n p')) (S : LandS h lr) : CS t n lr h (.inl (k, pl)) := ⟨hb, p', hp, o, S⟩
theorem CS_r {t : Nat → Int32} {n lr : Nat} {h : aH} {p : Nat} {w : Nat → Int32} (o : isO h 2 3 (rdS t lr (nI 0) (-1) n p)) (R1 : LandR h lr w) (R2 : LawsR h (lr + 9) w) : CS t n lr h (.inr (p, w)) := ⟨o, R1, R2⟩
theorem nmF_nz {t : Nat → Int32} {n p : Nat} : ¬ nI (nmF t n p) = 0 := by
  unfold nmF
  split <;> decide
theorem sub1 {n : Nat} (h : n < 2 ^ 30) : ((nI n) - (nI 1)).toInt = (n : Int) - 1 := mI_int h
theorem pre1 {n : Nat} (h : 1 ≤ n) (h2 : n < 2 ^ 30) : (nI (n - 1)).toInt = (n : Int) - 1 := by rw [nI_toInt (by omega)]; omega
theorem jnC_le {j : Nat} (h : j ≤ 4) : jnC j ≤ 4 := by unfold jnC; split <;> omega
theorem x_num0 (d : Nat) (h : aH) (t ct : Nat → Int32) (n p lr : Nat) (hn : n ≤ 1200) (hp : p ≤ n) (o1 : isB h 1 1200 ct) (o1v : ∀ x, x < 1200 → ct x = t x) (o2 : isO h 2 3 (rdS t lr (nI 0) (-1) n p)) (lo : Nat) (hlo : lo ≤ 2) (hi : Int32) (hiI : Int) (eh : hi.toInt = hiI) (hhi : hiI ≤ 999) : Sp (Rn (d + 3)) 34 [.ref (2), .int (nI (lo)), .int (hi)] h (fun r9 h9 => Fr [2] h h9 ∧ ((nmOK t n p lo hiI ∧ r9 = some (.int (nI (tkV t n p))) ∧ isO h9 2 3 (rdS t lr (nI 0) (-1) n (tkA t n p))) ∨ (¬ nmOK t n p lo hiI ∧ r9 = some (.int (-1)) ∧ isO h9 2 3 (rdS t lr (nI (nmF t n p)) (nI (tkF t n p)) n p)))) := by
  subst eh
  exact x_takeNumber0 d h t ct n p lr hn hp o1 o1v o2 lo hlo hi hhi
theorem SumR_e {t : Nat → Int32} {n : Nat} {hi : Int} {j p : Nat} {w : Nat → Int32} {e : Nat × Nat} (h : prtR t n hi j p w = .inl e) : SumR t n hi j p w (.inl e) := ⟨1, by unfold SumS; rw [h]⟩
theorem SumR_0 {t : Nat → Int32} {n : Nat} {hi : Int} {j p p1 : Nat} {w w1 : Nat → Int32} (h : prtR t n hi j p w = .inr (p1, w1)) (a : ¬ isWd t n p1 14) (b : ¬ isWd t n p1 15) (c : ¬ isWd t n p1 16) : SumR t n hi j p w (.inr (p1, w1)) := ⟨1, by unfold SumS; rw [h]; exact Or.inl ⟨⟨a, b, c⟩, rfl⟩⟩
theorem SumR_s {t : Nat → Int32} {n : Nat} {hi : Int} {j p p1 j1 : Nat} {w w1 : Nat → Int32} {r : PR} (h : prtR t n hi j p w = .inr (p1, w1)) (a : jnW t n p1 j1) (b : SumR t n hi j1 (tkA t n p1) w1 r) : SumR t n hi j p w r := by
  obtain ⟨f, b⟩ := b
  exact ⟨f + 1, by unfold SumS; rw [h]; exact Or.inr ⟨j1, a, b⟩⟩
/-- a sum half read -/
def SmI (t : Nat → Int32) (n : Nat) (hi : Int) (j0 p : Nat) (w : Nat → Int32) (i : Nat) (jj : Int32) (r : PR) : Prop := match r with
  | .inl e => SumR t n hi j0 p w (.inl e)
  | .inr (p2, w2) => (jj = -1 ∧ SumR t n hi j0 p w (.inr (p2, w2))) ∨ ∃ j', j' ≤ 4 ∧ jj = nI (jnC j') ∧ WJ w2 ∧ 5 * npW w2 + 4 ≤ p2 ∧ p2 ≤ n ∧ i < p2 ∧ ∀ r', SumR t n hi j' p2 w2 r' → SumR t n hi j0 p w r'
theorem SmI_l {t : Nat → Int32} {n : Nat} {hi : Int} {j0 p : Nat} {w : Nat → Int32} {i : Nat} {jj : Int32} {e : Nat × Nat} (h : SumR t n hi j0 p w (.inl e)) : SmI t n hi j0 p w i jj (.inl e) := h
theorem SmI_e {t : Nat → Int32} {n : Nat} {hi : Int} {j0 p : Nat} {w : Nat → Int32} {i p1 : Nat} {w1 : Nat → Int32} (h : SumR t n hi j0 p w (.inr (p1, w1))) : SmI t n hi j0 p w i (-1) (.inr (p1, w1)) := Or.inl ⟨rfl, h⟩
theorem SmI_g {t : Nat → Int32} {n : Nat} {hi : Int} {j0 p : Nat} {w : Nat → Int32} {i p1 : Nat} {w1 : Nat → Int32} (j' : Nat) (h1 : j' ≤ 4) (h2 : WJ w1) (h3 : 5 * npW w1 + 4 ≤ p1) (h4 : p1 ≤ n) (h5 : i < p1) (h6 : ∀ r', SumR t n hi j' p1 w1 r' → SumR t n hi j0 p w r') : SmI t n hi j0 p w i (nI (jnC j')) (.inr (p1, w1)) := Or.inr ⟨j', h1, rfl, h2, h3, h4, h5, h6⟩
theorem x_hv0 (d : Nat) (h : aH) (t ct : Nat → Int32) (n p lr : Nat) (w : Nat → Int32) (hn : n ≤ 1200) (hp : p ≤ n) (hlr : lr = 24 ∨ lr = 3) (hJ : WJ w) (o1 : isB h 1 1200 ct) (o1v : ∀ x, x < 1200 → ct x = t x) (o2 : isO h 2 3 (rdS t lr (nI 0) (-1) n p)) (R1 : LandR h lr w) (R2 : LawsR h (lr + 9) w) (i : Nat) (hi : i < ntW w) : Rn (d + 1) 33 [.ref (2), .int (nI (i))] h (some (.int (nI (vaW w i - 1)))) h 0 0 := by
  obtain ⟨sz, rf, rt, rv, ag, vr, sd, tl, l0, l1, l2, l3, l4, l5, l6, l7, l8, g1, g2, g3, g4, g5⟩ := id R1
  obtain ⟨sec, it, fi, se, sg, lst, rs, rp, pj, pk, pv, k0, k1, k2, k3, k4, k5, k6, k7, k8, k9, k10, k11, k12, k13⟩ := id R2
  obtain ⟨e0, e0b⟩ := wj_0 hJ
  obtain ⟨⟨e1, e2⟩, ⟨e3, e4⟩, ⟨e5, e6⟩⟩ := Wf_n hJ.wf
  obtain ⟨⟨e7, e8⟩, ⟨e9, e10⟩⟩ := Wf_m hJ.wf
  rw [e0, e1, e3, e5] at l0
  rw [e7, e9] at k1
  have hF := tkF_le (t := t) hp
  have hA := tkA_ge (t := t) (n := n) (p := p)
  have hA2 := tkA_le (t := t) hp
  have hK := tkK_le (t := t) (n := n) (p := p)
  have hvb := wf_vab hJ.wf hi
  refine Rn_of (by decide) (Nat.le_of_ble_eq_true rfl) ?_
  show Wn _ _ 0 [(0, .ref (2)), (1, .int (nI (i)))] [] _ _
  refine wn_ld (pc' := 1) (q := 1) (kin := 0) (v := .int (nI (i))) rfl (fun _ _ _ => rfl) rfl rfl ?_
  refine wn_ifN (t := 29) (f := 4) rfl rfl rfl (by omega) (fun c1 => ?_) (fun c1 => ?_)
  · have c1 : i < 0 := c1
    exfalso; omega
  · have c1 : 0 ≤ i := c1
    refine wn_ld (pc' := 5) (q := 1) (kin := 0) (v := .int (nI (i))) rfl (fun _ _ _ => rfl) rfl rfl ?_
    refine wn_ld (pc' := 6) (q := 0) (kin := 2) (v := .ref (2)) rfl (fun _ _ _ => rfl) rfl rfl ?_
    refine wn_get (pc' := 9) (v := .ref (lr)) rfl rfl o2 rfl ?_
    refine wn_get (pc' := 12) (v := .int (nI (ntW w))) rfl rfl l0 rfl ?_
    refine wn_icmpN (t := 29) (f := 15) rfl rfl rfl (by omega) (by omega) (fun c2 => ?_) (fun c2 => ?_)
    · have c2 : (ntW w) ≤ i := c2
      exfalso; omega
    · have c2 : i < (ntW w) := c2
      refine wn_ld (pc' := 16) (q := 0) (kin := 2) (v := .ref (2)) rfl (fun _ _ _ => rfl) rfl rfl ?_
      refine wn_get (pc' := 19) (v := .ref (lr)) rfl rfl o2 rfl ?_
      refine wn_get (pc' := 22) (v := .ref (lr + 6)) rfl rfl l0 rfl ?_
      refine wn_ld (pc' := 23) (q := 1) (kin := 0) (v := .int (nI (i))) rfl (fun _ _ _ => rfl) rfl rfl ?_
      have := wf_vab hJ.wf (show i < ntW w by omega)
      refine wn_ialdv (pc' := 24) (j := i) (v := (nI (vaW w i))) rfl rfl l6 rfl (by omega) (by decide) ((g4 i (by omega)).1.trans (wf_va hJ.wf (by omega))) ?_
      refine wn_ic (pc' := 25) (w := nI 1) rfl rfl (by decide) ?_
      refine wn_subN (pc' := 26) rfl rfl (by omega) ?_
      refine wn_jp (pc' := 30) rfl rfl ?_
      exact wn_iret rfl rfl rfl ⟨rfl, rfl⟩

theorem x_hvN (d : Nat) (h : aH)  : Rn (d + 1) 33 [.ref (2), .int (-1)] h (some (.int (-1))) h 0 0 := by
  refine Rn_of (by decide) (Nat.le_of_ble_eq_true rfl) ?_
  show Wn _ _ 0 [(0, .ref (2)), (1, .int (-1))] [] _ _
  refine wn_ld (pc' := 1) (q := 1) (kin := 0) (v := .int (-1)) rfl (fun _ _ _ => rfl) rfl rfl ?_
  refine wn_ifc (t := 29) (f := 4) rfl rfl rfl (fun c1 => ?_) (fun c1 => ?_)
  · have c1 : ((-1) : Int32) < 0 := c1
    refine wn_ic (pc' := 30) (w := -1) rfl rfl (by decide) ?_
    exact wn_iret rfl rfl rfl ⟨rfl, rfl⟩
  · have c1 : 0 ≤ ((-1) : Int32) := c1
    exact absurd c1 (by decide)

theorem x_hvX (d : Nat) (h : aH) (lr : Nat) (w : Nat → Int32) (hlr : lr = 24 ∨ lr = 3) (hJ : WJ w) (R1 : LandR h lr w) {fk fp y1 y2 y3 y4 y5 : Int32} (o2 : isO h 2 3 [.int fk, .int fp, .ref lr, .ref 1, .int y1, .int y2, .int y3, .int y4, .int y5]) (i : Nat) (hi : i < ntW w) (hvb : 2 ≤ vaW w i ∧ vaW w i ≤ 5) : Rn (d + 1) 33 [.ref (2), .int (nI (i))] h (some (.int (nI (vaW w i - 1)))) h 0 0 := by
  obtain ⟨sz, rf, rt, rv, ag, vr, sd, tl, l0, l1, l2, l3, l4, l5, l6, l7, l8, g1, g2, g3, g4, g5⟩ := id R1
  obtain ⟨e0, e0b⟩ := wj_0 hJ
  obtain ⟨⟨e1, e2⟩, ⟨e3, e4⟩, ⟨e5, e6⟩⟩ := Wf_n hJ.wf
  rw [e0, e1, e3, e5] at l0
  refine Rn_of (by decide) (Nat.le_of_ble_eq_true rfl) ?_
  show Wn _ _ 0 [(0, .ref (2)), (1, .int (nI (i)))] [] _ _
  refine wn_ld (pc' := 1) (q := 1) (kin := 0) (v := .int (nI (i))) rfl (fun _ _ _ => rfl) rfl rfl ?_
  refine wn_ifN (t := 29) (f := 4) rfl rfl rfl (by omega) (fun c1 => ?_) (fun c1 => ?_)
  · have c1 : i < 0 := c1
    exfalso; omega
  · have c1 : 0 ≤ i := c1
    refine wn_ld (pc' := 5) (q := 1) (kin := 0) (v := .int (nI (i))) rfl (fun _ _ _ => rfl) rfl rfl ?_
    refine wn_ld (pc' := 6) (q := 0) (kin := 2) (v := .ref (2)) rfl (fun _ _ _ => rfl) rfl rfl ?_
    refine wn_get (pc' := 9) (v := .ref (lr)) rfl rfl o2 rfl ?_
    refine wn_get (pc' := 12) (v := .int (nI (ntW w))) rfl rfl l0 rfl ?_
    refine wn_icmpN (t := 29) (f := 15) rfl rfl rfl (by omega) (by omega) (fun c2 => ?_) (fun c2 => ?_)
    · have c2 : (ntW w) ≤ i := c2
      exfalso; omega
    · have c2 : i < (ntW w) := c2
      refine wn_ld (pc' := 16) (q := 0) (kin := 2) (v := .ref (2)) rfl (fun _ _ _ => rfl) rfl rfl ?_
      refine wn_get (pc' := 19) (v := .ref (lr)) rfl rfl o2 rfl ?_
      refine wn_get (pc' := 22) (v := .ref (lr + 6)) rfl rfl l0 rfl ?_
      refine wn_ld (pc' := 23) (q := 1) (kin := 0) (v := .int (nI (i))) rfl (fun _ _ _ => rfl) rfl rfl ?_
      have := wf_vab hJ.wf (show i < ntW w by omega)
      refine wn_ialdv (pc' := 24) (j := i) (v := (nI (vaW w i))) rfl rfl l6 rfl (by omega) (by decide) ((g4 i (by omega)).1.trans (wf_va hJ.wf (by omega))) ?_
      refine wn_ic (pc' := 25) (w := nI 1) rfl rfl (by decide) ?_
      refine wn_subN (pc' := 26) rfl rfl (by omega) ?_
      refine wn_jp (pc' := 30) rfl rfl ?_
      exact wn_iret rfl rfl rfl ⟨rfl, rfl⟩

theorem x_sign0 (d : Nat) (h : aH) (t ct : Nat → Int32) (n p lr : Nat) (hn : n ≤ 1200) (hp : p ≤ n) (o1 : isB h 1 1200 ct) (o1v : ∀ x, x < 1200 → ct x = t x) (o2 : isO h 2 3 (rdS t lr (nI 0) (-1) n p)) : Sp (Rn (d + 5)) 32 [.ref (2)] h (fun r9 h9 => Fr [2] h h9 ∧ ((isWd t n p 17 ∧ r9 = some (.int (nI 0)) ∧ isO h9 2 3 (rdS t lr (nI 0) (-1) n (tkA t n p))) ∨ (isWd t n p 18 ∧ r9 = some (.int (nI 1)) ∧ isO h9 2 3 (rdS t lr (nI 0) (-1) n (tkA t n p))) ∨ (isWd t n p 19 ∧ r9 = some (.int (nI 2)) ∧ isO h9 2 3 (rdS t lr (nI 0) (-1) n (tkA t n p))) ∨ (¬ isWd t n p 17 ∧ ¬ isWd t n p 18 ∧ ¬ isWd t n p 19 ∧ r9 = some (.int (nI 2)) ∧ isO h9 2 3 (rdS t lr (nI 1) (nI (tkF t n p)) n p)))) := by
  have hF := tkF_le (t := t) hp
  have hA := tkA_ge (t := t) (n := n) (p := p)
  have hA2 := tkA_le (t := t) hp
  have hK := tkK_le (t := t) (n := n) (p := p)
  refine Sp_of (by decide) (Nat.le_of_ble_eq_true rfl) ?_
  show Wn _ _ 0 [(0, .ref (2))] [] _ _
  refine wn_ld (pc' := 1) (q := 0) (kin := 2) (v := .ref (2)) rfl (fun _ _ _ => rfl) rfl rfl ?_
  refine wn_go (pc' := 3) (lv' := [(0, .ref (2))]) (st' := [.retAddr 17, .ref (2)]) rfl (fun _ _ _ k9 => ⟨by decide, k9⟩) ?_
  refine wn_virS (pc' := 6) rfl rfl (by decide) rfl rfl o2 (Nat.le_of_ble_eq_true rfl) (x_tryWord _ _ t ct n p lr (nI (0)) (-1) hn hp o1 o1v o2 17 (by omega)) (fun r9 h1 e2 => ?_)
  obtain ⟨rfl, f_h1, o_h1⟩ := e2
  by_cases w_h1 : isWd t n p 17
  · rw [wdP_t w_h1] at o_h1
    have fr_h1 := Fr.tr (Fr.rfl' [2] h) f_h1 (fun _ q => q)
    rw [← bI_t1 w_h1]
    have := tkF_le (t := t) (p := (tkA t n p)) (tkA_le hp)
    have := tkA_ge (t := t) (n := n) (p := (tkA t n p))
    have := tkA_le (t := t) (p := (tkA t n p)) (tkA_le hp)
    have := tkK_le (t := t) (n := n) (p := (tkA t n p))
    show Wn _ _ 6 _ [.int (nI (1))] h1 _
    refine wn_ifN (t := 11) (f := 9) rfl rfl rfl (by omega) (fun c3 => ?_) (fun c3 => ?_)
    · have c3 : 1 = 0 := c3
      exact absurd c3 (by decide)
    · have c3 : ¬ 1 = 0 := c3
      refine wn_ic (pc' := 10) (w := nI 0) rfl rfl (by decide) ?_
      exact wn_iret rfl rfl rfl ⟨fr_h1, Or.inl ⟨w_h1, rfl, o_h1⟩⟩
  · rw [wdP_f w_h1] at o_h1
    have fr_h1 := Fr.tr (Fr.rfl' [2] h) f_h1 (fun _ q => q)
    rw [← bI_f0 w_h1]
    show Wn _ _ 6 _ [.int (nI (0))] h1 _
    refine wn_ifN (t := 11) (f := 9) rfl rfl rfl (by omega) (fun c4 => ?_) (fun c4 => ?_)
    · have c4 : 0 = 0 := c4
      refine wn_ld (pc' := 12) (q := 0) (kin := 2) (v := .ref (2)) rfl (fun _ _ _ => rfl) rfl rfl ?_
      refine wn_go (pc' := 14) (lv' := [(0, .ref (2))]) (st' := [.retAddr 18, .ref (2)]) rfl (fun _ _ _ k9 => ⟨by decide, k9⟩) ?_
      refine wn_virS (pc' := 17) rfl rfl (by decide) rfl rfl o_h1 (Nat.le_of_ble_eq_true rfl) (x_tryWord _ _ t ct n p lr (nI (0)) (-1) hn hp ((fr2 fr_h1 (by decide)).trans o1) o1v o_h1 18 (by omega)) (fun r9 h5 e6 => ?_)
      obtain ⟨rfl, f_h5, o_h5⟩ := e6
      by_cases w_h5 : isWd t n p 18
      · rw [wdP_t w_h5] at o_h5
        have fr_h5 := Fr.tr fr_h1 f_h5 (fun _ q => q)
        rw [← bI_t1 w_h5]
        have := tkF_le (t := t) (p := (tkA t n p)) (tkA_le hp)
        have := tkA_ge (t := t) (n := n) (p := (tkA t n p))
        have := tkA_le (t := t) (p := (tkA t n p)) (tkA_le hp)
        have := tkK_le (t := t) (n := n) (p := (tkA t n p))
        show Wn _ _ 17 _ [.int (nI (1))] h5 _
        refine wn_ifN (t := 22) (f := 20) rfl rfl rfl (by omega) (fun c7 => ?_) (fun c7 => ?_)
        · have c7 : 1 = 0 := c7
          exact absurd c7 (by decide)
        · have c7 : ¬ 1 = 0 := c7
          refine wn_ic (pc' := 21) (w := nI 1) rfl rfl (by decide) ?_
          exact wn_iret rfl rfl rfl ⟨fr_h5, Or.inr (Or.inl ⟨w_h5, rfl, o_h5⟩)⟩
      · rw [wdP_f w_h5] at o_h5
        have fr_h5 := Fr.tr fr_h1 f_h5 (fun _ q => q)
        rw [← bI_f0 w_h5]
        show Wn _ _ 17 _ [.int (nI (0))] h5 _
        refine wn_ifN (t := 22) (f := 20) rfl rfl rfl (by omega) (fun c8 => ?_) (fun c8 => ?_)
        · have c8 : 0 = 0 := c8
          refine wn_ld (pc' := 23) (q := 0) (kin := 2) (v := .ref (2)) rfl (fun _ _ _ => rfl) rfl rfl ?_
          refine wn_go (pc' := 25) (lv' := [(0, .ref (2))]) (st' := [.retAddr 19, .ref (2)]) rfl (fun _ _ _ k9 => ⟨by decide, k9⟩) ?_
          refine wn_virS (pc' := 28) rfl rfl (by decide) rfl rfl o_h5 (Nat.le_of_ble_eq_true rfl) (x_takeWord0 _ _ t ct n p lr hn hp ((fr2 fr_h5 (by decide)).trans o1) o1v o_h5 19 (by omega)) (fun r9 h9 e10 => ?_)
          obtain ⟨rfl, f_h9, ⟨w_h9, o_h9⟩ | ⟨w_h9, o_h9⟩⟩ := e10
          · have fr_h9 := Fr.tr fr_h5 f_h9 (fun _ q => q)
            have := tkF_le (t := t) (p := (tkA t n p)) (tkA_le hp)
            have := tkA_ge (t := t) (n := n) (p := (tkA t n p))
            have := tkA_le (t := t) (p := (tkA t n p)) (tkA_le hp)
            have := tkK_le (t := t) (n := n) (p := (tkA t n p))
            have g_h9 := wd_gt w_h9
            show Wn _ _ 28 _ [] h9 _
            refine wn_ic (pc' := 29) (w := nI 2) rfl rfl (by decide) ?_
            exact wn_iret rfl rfl rfl ⟨fr_h9, Or.inr (Or.inr (Or.inl ⟨w_h9, rfl, o_h9⟩))⟩
          · have fr_h9 := Fr.tr fr_h5 f_h9 (fun _ q => q)
            show Wn _ _ 28 _ [] h9 _
            refine wn_ic (pc' := 29) (w := nI 2) rfl rfl (by decide) ?_
            exact wn_iret rfl rfl rfl ⟨fr_h9, Or.inr (Or.inr (Or.inr ⟨w_h1, w_h5, w_h9, rfl, o_h9⟩))⟩
        · have c8 : ¬ 0 = 0 := c8
          exact absurd c8 (by decide)
    · have c4 : ¬ 0 = 0 := c4
      exact absurd c4 (by decide)

theorem x_signB (d : Nat) (h : aH) (t ct : Nat → Int32) (n p lr : Nat) (fk fp : Int32) (hn : n ≤ 1200) (hp : p ≤ n) (o1 : isB h 1 1200 ct) (o1v : ∀ x, x < 1200 → ct x = t x) (o2 : isO h 2 3 (rdS t lr fk fp n p)) (hb : ¬ fk = 0) : Sp (Rn (d + 5)) 32 [.ref (2)] h (fun r9 h9 => ∃ x : Int32, r9 = some (.int x) ∧ Fr [2] h h9 ∧ ∃ p', p' ≤ n ∧ isO h9 2 3 (rdS t lr fk fp n (p'))) := by
  have hF := tkF_le (t := t) hp
  have hA := tkA_ge (t := t) (n := n) (p := p)
  have hA2 := tkA_le (t := t) hp
  have hK := tkK_le (t := t) (n := n) (p := p)
  refine Sp_of (by decide) (Nat.le_of_ble_eq_true rfl) ?_
  show Wn _ _ 0 [(0, .ref (2))] [] _ _
  refine wn_ld (pc' := 1) (q := 0) (kin := 2) (v := .ref (2)) rfl (fun _ _ _ => rfl) rfl rfl ?_
  refine wn_go (pc' := 3) (lv' := [(0, .ref (2))]) (st' := [.retAddr 17, .ref (2)]) rfl (fun _ _ _ k9 => ⟨by decide, k9⟩) ?_
  refine wn_virS (pc' := 6) rfl rfl (by decide) rfl rfl o2 (Nat.le_of_ble_eq_true rfl) (x_tryWord _ _ t ct n p lr fk fp hn hp o1 o1v o2 17 (by omega)) (fun r9 h1 e2 => ?_)
  obtain ⟨rfl, f_h1, o_h1⟩ := e2
  have fr_h1 := Fr.tr (Fr.rfl' [2] h) f_h1 (fun _ q => q)
  show Wn _ _ 6 _ [.int (bI (isWd t n p 17))] h1 _
  refine wn_ifeqB (t := 11) (f := 9) rfl rfl rfl (fun c3 => ?_) (fun c3 => ?_)
  · have c3 : ¬ (isWd t n p 17) := c3
    refine wn_ld (pc' := 12) (q := 0) (kin := 2) (v := .ref (2)) rfl (fun _ _ _ => rfl) rfl rfl ?_
    refine wn_go (pc' := 14) (lv' := [(0, .ref (2))]) (st' := [.retAddr 18, .ref (2)]) rfl (fun _ _ _ k9 => ⟨by decide, k9⟩) ?_
    refine wn_virS (pc' := 17) rfl rfl (by decide) rfl rfl o_h1 (Nat.le_of_ble_eq_true rfl) (x_tryWord _ _ t ct n (wdP t n p 17) lr fk fp hn (wdP_le hp) ((fr2 fr_h1 (by decide)).trans o1) o1v o_h1 18 (by omega)) (fun r9 h4 e5 => ?_)
    obtain ⟨rfl, f_h4, o_h4⟩ := e5
    have fr_h4 := Fr.tr fr_h1 f_h4 (fun _ q => q)
    show Wn _ _ 17 _ [.int (bI (isWd t n (wdP t n p 17) 18))] h4 _
    refine wn_ifeqB (t := 22) (f := 20) rfl rfl rfl (fun c6 => ?_) (fun c6 => ?_)
    · have c6 : ¬ (isWd t n (wdP t n p 17) 18) := c6
      refine wn_ld (pc' := 23) (q := 0) (kin := 2) (v := .ref (2)) rfl (fun _ _ _ => rfl) rfl rfl ?_
      refine wn_go (pc' := 25) (lv' := [(0, .ref (2))]) (st' := [.retAddr 19, .ref (2)]) rfl (fun _ _ _ k9 => ⟨by decide, k9⟩) ?_
      refine wn_virS (pc' := 28) rfl rfl (by decide) rfl rfl o_h4 (Nat.le_of_ble_eq_true rfl) (x_takeWordB _ _ t ct n (wdP t n (wdP t n p 17) 18) lr fk fp hn (wdP_le (wdP_le hp)) ((fr2 fr_h4 (by decide)).trans o1) o1v o_h4 hb 19 (by omega)) (fun r9 h7 e8 => ?_)
      obtain ⟨rfl, f_h7, p_h7, hp_h7, o_h7⟩ := e8
      have fr_h7 := Fr.tr fr_h4 f_h7 (fun _ q => q)
      show Wn _ _ 28 _ [] h7 _
      refine wn_ic (pc' := 29) (w := nI 2) rfl rfl (by decide) ?_
      exact wn_iret rfl rfl rfl ⟨_, rfl, fr_h7, _, hp_h7, o_h7⟩
    · have c6 : (isWd t n (wdP t n p 17) 18) := c6
      refine wn_ic (pc' := 21) (w := nI 1) rfl rfl (by decide) ?_
      exact wn_iret rfl rfl rfl ⟨_, rfl, fr_h4, _, (wdP_le (wdP_le hp)), o_h4⟩
  · have c3 : (isWd t n p 17) := c3
    refine wn_ic (pc' := 10) (w := nI 0) rfl rfl (by decide) ?_
    exact wn_iret rfl rfl rfl ⟨_, rfl, fr_h1, _, (wdP_le hp), o_h1⟩

theorem x_readPart (d : Nat) (h : aH) (t ct : Nat → Int32) (n p lr : Nat) (w : Nat → Int32) (hn : n ≤ 1200) (hp : p ≤ n) (hlr : lr = 24 ∨ lr = 3) (hJ : WJ w) (o1 : isB h 1 1200 ct) (o1v : ∀ x, x < 1200 → ct x = t x) (o2 : isO h 2 3 (rdS t lr (nI 0) (-1) n p)) (R1 : LandR h lr w) (R2 : LawsR h (lr + 9) w) (hnp : npW w < 240) (j : Nat) (hj : j ≤ 4) (hi : Int32) (hiI : Int) (eh : hi.toInt = hiI) (h4 : hiI ≤ 4) : Sp (Rn (d + 4)) 31 [.ref (2), .int (nI (jnC j)), .int (hi)] h (fun r9 h9 => r9 = none ∧ FrL lr h h9 ∧ CS t n lr h9 (prtR t n hiI j p w)) := by
  obtain ⟨sz, rf, rt, rv, ag, vr, sd, tl, l0, l1, l2, l3, l4, l5, l6, l7, l8, g1, g2, g3, g4, g5⟩ := id R1
  obtain ⟨sec, it, fi, se, sg, lst, rs, rp, pj, pk, pv, k0, k1, k2, k3, k4, k5, k6, k7, k8, k9, k10, k11, k12, k13⟩ := id R2
  obtain ⟨e0, e0b⟩ := wj_0 hJ
  obtain ⟨⟨e1, e2⟩, ⟨e3, e4⟩, ⟨e5, e6⟩⟩ := Wf_n hJ.wf
  obtain ⟨⟨e7, e8⟩, ⟨e9, e10⟩⟩ := Wf_m hJ.wf
  rw [e0, e1, e3, e5] at l0
  rw [e7, e9] at k1
  have hF := tkF_le (t := t) hp
  have hA := tkA_ge (t := t) (n := n) (p := p)
  have hA2 := tkA_le (t := t) hp
  have hK := tkK_le (t := t) (n := n) (p := p)
  have hjc := jnC_le hj
  refine Sp_of (by decide) (Nat.le_of_ble_eq_true rfl) ?_
  show Wn _ _ 0 [(0, .ref (2)), (1, .int (nI (jnC j))), (2, .int (hi))] [] _ _
  refine wn_ld (pc' := 1) (q := 0) (kin := 2) (v := .ref (2)) rfl (fun _ _ _ => rfl) rfl rfl ?_
  refine wn_go (pc' := 3) (lv' := [(0, .ref (2)), (1, .int (nI (jnC j))), (2, .int (hi))]) (st' := [.retAddr 11, .ref (2)]) rfl (fun _ _ _ k9 => ⟨by decide, k9⟩) ?_
  refine wn_virS (pc' := 6) rfl rfl (by decide) rfl rfl o2 (Nat.le_of_ble_eq_true rfl) (x_tryWord _ _ t ct n p lr (nI (0)) (-1) hn hp o1 o1v o2 11 (by omega)) (fun r9 h1 e2 => ?_)
  obtain ⟨rfl, f_h1, o_h1⟩ := e2
  by_cases w_h1 : isWd t n p 11
  · rw [wdP_t w_h1] at o_h1
    have fr_h1 := Fr.tr (Fr.rfl' [2] h) f_h1 (fun _ q => q)
    rw [← bI_t1 w_h1]
    have := tkF_le (t := t) (p := (tkA t n p)) (tkA_le hp)
    have := tkA_ge (t := t) (n := n) (p := (tkA t n p))
    have := tkA_le (t := t) (p := (tkA t n p)) (tkA_le hp)
    have := tkK_le (t := t) (n := n) (p := (tkA t n p))
    show Wn _ _ 6 _ [.int (nI (1))] h1 _
    refine wn_ifN (t := 30) (f := 9) rfl rfl rfl (by omega) (fun c3 => ?_) (fun c3 => ?_)
    · have c3 : 1 = 0 := c3
      exact absurd c3 (by decide)
    · have c3 : ¬ 1 = 0 := c3
      refine wn_ld (pc' := 10) (q := 0) (kin := 2) (v := .ref (2)) rfl (fun _ _ _ => rfl) rfl rfl ?_
      refine wn_get (pc' := 13) (v := .ref (lr)) rfl rfl o_h1 rfl ?_
      refine wn_get (pc' := 16) (v := .ref (lr + 9)) rfl rfl ((fr2 fr_h1 (by omega)).trans l0) rfl ?_
      refine wn_ld (pc' := 17) (q := 1) (kin := 0) (v := .int (nI (jnC j))) rfl (fun _ _ _ => rfl) rfl rfl ?_
      refine wn_ic (pc' := 18) (w := nI 1) rfl rfl (by decide) ?_
      refine wn_ld (pc' := 19) (q := 0) (kin := 2) (v := .ref (2)) rfl (fun _ _ _ => rfl) rfl rfl ?_
      refine wn_ic (pc' := 20) (w := nI 0) rfl rfl (by decide) ?_
      refine wn_ld (pc' := 21) (q := 2) (kin := 0) (v := .int (hi)) rfl (fun _ _ _ => rfl) rfl rfl ?_
      refine wn_virS (pc' := 24) rfl rfl (by decide) rfl rfl o_h1 (Nat.le_of_ble_eq_true rfl) (x_num0 _ _ t ct n (tkA t n p) lr hn (tkA_le hp) ((fr2 fr_h1 (by decide)).trans o1) o1v o_h1 0 (by omega) (hi) (hiI) eh (by omega)) (fun r9 h4 e5 => ?_)
      obtain ⟨f_h4, ⟨w_h4, rfl, o_h4⟩ | ⟨w_h4, rfl, o_h4⟩⟩ := e5
      · have fr_h4 := Fr.tr fr_h1 f_h4 (fun _ q => q)
        have := tkF_le (t := t) (p := (tkA t n (tkA t n p))) (tkA_le (tkA_le hp))
        have := tkA_ge (t := t) (n := n) (p := (tkA t n (tkA t n p)))
        have := tkA_le (t := t) (p := (tkA t n (tkA t n p))) (tkA_le (tkA_le hp))
        have := tkK_le (t := t) (n := n) (p := (tkA t n (tkA t n p)))
        have b1_h4 := w_h4.2.1
        have b2_h4 := w_h4.2.2
        have g_h4 := nm_gt w_h4
        show Wn _ _ 24 _ [.int (nI (tkV t n (tkA t n p))), .int (nI (1)), .int (nI (jnC j)), .ref (lr + 9)] h4 _
        refine wn_virS (pc' := 27) rfl rfl (by decide) rfl rfl ((fr2 fr_h4 (by omega)).trans k1) (Nat.le_of_ble_eq_true rfl) (x_addPart0 _ _ lr w hJ j 1 (tkV t n (tkA t n p)) (by omega) hj (R1.kp (fun k p1 p2 => fr2 fr_h4 (by omega))) (R2.kp (fun k p1 p2 => fr2 fr_h4 (by omega)))) (fun r9 h6 e7 => ?_)
        obtain ⟨rfl, q_h6, L_h6, W_h6⟩ := e7
        show Wn _ _ 27 _ [] h6 _
        refine wn_jp (pc' := 130) rfl rfl ?_
        have eR : prtR t n hiI j p w = .inr (_, _) := (pI_t w_h1).trans (pI_t w_h4)
        refine wn_vret rfl rfl ⟨rfl, (FrL.f2 (FrL.rfl' lr h) fr_h4).q q_h6, ?_⟩
        rw [eR]
        exact CS_r ((q_h6.2 2 (by omega)).trans o_h4) L_h6 W_h6
      · have fr_h4 := Fr.tr fr_h1 f_h4 (fun _ q => q)
        show Wn _ _ 24 _ [.int (-1), .int (nI (1)), .int (nI (jnC j)), .ref (lr + 9)] h4 _
        refine wn_virS (pc' := 27) rfl rfl (by decide) rfl rfl ((fr2 fr_h4 (by omega)).trans k1) (Nat.le_of_ble_eq_true rfl) (x_addPartB _ _ lr w hJ (by omega) (R1.kp (fun k p1 p2 => fr2 fr_h4 (by omega))) (R2.kp (fun k p1 p2 => fr2 fr_h4 (by omega))) (nI (jnC j)) (nI (1)) (-1)) (fun r9 h8 e9 => ?_)
        obtain ⟨rfl, q_h8, S_h8⟩ := e9
        show Wn _ _ 27 _ [] h8 _
        refine wn_jp (pc' := 130) rfl rfl ?_
        have eR : prtR t n hiI j p w = .inl (nmF t n (tkA t n p), tkF t n (tkA t n p)) := (pI_t w_h1).trans (pI_f w_h4)
        refine wn_vret rfl rfl ⟨rfl, (FrL.f2 (FrL.rfl' lr h) fr_h4).q q_h8, ?_⟩
        rw [eR]
        exact CS_l nmF_nz (tkA_le hp) ((q_h8.2 2 (by omega)).trans o_h4) S_h8
  · rw [wdP_f w_h1] at o_h1
    have fr_h1 := Fr.tr (Fr.rfl' [2] h) f_h1 (fun _ q => q)
    rw [← bI_f0 w_h1]
    show Wn _ _ 6 _ [.int (nI (0))] h1 _
    refine wn_ifN (t := 30) (f := 9) rfl rfl rfl (by omega) (fun c10 => ?_) (fun c10 => ?_)
    · have c10 : 0 = 0 := c10
      refine wn_ld (pc' := 31) (q := 0) (kin := 2) (v := .ref (2)) rfl (fun _ _ _ => rfl) rfl rfl ?_
      refine wn_go (pc' := 33) (lv' := [(0, .ref (2)), (1, .int (nI (jnC j))), (2, .int (hi))]) (st' := [.retAddr 12, .ref (2)]) rfl (fun _ _ _ k9 => ⟨by decide, k9⟩) ?_
      refine wn_virS (pc' := 36) rfl rfl (by decide) rfl rfl o_h1 (Nat.le_of_ble_eq_true rfl) (x_tryWord _ _ t ct n p lr (nI (0)) (-1) hn hp ((fr2 fr_h1 (by decide)).trans o1) o1v o_h1 12 (by omega)) (fun r9 h11 e12 => ?_)
      obtain ⟨rfl, f_h11, o_h11⟩ := e12
      by_cases w_h11 : isWd t n p 12
      · rw [wdP_t w_h11] at o_h11
        have fr_h11 := Fr.tr fr_h1 f_h11 (fun _ q => q)
        rw [← bI_t1 w_h11]
        have := tkF_le (t := t) (p := (tkA t n p)) (tkA_le hp)
        have := tkA_ge (t := t) (n := n) (p := (tkA t n p))
        have := tkA_le (t := t) (p := (tkA t n p)) (tkA_le hp)
        have := tkK_le (t := t) (n := n) (p := (tkA t n p))
        show Wn _ _ 36 _ [.int (nI (1))] h11 _
        refine wn_ifN (t := 60) (f := 39) rfl rfl rfl (by omega) (fun c13 => ?_) (fun c13 => ?_)
        · have c13 : 1 = 0 := c13
          exact absurd c13 (by decide)
        · have c13 : ¬ 1 = 0 := c13
          refine wn_ld (pc' := 40) (q := 0) (kin := 2) (v := .ref (2)) rfl (fun _ _ _ => rfl) rfl rfl ?_
          refine wn_get (pc' := 43) (v := .ref (lr)) rfl rfl o_h11 rfl ?_
          refine wn_get (pc' := 46) (v := .ref (lr + 9)) rfl rfl ((fr2 fr_h11 (by omega)).trans l0) rfl ?_
          refine wn_ld (pc' := 47) (q := 1) (kin := 0) (v := .int (nI (jnC j))) rfl (fun _ _ _ => rfl) rfl rfl ?_
          refine wn_ic (pc' := 48) (w := nI 2) rfl rfl (by decide) ?_
          refine wn_ld (pc' := 49) (q := 0) (kin := 2) (v := .ref (2)) rfl (fun _ _ _ => rfl) rfl rfl ?_
          refine wn_ic (pc' := 50) (w := nI 0) rfl rfl (by decide) ?_
          refine wn_ld (pc' := 51) (q := 2) (kin := 0) (v := .int (hi)) rfl (fun _ _ _ => rfl) rfl rfl ?_
          refine wn_virS (pc' := 54) rfl rfl (by decide) rfl rfl o_h11 (Nat.le_of_ble_eq_true rfl) (x_num0 _ _ t ct n (tkA t n p) lr hn (tkA_le hp) ((fr2 fr_h11 (by decide)).trans o1) o1v o_h11 0 (by omega) (hi) (hiI) eh (by omega)) (fun r9 h14 e15 => ?_)
          obtain ⟨f_h14, ⟨w_h14, rfl, o_h14⟩ | ⟨w_h14, rfl, o_h14⟩⟩ := e15
          · have fr_h14 := Fr.tr fr_h11 f_h14 (fun _ q => q)
            have := tkF_le (t := t) (p := (tkA t n (tkA t n p))) (tkA_le (tkA_le hp))
            have := tkA_ge (t := t) (n := n) (p := (tkA t n (tkA t n p)))
            have := tkA_le (t := t) (p := (tkA t n (tkA t n p))) (tkA_le (tkA_le hp))
            have := tkK_le (t := t) (n := n) (p := (tkA t n (tkA t n p)))
            have b1_h14 := w_h14.2.1
            have b2_h14 := w_h14.2.2
            have g_h14 := nm_gt w_h14
            show Wn _ _ 54 _ [.int (nI (tkV t n (tkA t n p))), .int (nI (2)), .int (nI (jnC j)), .ref (lr + 9)] h14 _
            refine wn_virS (pc' := 57) rfl rfl (by decide) rfl rfl ((fr2 fr_h14 (by omega)).trans k1) (Nat.le_of_ble_eq_true rfl) (x_addPart0 _ _ lr w hJ j 2 (tkV t n (tkA t n p)) (by omega) hj (R1.kp (fun k p1 p2 => fr2 fr_h14 (by omega))) (R2.kp (fun k p1 p2 => fr2 fr_h14 (by omega)))) (fun r9 h16 e17 => ?_)
            obtain ⟨rfl, q_h16, L_h16, W_h16⟩ := e17
            show Wn _ _ 57 _ [] h16 _
            refine wn_jp (pc' := 130) rfl rfl ?_
            have eR : prtR t n hiI j p w = .inr (_, _) := (pI_f w_h1).trans ((pI_t w_h11).trans (pI_t w_h14))
            refine wn_vret rfl rfl ⟨rfl, (FrL.f2 (FrL.rfl' lr h) fr_h14).q q_h16, ?_⟩
            rw [eR]
            exact CS_r ((q_h16.2 2 (by omega)).trans o_h14) L_h16 W_h16
          · have fr_h14 := Fr.tr fr_h11 f_h14 (fun _ q => q)
            show Wn _ _ 54 _ [.int (-1), .int (nI (2)), .int (nI (jnC j)), .ref (lr + 9)] h14 _
            refine wn_virS (pc' := 57) rfl rfl (by decide) rfl rfl ((fr2 fr_h14 (by omega)).trans k1) (Nat.le_of_ble_eq_true rfl) (x_addPartB _ _ lr w hJ (by omega) (R1.kp (fun k p1 p2 => fr2 fr_h14 (by omega))) (R2.kp (fun k p1 p2 => fr2 fr_h14 (by omega))) (nI (jnC j)) (nI (2)) (-1)) (fun r9 h18 e19 => ?_)
            obtain ⟨rfl, q_h18, S_h18⟩ := e19
            show Wn _ _ 57 _ [] h18 _
            refine wn_jp (pc' := 130) rfl rfl ?_
            have eR : prtR t n hiI j p w = .inl (nmF t n (tkA t n p), tkF t n (tkA t n p)) := (pI_f w_h1).trans ((pI_t w_h11).trans (pI_f w_h14))
            refine wn_vret rfl rfl ⟨rfl, (FrL.f2 (FrL.rfl' lr h) fr_h14).q q_h18, ?_⟩
            rw [eR]
            exact CS_l nmF_nz (tkA_le hp) ((q_h18.2 2 (by omega)).trans o_h14) S_h18
      · rw [wdP_f w_h11] at o_h11
        have fr_h11 := Fr.tr fr_h1 f_h11 (fun _ q => q)
        rw [← bI_f0 w_h11]
        show Wn _ _ 36 _ [.int (nI (0))] h11 _
        refine wn_ifN (t := 60) (f := 39) rfl rfl rfl (by omega) (fun c20 => ?_) (fun c20 => ?_)
        · have c20 : 0 = 0 := c20
          refine wn_ld (pc' := 61) (q := 0) (kin := 2) (v := .ref (2)) rfl (fun _ _ _ => rfl) rfl rfl ?_
          refine wn_go (pc' := 63) (lv' := [(0, .ref (2)), (1, .int (nI (jnC j))), (2, .int (hi))]) (st' := [.retAddr 1, .ref (2)]) rfl (fun _ _ _ k9 => ⟨by decide, k9⟩) ?_
          refine wn_virS (pc' := 66) rfl rfl (by decide) rfl rfl o_h11 (Nat.le_of_ble_eq_true rfl) (x_tryWord _ _ t ct n p lr (nI (0)) (-1) hn hp ((fr2 fr_h11 (by decide)).trans o1) o1v o_h11 1 (by omega)) (fun r9 h21 e22 => ?_)
          obtain ⟨rfl, f_h21, o_h21⟩ := e22
          by_cases w_h21 : isWd t n p 1
          · rw [wdP_t w_h21] at o_h21
            have fr_h21 := Fr.tr fr_h11 f_h21 (fun _ q => q)
            rw [← bI_t1 w_h21]
            have := tkF_le (t := t) (p := (tkA t n p)) (tkA_le hp)
            have := tkA_ge (t := t) (n := n) (p := (tkA t n p))
            have := tkA_le (t := t) (p := (tkA t n p)) (tkA_le hp)
            have := tkK_le (t := t) (n := n) (p := (tkA t n p))
            show Wn _ _ 66 _ [.int (nI (1))] h21 _
            refine wn_ifN (t := 85) (f := 69) rfl rfl rfl (by omega) (fun c23 => ?_) (fun c23 => ?_)
            · have c23 : 1 = 0 := c23
              exact absurd c23 (by decide)
            · have c23 : ¬ 1 = 0 := c23
              refine wn_ld (pc' := 70) (q := 0) (kin := 2) (v := .ref (2)) rfl (fun _ _ _ => rfl) rfl rfl ?_
              refine wn_get (pc' := 73) (v := .ref (lr)) rfl rfl o_h21 rfl ?_
              refine wn_get (pc' := 76) (v := .ref (lr + 9)) rfl rfl ((fr2 fr_h21 (by omega)).trans l0) rfl ?_
              refine wn_ld (pc' := 77) (q := 1) (kin := 0) (v := .int (nI (jnC j))) rfl (fun _ _ _ => rfl) rfl rfl ?_
              refine wn_ic (pc' := 78) (w := nI 3) rfl rfl (by decide) ?_
              refine wn_ic (pc' := 79) (w := nI 0) rfl rfl (by decide) ?_
              refine wn_virS (pc' := 82) rfl rfl (by decide) rfl rfl ((fr2 fr_h21 (by omega)).trans k1) (Nat.le_of_ble_eq_true rfl) (x_addPart0 _ _ lr w hJ j 3 0 (by omega) hj (R1.kp (fun k p1 p2 => fr2 fr_h21 (by omega))) (R2.kp (fun k p1 p2 => fr2 fr_h21 (by omega)))) (fun r9 h24 e25 => ?_)
              obtain ⟨rfl, q_h24, L_h24, W_h24⟩ := e25
              show Wn _ _ 82 _ [] h24 _
              refine wn_jp (pc' := 130) rfl rfl ?_
              have eR : prtR t n hiI j p w = .inr (_, _) := (pI_f w_h1).trans ((pI_f w_h11).trans (pI_t w_h21))
              refine wn_vret rfl rfl ⟨rfl, (FrL.f2 (FrL.rfl' lr h) fr_h21).q q_h24, ?_⟩
              rw [eR]
              exact CS_r ((q_h24.2 2 (by omega)).trans o_h21) L_h24 W_h24
          · rw [wdP_f w_h21] at o_h21
            have fr_h21 := Fr.tr fr_h11 f_h21 (fun _ q => q)
            rw [← bI_f0 w_h21]
            show Wn _ _ 66 _ [.int (nI (0))] h21 _
            refine wn_ifN (t := 85) (f := 69) rfl rfl rfl (by omega) (fun c26 => ?_) (fun c26 => ?_)
            · have c26 : 0 = 0 := c26
              refine wn_ld (pc' := 86) (q := 0) (kin := 2) (v := .ref (2)) rfl (fun _ _ _ => rfl) rfl rfl ?_
              refine wn_go (pc' := 88) (lv' := [(0, .ref (2)), (1, .int (nI (jnC j))), (2, .int (hi))]) (st' := [.retAddr 13, .ref (2)]) rfl (fun _ _ _ k9 => ⟨by decide, k9⟩) ?_
              refine wn_virS (pc' := 91) rfl rfl (by decide) rfl rfl o_h21 (Nat.le_of_ble_eq_true rfl) (x_tryWord _ _ t ct n p lr (nI (0)) (-1) hn hp ((fr2 fr_h21 (by decide)).trans o1) o1v o_h21 13 (by omega)) (fun r9 h27 e28 => ?_)
              obtain ⟨rfl, f_h27, o_h27⟩ := e28
              by_cases w_h27 : isWd t n p 13
              · rw [wdP_t w_h27] at o_h27
                have fr_h27 := Fr.tr fr_h21 f_h27 (fun _ q => q)
                rw [← bI_t1 w_h27]
                have := tkF_le (t := t) (p := (tkA t n p)) (tkA_le hp)
                have := tkA_ge (t := t) (n := n) (p := (tkA t n p))
                have := tkA_le (t := t) (p := (tkA t n p)) (tkA_le hp)
                have := tkK_le (t := t) (n := n) (p := (tkA t n p))
                show Wn _ _ 91 _ [.int (nI (1))] h27 _
                refine wn_ifN (t := 110) (f := 94) rfl rfl rfl (by omega) (fun c29 => ?_) (fun c29 => ?_)
                · have c29 : 1 = 0 := c29
                  exact absurd c29 (by decide)
                · have c29 : ¬ 1 = 0 := c29
                  refine wn_ld (pc' := 95) (q := 0) (kin := 2) (v := .ref (2)) rfl (fun _ _ _ => rfl) rfl rfl ?_
                  refine wn_get (pc' := 98) (v := .ref (lr)) rfl rfl o_h27 rfl ?_
                  refine wn_get (pc' := 101) (v := .ref (lr + 9)) rfl rfl ((fr2 fr_h27 (by omega)).trans l0) rfl ?_
                  refine wn_ld (pc' := 102) (q := 1) (kin := 0) (v := .int (nI (jnC j))) rfl (fun _ _ _ => rfl) rfl rfl ?_
                  refine wn_ic (pc' := 103) (w := nI 4) rfl rfl (by decide) ?_
                  refine wn_ic (pc' := 104) (w := nI 0) rfl rfl (by decide) ?_
                  refine wn_virS (pc' := 107) rfl rfl (by decide) rfl rfl ((fr2 fr_h27 (by omega)).trans k1) (Nat.le_of_ble_eq_true rfl) (x_addPart0 _ _ lr w hJ j 4 0 (by omega) hj (R1.kp (fun k p1 p2 => fr2 fr_h27 (by omega))) (R2.kp (fun k p1 p2 => fr2 fr_h27 (by omega)))) (fun r9 h30 e31 => ?_)
                  obtain ⟨rfl, q_h30, L_h30, W_h30⟩ := e31
                  show Wn _ _ 107 _ [] h30 _
                  refine wn_jp (pc' := 130) rfl rfl ?_
                  have eR : prtR t n hiI j p w = .inr (_, _) := (pI_f w_h1).trans ((pI_f w_h11).trans ((pI_f w_h21).trans (pI_t w_h27)))
                  refine wn_vret rfl rfl ⟨rfl, (FrL.f2 (FrL.rfl' lr h) fr_h27).q q_h30, ?_⟩
                  rw [eR]
                  exact CS_r ((q_h30.2 2 (by omega)).trans o_h27) L_h30 W_h30
              · rw [wdP_f w_h27] at o_h27
                have fr_h27 := Fr.tr fr_h21 f_h27 (fun _ q => q)
                rw [← bI_f0 w_h27]
                show Wn _ _ 91 _ [.int (nI (0))] h27 _
                refine wn_ifN (t := 110) (f := 94) rfl rfl rfl (by omega) (fun c32 => ?_) (fun c32 => ?_)
                · have c32 : 0 = 0 := c32
                  refine wn_ld (pc' := 111) (q := 0) (kin := 2) (v := .ref (2)) rfl (fun _ _ _ => rfl) rfl rfl ?_
                  refine wn_get (pc' := 114) (v := .ref (lr)) rfl rfl o_h27 rfl ?_
                  refine wn_get (pc' := 117) (v := .ref (lr + 9)) rfl rfl ((fr2 fr_h27 (by omega)).trans l0) rfl ?_
                  refine wn_ld (pc' := 118) (q := 1) (kin := 0) (v := .int (nI (jnC j))) rfl (fun _ _ _ => rfl) rfl rfl ?_
                  refine wn_ic (pc' := 119) (w := nI 0) rfl rfl (by decide) ?_
                  refine wn_ld (pc' := 120) (q := 0) (kin := 2) (v := .ref (2)) rfl (fun _ _ _ => rfl) rfl rfl ?_
                  refine wn_ic (pc' := 121) (w := nI 0) rfl rfl (by decide) ?_
                  refine wn_sp (pc' := 124) (w := nI 999) rfl rfl (by decide) ?_
                  refine wn_virS (pc' := 127) rfl rfl (by decide) rfl rfl o_h27 (Nat.le_of_ble_eq_true rfl) (x_num0 _ _ t ct n p lr hn hp ((fr2 fr_h27 (by decide)).trans o1) o1v o_h27 0 (by omega) (nI (999)) (999) (show (nI 999).toInt = 999 by decide) (by decide)) (fun r9 h33 e34 => ?_)
                  obtain ⟨f_h33, ⟨w_h33, rfl, o_h33⟩ | ⟨w_h33, rfl, o_h33⟩⟩ := e34
                  · have fr_h33 := Fr.tr fr_h27 f_h33 (fun _ q => q)
                    have := tkF_le (t := t) (p := (tkA t n p)) (tkA_le hp)
                    have := tkA_ge (t := t) (n := n) (p := (tkA t n p))
                    have := tkA_le (t := t) (p := (tkA t n p)) (tkA_le hp)
                    have := tkK_le (t := t) (n := n) (p := (tkA t n p))
                    have b1_h33 := w_h33.2.1
                    have b2_h33 := w_h33.2.2
                    have g_h33 := nm_gt w_h33
                    show Wn _ _ 127 _ [.int (nI (tkV t n p)), .int (nI (0)), .int (nI (jnC j)), .ref (lr + 9)] h33 _
                    refine wn_virS (pc' := 130) rfl rfl (by decide) rfl rfl ((fr2 fr_h33 (by omega)).trans k1) (Nat.le_of_ble_eq_true rfl) (x_addPart0 _ _ lr w hJ j 0 (tkV t n p) (by omega) hj (R1.kp (fun k p1 p2 => fr2 fr_h33 (by omega))) (R2.kp (fun k p1 p2 => fr2 fr_h33 (by omega)))) (fun r9 h35 e36 => ?_)
                    obtain ⟨rfl, q_h35, L_h35, W_h35⟩ := e36
                    show Wn _ _ 130 _ [] h35 _
                    have eR : prtR t n hiI j p w = .inr (_, _) := (pI_f w_h1).trans ((pI_f w_h11).trans ((pI_f w_h21).trans ((pI_f w_h27).trans (pI_t w_h33))))
                    refine wn_vret rfl rfl ⟨rfl, (FrL.f2 (FrL.rfl' lr h) fr_h33).q q_h35, ?_⟩
                    rw [eR]
                    exact CS_r ((q_h35.2 2 (by omega)).trans o_h33) L_h35 W_h35
                  · have fr_h33 := Fr.tr fr_h27 f_h33 (fun _ q => q)
                    show Wn _ _ 127 _ [.int (-1), .int (nI (0)), .int (nI (jnC j)), .ref (lr + 9)] h33 _
                    refine wn_virS (pc' := 130) rfl rfl (by decide) rfl rfl ((fr2 fr_h33 (by omega)).trans k1) (Nat.le_of_ble_eq_true rfl) (x_addPartB _ _ lr w hJ (by omega) (R1.kp (fun k p1 p2 => fr2 fr_h33 (by omega))) (R2.kp (fun k p1 p2 => fr2 fr_h33 (by omega))) (nI (jnC j)) (nI (0)) (-1)) (fun r9 h37 e38 => ?_)
                    obtain ⟨rfl, q_h37, S_h37⟩ := e38
                    show Wn _ _ 130 _ [] h37 _
                    have eR : prtR t n hiI j p w = .inl (nmF t n p, tkF t n p) := (pI_f w_h1).trans ((pI_f w_h11).trans ((pI_f w_h21).trans ((pI_f w_h27).trans (pI_f w_h33))))
                    refine wn_vret rfl rfl ⟨rfl, (FrL.f2 (FrL.rfl' lr h) fr_h33).q q_h37, ?_⟩
                    rw [eR]
                    exact CS_l nmF_nz hp ((q_h37.2 2 (by omega)).trans o_h33) S_h37
                · have c32 : ¬ 0 = 0 := c32
                  exact absurd c32 (by decide)
            · have c26 : ¬ 0 = 0 := c26
              exact absurd c26 (by decide)
        · have c20 : ¬ 0 = 0 := c20
          exact absurd c20 (by decide)
    · have c10 : ¬ 0 = 0 := c10
      exact absurd c10 (by decide)

theorem x_readSum (d : Nat) (h : aH) (t ct : Nat → Int32) (n p lr : Nat) (w : Nat → Int32) (hn : n ≤ 1200) (hp : p ≤ n) (hlr : lr = 24 ∨ lr = 3) (hJ : WJ w) (o1 : isB h 1 1200 ct) (o1v : ∀ x, x < 1200 → ct x = t x) (o2 : isO h 2 3 (rdS t lr (nI 0) (-1) n p)) (R1 : LandR h lr w) (R2 : LawsR h (lr + 9) w) (h5 : 5 * npW w + 4 ≤ p) (j0 : Nat) (hj0 : jnC j0 = 0) (hj04 : j0 ≤ 4) (hi : Int32) (hiI : Int) (eh : hi.toInt = hiI) (h4 : hiI ≤ 4) : Sp (Rn (d + 5)) 30 [.ref (2), .int (hi)] h (fun r9 h9 => r9 = none ∧ FrL lr h h9 ∧ ∃ r, SumR t n hiI j0 p w r ∧ CS t n lr h9 r) := by
  have hF := tkF_le (t := t) hp
  have hA := tkA_ge (t := t) (n := n) (p := p)
  have hA2 := tkA_le (t := t) hp
  have hK := tkK_le (t := t) (n := n) (p := p)
  refine Sp_of (by decide) (Nat.le_of_ble_eq_true rfl) ?_
  show Wn _ _ 0 [(0, .ref (2)), (1, .int (hi))] [] _ _
  refine wn_ic (pc' := 1) (w := nI 0) rfl rfl (by decide) ?_
  refine wn_st (pc' := 2) (q := 2) (kin := 0) (lv' := [(0, .ref (2)), (1, .int (hi)), (2, .int (nI (0)))]) rfl (fun _ _ _ => rfl) rfl (Nat.le_of_ble_eq_true rfl) rfl ?_
  refine wn_ic (pc' := 3) (w := nI 0) rfl rfl (by decide) ?_
  refine wn_st (pc' := 4) (q := 3) (kin := 0) (lv' := [(0, .ref (2)), (1, .int (hi)), (2, .int (nI (0))), (3, .int (nI (0)))]) rfl (fun _ _ _ => rfl) rfl (Nat.le_of_ble_eq_true rfl) rfl ?_
  have lp1 : ∀ (n_lp1 : Nat) (g : aH) (i : Nat) (jj : Int32) (r : PR), 1200 + 1 ≤ i + n_lp1 → i ≤ 1200 → FrL lr h g → CS t n lr g r → SmI t n hiI j0 p w i jj r → Wn (Rn (d + 4)) 30 4 [(0, .ref (2)), (1, .int (hi)), (2, .int (jj)), (3, .int (nI (i)))] [] g (fun r9 h9 => r9 = none ∧ FrL lr h h9 ∧ ∃ r, SumR t n hiI j0 p w r ∧ CS t n lr h9 r) := by
    intro n_lp1
    induction n_lp1 with
    | zero => intro g i jj r hm hi1 hfl hC hS; exfalso; omega
    | succ n_lp1 ih =>
      intro g i jj r hm hi1 hfl hC hS
      rcases r with e0 | ⟨p2, w2⟩
      · obtain ⟨hb_g, p_g, hp_g, o_g, S_g⟩ := hC
        have := tkF_le (t := t) (p := p_g) hp_g
        have := tkA_ge (t := t) (n := n) (p := p_g)
        have := tkA_le (t := t) (p := p_g) hp_g
        have := tkK_le (t := t) (n := n) (p := p_g)
        refine wn_ld (pc' := 5) (q := 3) (kin := 0) (v := .int (nI (i))) rfl (fun _ _ _ => rfl) rfl rfl ?_
        refine wn_sp (pc' := 8) (w := nI 1200) rfl rfl (by decide) ?_
        refine wn_icmpN (t := 79) (f := 11) rfl rfl rfl (by omega) (by omega) (fun c2 => ?_) (fun c2 => ?_)
        · have c2 : 1200 ≤ i := c2
          exact wn_vret rfl rfl ⟨rfl, hfl, .inl e0, hS, CS_l hb_g hp_g o_g S_g⟩
        · have c2 : i < 1200 := c2
          refine wn_ld (pc' := 12) (q := 0) (kin := 2) (v := .ref (2)) rfl (fun _ _ _ => rfl) rfl rfl ?_
          refine wn_get (pc' := 15) (v := .int (nI (e0.1))) rfl rfl o_g rfl ?_
          refine wn_ifc (t := 79) (f := 18) rfl rfl rfl (fun c3 => ?_) (fun c3 => ?_)
          · have c3 : ¬ ((nI (e0.1))) = 0 := c3
            exact wn_vret rfl rfl ⟨rfl, hfl, .inl e0, hS, CS_l hb_g hp_g o_g S_g⟩
          · have c3 : ((nI (e0.1))) = 0 := c3
            exact absurd c3 hb_g
      · rcases hS with ⟨rfl, hE⟩ | ⟨j1, hj1, rfl, J2, h52, hp2, hi2, hK⟩
        · obtain ⟨o_g, R1_g, R2_g⟩ := hC
          refine wn_ld (pc' := 5) (q := 3) (kin := 0) (v := .int (nI (i))) rfl (fun _ _ _ => rfl) rfl rfl ?_
          refine wn_sp (pc' := 8) (w := nI 1200) rfl rfl (by decide) ?_
          refine wn_icmpN (t := 79) (f := 11) rfl rfl rfl (by omega) (by omega) (fun c4 => ?_) (fun c4 => ?_)
          · have c4 : 1200 ≤ i := c4
            exact wn_vret rfl rfl ⟨rfl, hfl, .inr (p2, w2), hE, CS_r o_g R1_g R2_g⟩
          · have c4 : i < 1200 := c4
            refine wn_ld (pc' := 12) (q := 0) (kin := 2) (v := .ref (2)) rfl (fun _ _ _ => rfl) rfl rfl ?_
            refine wn_get (pc' := 15) (v := .int (nI (0))) rfl rfl o_g rfl ?_
            refine wn_ifN (t := 79) (f := 18) rfl rfl rfl (by omega) (fun c5 => ?_) (fun c5 => ?_)
            · have c5 : ¬ 0 = 0 := c5
              exact absurd c5 (by decide)
            · have c5 : 0 = 0 := c5
              refine wn_ld (pc' := 19) (q := 2) (kin := 0) (v := .int (-1)) rfl (fun _ _ _ => rfl) rfl rfl ?_
              refine wn_ic (pc' := 20) (w := -1) rfl rfl (by decide) ?_
              refine wn_icmp (t := 79) (f := 23) rfl rfl rfl (fun c6 => ?_) (fun c6 => ?_)
              · have c6 : ((-1) : Int32) = ((-1)) := c6
                exact wn_vret rfl rfl ⟨rfl, hfl, .inr (p2, w2), hE, CS_r o_g R1_g R2_g⟩
              · have c6 : ¬ ((-1) : Int32) = ((-1)) := c6
                exact absurd c6 (by decide)
        · have h52 : 5 * npW w2 + 4 ≤ p2 := h52
          have hp2 : p2 ≤ n := hp2
          have hi2 : i < p2 := hi2
          have J2 : WJ w2 := J2
          have hjc := jnC_le hj1
          obtain ⟨o_g, R1_g, R2_g⟩ := hC
          obtain ⟨szy, rfy, rty, rvy, agy, vry, sdy, tly, l0y, l1y, l2y, l3y, l4y, l5y, l6y, l7y, l8y, g1y, g2y, g3y, g4y, g5y⟩ := id R1_g
          obtain ⟨secy, ity, fiy, sey, sgy, lsty, rsy, rpy, pjy, pky, pvy, k0y, k1y, k2y, k3y, k4y, k5y, k6y, k7y, k8y, k9y, k10y, k11y, k12y, k13y⟩ := id R2_g
          obtain ⟨e0y, e0by⟩ := wj_0 J2
          obtain ⟨⟨e1y, e2y⟩, ⟨e3y, e4y⟩, ⟨e5y, e6y⟩⟩ := Wf_n J2.wf
          obtain ⟨⟨e7y, e8y⟩, ⟨e9y, e10y⟩⟩ := Wf_m J2.wf
          rw [e0y, e1y, e3y, e5y] at l0y
          rw [e7y, e9y] at k1y
          have := tkF_le (t := t) (p := p2) hp2
          have := tkA_ge (t := t) (n := n) (p := p2)
          have := tkA_le (t := t) (p := p2) hp2
          have := tkK_le (t := t) (n := n) (p := p2)
          refine wn_ld (pc' := 5) (q := 3) (kin := 0) (v := .int (nI (i))) rfl (fun _ _ _ => rfl) rfl rfl ?_
          refine wn_sp (pc' := 8) (w := nI 1200) rfl rfl (by decide) ?_
          refine wn_icmpN (t := 79) (f := 11) rfl rfl rfl (by omega) (by omega) (fun c7 => ?_) (fun c7 => ?_)
          · have c7 : 1200 ≤ i := c7
            exfalso; omega
          · have c7 : i < 1200 := c7
            refine wn_ld (pc' := 12) (q := 0) (kin := 2) (v := .ref (2)) rfl (fun _ _ _ => rfl) rfl rfl ?_
            refine wn_get (pc' := 15) (v := .int (nI (0))) rfl rfl o_g rfl ?_
            refine wn_ifN (t := 79) (f := 18) rfl rfl rfl (by omega) (fun c8 => ?_) (fun c8 => ?_)
            · have c8 : ¬ 0 = 0 := c8
              exact absurd c8 (by decide)
            · have c8 : 0 = 0 := c8
              refine wn_ld (pc' := 19) (q := 2) (kin := 0) (v := .int (nI (jnC j1))) rfl (fun _ _ _ => rfl) rfl rfl ?_
              refine wn_ic (pc' := 20) (w := -1) rfl rfl (by decide) ?_
              refine wn_icmp (t := 79) (f := 23) rfl rfl rfl (fun c9 => ?_) (fun c9 => ?_)
              · have c9 : ((nI (jnC j1))) = ((-1)) := c9
                exact absurd c9 (nI_m1 (by omega))
              · have c9 : ¬ ((nI (jnC j1))) = ((-1)) := c9
                refine wn_ld (pc' := 24) (q := 0) (kin := 2) (v := .ref (2)) rfl (fun _ _ _ => rfl) rfl rfl ?_
                refine wn_ld (pc' := 25) (q := 2) (kin := 0) (v := .int (nI (jnC j1))) rfl (fun _ _ _ => rfl) rfl rfl ?_
                refine wn_ld (pc' := 26) (q := 1) (kin := 0) (v := .int (hi)) rfl (fun _ _ _ => rfl) rfl rfl ?_
                refine wn_virS (pc' := 29) rfl rfl (by decide) rfl rfl o_g (Nat.le_of_ble_eq_true rfl) (x_readPart _ _ t ct n p2 lr w2 hn hp2 hlr J2 ((hfl.2 1 (by decide) (by omega)).trans o1) o1v o_g (R1_g.kp (fun k p1 p2 => fr2 (Fr.rfl' [2] g) (by omega))) (R2_g.kp (fun k p1 p2 => fr2 (Fr.rfl' [2] g) (by omega))) (by omega) j1 hj1 hi hiI eh h4) (fun r9 h10 e11 => ?_)
                obtain ⟨rfl, fl0_h10, CS_h10⟩ := e11
                have fl_h10 := FrL.tr (FrL.f2 hfl (Fr.rfl' [2] g)) fl0_h10
                rcases e_h10 : prtR t n hiI j1 p2 w2 with e9 | ⟨p1, w1⟩ <;> rw [e_h10] at CS_h10
                · obtain ⟨hb_h10, p_h10, hp_h10, o_h10, S_h10⟩ := CS_h10
                  have := tkF_le (t := t) (p := p_h10) hp_h10
                  have := tkA_ge (t := t) (n := n) (p := p_h10)
                  have := tkA_le (t := t) (p := p_h10) hp_h10
                  have := tkK_le (t := t) (n := n) (p := p_h10)
                  show Wn _ _ 29 _ [] h10 _
                  refine wn_ld (pc' := 30) (q := 0) (kin := 2) (v := .ref (2)) rfl (fun _ _ _ => rfl) rfl rfl ?_
                  refine wn_go (pc' := 32) (lv' := [(0, .ref (2)), (1, .int (hi)), (2, .int (nI (jnC j1))), (3, .int (nI (i)))]) (st' := [.retAddr 14, .ref (2)]) rfl (fun _ _ _ k9 => ⟨by decide, k9⟩) ?_
                  refine wn_virS (pc' := 35) rfl rfl (by decide) rfl rfl o_h10 (Nat.le_of_ble_eq_true rfl) (x_tryWord _ _ t ct n p_h10 lr (nI (e9.1)) (nI (e9.2)) hn hp_h10 ((fl_h10.2 1 (by decide) (by omega)).trans o1) o1v o_h10 14 (by omega)) (fun r9 h12 e13 => ?_)
                  obtain ⟨rfl, f_h12, o_h12⟩ := e13
                  have fr_h12 := Fr.tr (Fr.rfl' [2] h10) f_h12 (fun _ q => q)
                  show Wn _ _ 35 _ [.int (bI (isWd t n p_h10 14))] h12 _
                  refine wn_ifeqB (t := 43) (f := 38) rfl rfl rfl (fun c14 => ?_) (fun c14 => ?_)
                  · have c14 : ¬ (isWd t n p_h10 14) := c14
                    refine wn_ld (pc' := 44) (q := 0) (kin := 2) (v := .ref (2)) rfl (fun _ _ _ => rfl) rfl rfl ?_
                    refine wn_go (pc' := 46) (lv' := [(0, .ref (2)), (1, .int (hi)), (2, .int (nI (jnC j1))), (3, .int (nI (i)))]) (st' := [.retAddr 15, .ref (2)]) rfl (fun _ _ _ k9 => ⟨by decide, k9⟩) ?_
                    refine wn_virS (pc' := 49) rfl rfl (by decide) rfl rfl o_h12 (Nat.le_of_ble_eq_true rfl) (x_tryWord _ _ t ct n (wdP t n p_h10 14) lr (nI (e9.1)) (nI (e9.2)) hn (wdP_le hp_h10) ((fr2 fr_h12 (by decide)).trans ((fl_h10.2 1 (by decide) (by omega)).trans o1)) o1v o_h12 15 (by omega)) (fun r9 h15 e16 => ?_)
                    obtain ⟨rfl, f_h15, o_h15⟩ := e16
                    have fr_h15 := Fr.tr fr_h12 f_h15 (fun _ q => q)
                    show Wn _ _ 49 _ [.int (bI (isWd t n (wdP t n p_h10 14) 15))] h15 _
                    refine wn_ifeqB (t := 57) (f := 52) rfl rfl rfl (fun c17 => ?_) (fun c17 => ?_)
                    · have c17 : ¬ (isWd t n (wdP t n p_h10 14) 15) := c17
                      refine wn_ld (pc' := 58) (q := 0) (kin := 2) (v := .ref (2)) rfl (fun _ _ _ => rfl) rfl rfl ?_
                      refine wn_go (pc' := 60) (lv' := [(0, .ref (2)), (1, .int (hi)), (2, .int (nI (jnC j1))), (3, .int (nI (i)))]) (st' := [.retAddr 16, .ref (2)]) rfl (fun _ _ _ k9 => ⟨by decide, k9⟩) ?_
                      refine wn_virS (pc' := 63) rfl rfl (by decide) rfl rfl o_h15 (Nat.le_of_ble_eq_true rfl) (x_tryWord _ _ t ct n (wdP t n (wdP t n p_h10 14) 15) lr (nI (e9.1)) (nI (e9.2)) hn (wdP_le (wdP_le hp_h10)) ((fr2 fr_h15 (by decide)).trans ((fl_h10.2 1 (by decide) (by omega)).trans o1)) o1v o_h15 16 (by omega)) (fun r9 h18 e19 => ?_)
                      obtain ⟨rfl, f_h18, o_h18⟩ := e19
                      have fr_h18 := Fr.tr fr_h15 f_h18 (fun _ q => q)
                      show Wn _ _ 63 _ [.int (bI (isWd t n (wdP t n (wdP t n p_h10 14) 15) 16))] h18 _
                      refine wn_ifeqB (t := 71) (f := 66) rfl rfl rfl (fun c20 => ?_) (fun c20 => ?_)
                      · have c20 : ¬ (isWd t n (wdP t n (wdP t n p_h10 14) 15) 16) := c20
                        refine wn_ic (pc' := 72) (w := -1) rfl rfl (by decide) ?_
                        refine wn_st (pc' := 73) (q := 2) (kin := 0) (lv' := [(0, .ref (2)), (1, .int (hi)), (2, .int (-1)), (3, .int (nI (i)))]) rfl (fun _ _ _ => rfl) rfl (Nat.le_of_ble_eq_true rfl) rfl ?_
                        refine wn_incN (n := 1) (pc' := 76) (lv' := [(0, .ref (2)), (1, .int (hi)), (2, .int (-1)), (3, .int (nI (i + 1)))]) rfl rfl rfl (Nat.le_of_ble_eq_true rfl) rfl (by decide) ?_
                        refine wn_jp (pc' := 4) rfl rfl ?_
                        refine wn_weak (lv' := [(0, .ref (2)), (1, .int (hi)), (2, .int (-1)), (3, .int (nI (i + 1)))]) (by simp) ?_
                        exact ih h18 (i + 1) ((-1)) (.inl e9) (by omega) (by omega) (FrL.f2 fl_h10 fr_h18) (CS_l (k := e9.1) (pl := e9.2) hb_h10 (wdP_le (wdP_le (wdP_le hp_h10))) o_h18 (S_h10.kp (fun k p1 p2 => fr2 fr_h18 (by omega)))) (SmI_l (hK _ (SumR_e e_h10)))
                      · have c20 : (isWd t n (wdP t n (wdP t n p_h10 14) 15) 16) := c20
                        refine wn_ic (pc' := 67) (w := nI 2) rfl rfl (by decide) ?_
                        refine wn_st (pc' := 68) (q := 2) (kin := 0) (lv' := [(0, .ref (2)), (1, .int (hi)), (2, .int (nI (2))), (3, .int (nI (i)))]) rfl (fun _ _ _ => rfl) rfl (Nat.le_of_ble_eq_true rfl) rfl ?_
                        refine wn_jp (pc' := 73) rfl rfl ?_
                        refine wn_incN (n := 1) (pc' := 76) (lv' := [(0, .ref (2)), (1, .int (hi)), (2, .int (nI (2))), (3, .int (nI (i + 1)))]) rfl rfl rfl (Nat.le_of_ble_eq_true rfl) rfl (by decide) ?_
                        refine wn_jp (pc' := 4) rfl rfl ?_
                        refine wn_weak (lv' := [(0, .ref (2)), (1, .int (hi)), (2, .int (nI (2))), (3, .int (nI (i + 1)))]) (by simp) ?_
                        exact ih h18 (i + 1) ((nI (2))) (.inl e9) (by omega) (by omega) (FrL.f2 fl_h10 fr_h18) (CS_l (k := e9.1) (pl := e9.2) hb_h10 (wdP_le (wdP_le (wdP_le hp_h10))) o_h18 (S_h10.kp (fun k p1 p2 => fr2 fr_h18 (by omega)))) (SmI_l (hK _ (SumR_e e_h10)))
                    · have c17 : (isWd t n (wdP t n p_h10 14) 15) := c17
                      refine wn_ic (pc' := 53) (w := nI 1) rfl rfl (by decide) ?_
                      refine wn_st (pc' := 54) (q := 2) (kin := 0) (lv' := [(0, .ref (2)), (1, .int (hi)), (2, .int (nI (1))), (3, .int (nI (i)))]) rfl (fun _ _ _ => rfl) rfl (Nat.le_of_ble_eq_true rfl) rfl ?_
                      refine wn_jp (pc' := 73) rfl rfl ?_
                      refine wn_incN (n := 1) (pc' := 76) (lv' := [(0, .ref (2)), (1, .int (hi)), (2, .int (nI (1))), (3, .int (nI (i + 1)))]) rfl rfl rfl (Nat.le_of_ble_eq_true rfl) rfl (by decide) ?_
                      refine wn_jp (pc' := 4) rfl rfl ?_
                      refine wn_weak (lv' := [(0, .ref (2)), (1, .int (hi)), (2, .int (nI (1))), (3, .int (nI (i + 1)))]) (by simp) ?_
                      exact ih h15 (i + 1) ((nI (1))) (.inl e9) (by omega) (by omega) (FrL.f2 fl_h10 fr_h15) (CS_l (k := e9.1) (pl := e9.2) hb_h10 (wdP_le (wdP_le hp_h10)) o_h15 (S_h10.kp (fun k p1 p2 => fr2 fr_h15 (by omega)))) (SmI_l (hK _ (SumR_e e_h10)))
                  · have c14 : (isWd t n p_h10 14) := c14
                    refine wn_ic (pc' := 39) (w := nI 3) rfl rfl (by decide) ?_
                    refine wn_st (pc' := 40) (q := 2) (kin := 0) (lv' := [(0, .ref (2)), (1, .int (hi)), (2, .int (nI (3))), (3, .int (nI (i)))]) rfl (fun _ _ _ => rfl) rfl (Nat.le_of_ble_eq_true rfl) rfl ?_
                    refine wn_jp (pc' := 73) rfl rfl ?_
                    refine wn_incN (n := 1) (pc' := 76) (lv' := [(0, .ref (2)), (1, .int (hi)), (2, .int (nI (3))), (3, .int (nI (i + 1)))]) rfl rfl rfl (Nat.le_of_ble_eq_true rfl) rfl (by decide) ?_
                    refine wn_jp (pc' := 4) rfl rfl ?_
                    refine wn_weak (lv' := [(0, .ref (2)), (1, .int (hi)), (2, .int (nI (3))), (3, .int (nI (i + 1)))]) (by simp) ?_
                    exact ih h12 (i + 1) ((nI (3))) (.inl e9) (by omega) (by omega) (FrL.f2 fl_h10 fr_h12) (CS_l (k := e9.1) (pl := e9.2) hb_h10 (wdP_le hp_h10) o_h12 (S_h10.kp (fun k p1 p2 => fr2 fr_h12 (by omega)))) (SmI_l (hK _ (SumR_e e_h10)))
                · obtain ⟨y1, hp1, k9, v9, y3, y4, y5, y6⟩ := prtR_i h4 hp2 e_h10
                  have y1 : p2 < p1 := y1
                  have hp1 : p1 ≤ n := hp1
                  have y3 : w1 = prtW w2 j1 k9 v9 := y3
                  have J1 : WJ w1 := by rw [y3]; exact J2.prt (by omega) y4 y5 y6
                  have y7 : npW w1 = npW w2 + 1 := by rw [y3]; exact prt_n (by omega)
                  obtain ⟨o_h10, R1_h10, R2_h10⟩ := CS_h10
                  obtain ⟨szx, rfx, rtx, rvx, agx, vrx, sdx, tlx, l0x, l1x, l2x, l3x, l4x, l5x, l6x, l7x, l8x, g1x, g2x, g3x, g4x, g5x⟩ := id R1_h10
                  obtain ⟨secx, itx, fix, sex, sgx, lstx, rsx, rpx, pjx, pkx, pvx, k0x, k1x, k2x, k3x, k4x, k5x, k6x, k7x, k8x, k9x, k10x, k11x, k12x, k13x⟩ := id R2_h10
                  obtain ⟨e0x, e0bx⟩ := wj_0 J1
                  obtain ⟨⟨e1x, e2x⟩, ⟨e3x, e4x⟩, ⟨e5x, e6x⟩⟩ := Wf_n J1.wf
                  obtain ⟨⟨e7x, e8x⟩, ⟨e9x, e10x⟩⟩ := Wf_m J1.wf
                  rw [e0x, e1x, e3x, e5x] at l0x
                  rw [e7x, e9x] at k1x
                  have := tkF_le (t := t) (p := p1) hp1
                  have := tkA_ge (t := t) (n := n) (p := p1)
                  have := tkA_le (t := t) (p := p1) hp1
                  have := tkK_le (t := t) (n := n) (p := p1)
                  show Wn _ _ 29 _ [] h10 _
                  refine wn_ld (pc' := 30) (q := 0) (kin := 2) (v := .ref (2)) rfl (fun _ _ _ => rfl) rfl rfl ?_
                  refine wn_go (pc' := 32) (lv' := [(0, .ref (2)), (1, .int (hi)), (2, .int (nI (jnC j1))), (3, .int (nI (i)))]) (st' := [.retAddr 14, .ref (2)]) rfl (fun _ _ _ k9 => ⟨by decide, k9⟩) ?_
                  refine wn_virS (pc' := 35) rfl rfl (by decide) rfl rfl o_h10 (Nat.le_of_ble_eq_true rfl) (x_tryWord _ _ t ct n p1 lr (nI (0)) (-1) hn hp1 ((fl_h10.2 1 (by decide) (by omega)).trans o1) o1v o_h10 14 (by omega)) (fun r9 h21 e22 => ?_)
                  obtain ⟨rfl, f_h21, o_h21⟩ := e22
                  by_cases w_h21 : isWd t n p1 14
                  · rw [wdP_t w_h21] at o_h21
                    have fr_h21 := Fr.tr (Fr.rfl' [2] h10) f_h21 (fun _ q => q)
                    rw [← bI_t1 w_h21]
                    have := tkF_le (t := t) (p := (tkA t n p1)) (tkA_le hp1)
                    have := tkA_ge (t := t) (n := n) (p := (tkA t n p1))
                    have := tkA_le (t := t) (p := (tkA t n p1)) (tkA_le hp1)
                    have := tkK_le (t := t) (n := n) (p := (tkA t n p1))
                    show Wn _ _ 35 _ [.int (nI (1))] h21 _
                    refine wn_ifN (t := 43) (f := 38) rfl rfl rfl (by omega) (fun c23 => ?_) (fun c23 => ?_)
                    · have c23 : 1 = 0 := c23
                      exact absurd c23 (by decide)
                    · have c23 : ¬ 1 = 0 := c23
                      refine wn_ic (pc' := 39) (w := nI 3) rfl rfl (by decide) ?_
                      refine wn_st (pc' := 40) (q := 2) (kin := 0) (lv' := [(0, .ref (2)), (1, .int (hi)), (2, .int (nI (3))), (3, .int (nI (i)))]) rfl (fun _ _ _ => rfl) rfl (Nat.le_of_ble_eq_true rfl) rfl ?_
                      refine wn_jp (pc' := 73) rfl rfl ?_
                      refine wn_incN (n := 1) (pc' := 76) (lv' := [(0, .ref (2)), (1, .int (hi)), (2, .int (nI (3))), (3, .int (nI (i + 1)))]) rfl rfl rfl (Nat.le_of_ble_eq_true rfl) rfl (by decide) ?_
                      refine wn_jp (pc' := 4) rfl rfl ?_
                      have l9 := litL4
                      have g9 := wd_gt w_h21
                      refine wn_weak (lv' := [(0, .ref (2)), (1, .int (hi)), (2, .int (nI (3))), (3, .int (nI (i + 1)))]) (by simp) ?_
                      exact ih h21 (i + 1) (nI (jnC 3)) (.inr (tkA t n p1, w1)) (by omega) (by omega) (FrL.f2 fl_h10 fr_h21) (CS_r o_h21 (R1_h10.kp (fun k p1 p2 => fr2 fr_h21 (by omega))) (R2_h10.kp (fun k p1 p2 => fr2 fr_h21 (by omega)))) (SmI_g 3 (by omega) J1 (by omega) (tkA_le hp1) (by omega) (fun r' hr => hK _ (SumR_s e_h10 (show jnW t n p1 3 from w_h21) hr)))
                  · rw [wdP_f w_h21] at o_h21
                    have fr_h21 := Fr.tr (Fr.rfl' [2] h10) f_h21 (fun _ q => q)
                    rw [← bI_f0 w_h21]
                    show Wn _ _ 35 _ [.int (nI (0))] h21 _
                    refine wn_ifN (t := 43) (f := 38) rfl rfl rfl (by omega) (fun c24 => ?_) (fun c24 => ?_)
                    · have c24 : 0 = 0 := c24
                      refine wn_ld (pc' := 44) (q := 0) (kin := 2) (v := .ref (2)) rfl (fun _ _ _ => rfl) rfl rfl ?_
                      refine wn_go (pc' := 46) (lv' := [(0, .ref (2)), (1, .int (hi)), (2, .int (nI (jnC j1))), (3, .int (nI (i)))]) (st' := [.retAddr 15, .ref (2)]) rfl (fun _ _ _ k9 => ⟨by decide, k9⟩) ?_
                      refine wn_virS (pc' := 49) rfl rfl (by decide) rfl rfl o_h21 (Nat.le_of_ble_eq_true rfl) (x_tryWord _ _ t ct n p1 lr (nI (0)) (-1) hn hp1 ((fr2 fr_h21 (by decide)).trans ((fl_h10.2 1 (by decide) (by omega)).trans o1)) o1v o_h21 15 (by omega)) (fun r9 h25 e26 => ?_)
                      obtain ⟨rfl, f_h25, o_h25⟩ := e26
                      by_cases w_h25 : isWd t n p1 15
                      · rw [wdP_t w_h25] at o_h25
                        have fr_h25 := Fr.tr fr_h21 f_h25 (fun _ q => q)
                        rw [← bI_t1 w_h25]
                        have := tkF_le (t := t) (p := (tkA t n p1)) (tkA_le hp1)
                        have := tkA_ge (t := t) (n := n) (p := (tkA t n p1))
                        have := tkA_le (t := t) (p := (tkA t n p1)) (tkA_le hp1)
                        have := tkK_le (t := t) (n := n) (p := (tkA t n p1))
                        show Wn _ _ 49 _ [.int (nI (1))] h25 _
                        refine wn_ifN (t := 57) (f := 52) rfl rfl rfl (by omega) (fun c27 => ?_) (fun c27 => ?_)
                        · have c27 : 1 = 0 := c27
                          exact absurd c27 (by decide)
                        · have c27 : ¬ 1 = 0 := c27
                          refine wn_ic (pc' := 53) (w := nI 1) rfl rfl (by decide) ?_
                          refine wn_st (pc' := 54) (q := 2) (kin := 0) (lv' := [(0, .ref (2)), (1, .int (hi)), (2, .int (nI (1))), (3, .int (nI (i)))]) rfl (fun _ _ _ => rfl) rfl (Nat.le_of_ble_eq_true rfl) rfl ?_
                          refine wn_jp (pc' := 73) rfl rfl ?_
                          refine wn_incN (n := 1) (pc' := 76) (lv' := [(0, .ref (2)), (1, .int (hi)), (2, .int (nI (1))), (3, .int (nI (i + 1)))]) rfl rfl rfl (Nat.le_of_ble_eq_true rfl) rfl (by decide) ?_
                          refine wn_jp (pc' := 4) rfl rfl ?_
                          have l9 := litL4
                          have g9 := wd_gt w_h25
                          refine wn_weak (lv' := [(0, .ref (2)), (1, .int (hi)), (2, .int (nI (1))), (3, .int (nI (i + 1)))]) (by simp) ?_
                          exact ih h25 (i + 1) (nI (jnC 1)) (.inr (tkA t n p1, w1)) (by omega) (by omega) (FrL.f2 fl_h10 fr_h25) (CS_r o_h25 (R1_h10.kp (fun k p1 p2 => fr2 fr_h25 (by omega))) (R2_h10.kp (fun k p1 p2 => fr2 fr_h25 (by omega)))) (SmI_g 1 (by omega) J1 (by omega) (tkA_le hp1) (by omega) (fun r' hr => hK _ (SumR_s e_h10 (show jnW t n p1 1 from w_h25) hr)))
                      · rw [wdP_f w_h25] at o_h25
                        have fr_h25 := Fr.tr fr_h21 f_h25 (fun _ q => q)
                        rw [← bI_f0 w_h25]
                        show Wn _ _ 49 _ [.int (nI (0))] h25 _
                        refine wn_ifN (t := 57) (f := 52) rfl rfl rfl (by omega) (fun c28 => ?_) (fun c28 => ?_)
                        · have c28 : 0 = 0 := c28
                          refine wn_ld (pc' := 58) (q := 0) (kin := 2) (v := .ref (2)) rfl (fun _ _ _ => rfl) rfl rfl ?_
                          refine wn_go (pc' := 60) (lv' := [(0, .ref (2)), (1, .int (hi)), (2, .int (nI (jnC j1))), (3, .int (nI (i)))]) (st' := [.retAddr 16, .ref (2)]) rfl (fun _ _ _ k9 => ⟨by decide, k9⟩) ?_
                          refine wn_virS (pc' := 63) rfl rfl (by decide) rfl rfl o_h25 (Nat.le_of_ble_eq_true rfl) (x_tryWord _ _ t ct n p1 lr (nI (0)) (-1) hn hp1 ((fr2 fr_h25 (by decide)).trans ((fl_h10.2 1 (by decide) (by omega)).trans o1)) o1v o_h25 16 (by omega)) (fun r9 h29 e30 => ?_)
                          obtain ⟨rfl, f_h29, o_h29⟩ := e30
                          by_cases w_h29 : isWd t n p1 16
                          · rw [wdP_t w_h29] at o_h29
                            have fr_h29 := Fr.tr fr_h25 f_h29 (fun _ q => q)
                            rw [← bI_t1 w_h29]
                            have := tkF_le (t := t) (p := (tkA t n p1)) (tkA_le hp1)
                            have := tkA_ge (t := t) (n := n) (p := (tkA t n p1))
                            have := tkA_le (t := t) (p := (tkA t n p1)) (tkA_le hp1)
                            have := tkK_le (t := t) (n := n) (p := (tkA t n p1))
                            show Wn _ _ 63 _ [.int (nI (1))] h29 _
                            refine wn_ifN (t := 71) (f := 66) rfl rfl rfl (by omega) (fun c31 => ?_) (fun c31 => ?_)
                            · have c31 : 1 = 0 := c31
                              exact absurd c31 (by decide)
                            · have c31 : ¬ 1 = 0 := c31
                              refine wn_ic (pc' := 67) (w := nI 2) rfl rfl (by decide) ?_
                              refine wn_st (pc' := 68) (q := 2) (kin := 0) (lv' := [(0, .ref (2)), (1, .int (hi)), (2, .int (nI (2))), (3, .int (nI (i)))]) rfl (fun _ _ _ => rfl) rfl (Nat.le_of_ble_eq_true rfl) rfl ?_
                              refine wn_jp (pc' := 73) rfl rfl ?_
                              refine wn_incN (n := 1) (pc' := 76) (lv' := [(0, .ref (2)), (1, .int (hi)), (2, .int (nI (2))), (3, .int (nI (i + 1)))]) rfl rfl rfl (Nat.le_of_ble_eq_true rfl) rfl (by decide) ?_
                              refine wn_jp (pc' := 4) rfl rfl ?_
                              have l9 := litL4
                              have g9 := wd_gt w_h29
                              refine wn_weak (lv' := [(0, .ref (2)), (1, .int (hi)), (2, .int (nI (2))), (3, .int (nI (i + 1)))]) (by simp) ?_
                              exact ih h29 (i + 1) (nI (jnC 2)) (.inr (tkA t n p1, w1)) (by omega) (by omega) (FrL.f2 fl_h10 fr_h29) (CS_r o_h29 (R1_h10.kp (fun k p1 p2 => fr2 fr_h29 (by omega))) (R2_h10.kp (fun k p1 p2 => fr2 fr_h29 (by omega)))) (SmI_g 2 (by omega) J1 (by omega) (tkA_le hp1) (by omega) (fun r' hr => hK _ (SumR_s e_h10 (show jnW t n p1 2 from w_h29) hr)))
                          · rw [wdP_f w_h29] at o_h29
                            have fr_h29 := Fr.tr fr_h25 f_h29 (fun _ q => q)
                            rw [← bI_f0 w_h29]
                            show Wn _ _ 63 _ [.int (nI (0))] h29 _
                            refine wn_ifN (t := 71) (f := 66) rfl rfl rfl (by omega) (fun c32 => ?_) (fun c32 => ?_)
                            · have c32 : 0 = 0 := c32
                              refine wn_ic (pc' := 72) (w := -1) rfl rfl (by decide) ?_
                              refine wn_st (pc' := 73) (q := 2) (kin := 0) (lv' := [(0, .ref (2)), (1, .int (hi)), (2, .int (-1)), (3, .int (nI (i)))]) rfl (fun _ _ _ => rfl) rfl (Nat.le_of_ble_eq_true rfl) rfl ?_
                              refine wn_incN (n := 1) (pc' := 76) (lv' := [(0, .ref (2)), (1, .int (hi)), (2, .int (-1)), (3, .int (nI (i + 1)))]) rfl rfl rfl (Nat.le_of_ble_eq_true rfl) rfl (by decide) ?_
                              refine wn_jp (pc' := 4) rfl rfl ?_
                              refine wn_weak (lv' := [(0, .ref (2)), (1, .int (hi)), (2, .int (-1)), (3, .int (nI (i + 1)))]) (by simp) ?_
                              exact ih h29 (i + 1) ((-1)) (.inr (p1, w1)) (by omega) (by omega) (FrL.f2 fl_h10 fr_h29) (CS_r o_h29 (R1_h10.kp (fun k p1 p2 => fr2 fr_h29 (by omega))) (R2_h10.kp (fun k p1 p2 => fr2 fr_h29 (by omega)))) (SmI_e (hK _ (SumR_0 e_h10 w_h21 w_h25 w_h29)))
                            · have c32 : ¬ 0 = 0 := c32
                              exact absurd c32 (by decide)
                        · have c28 : ¬ 0 = 0 := c28
                          exact absurd c28 (by decide)
                    · have c24 : ¬ 0 = 0 := c24
                      exact absurd c24 (by decide)
  refine wn_weak (lv' := [(0, .ref (2)), (1, .int (hi)), (2, .int (nI (0))), (3, .int (nI (0)))]) (by simp) ?_
  have z9 := lp1 (1200 + 1) h 0 (nI (jnC j0)) (.inr (p, w)) (by omega) (by omega) (FrL.rfl' lr h) (CS_r o2 R1 R2) (SmI_g j0 (by omega) hJ h5 hp (by omega) (fun _ q => q))
  rw [hj0] at z9
  exact z9

theorem x_readSumB (d : Nat) (h : aH) (lr : Nat) (fk fp y1 y2 y3 y4 y5 : Int32) (o2 : isO h 2 3 [.int fk, .int fp, .ref lr, .ref 1, .int y1, .int y2, .int y3, .int y4, .int y5]) (hb : ¬ fk = 0) (hi : Int32) : Sp (Rn (d + 1)) 30 [.ref (2), .int (hi)] h (fun r9 h9 => r9 = none ∧ h9 = h) := by
  refine Sp_of (by decide) (Nat.le_of_ble_eq_true rfl) ?_
  show Wn _ _ 0 [(0, .ref (2)), (1, .int (hi))] [] _ _
  refine wn_ic (pc' := 1) (w := nI 0) rfl rfl (by decide) ?_
  refine wn_st (pc' := 2) (q := 2) (kin := 0) (lv' := [(0, .ref (2)), (1, .int (hi)), (2, .int (nI (0)))]) rfl (fun _ _ _ => rfl) rfl (Nat.le_of_ble_eq_true rfl) rfl ?_
  refine wn_ic (pc' := 3) (w := nI 0) rfl rfl (by decide) ?_
  refine wn_st (pc' := 4) (q := 3) (kin := 0) (lv' := [(0, .ref (2)), (1, .int (hi)), (2, .int (nI (0))), (3, .int (nI (0)))]) rfl (fun _ _ _ => rfl) rfl (Nat.le_of_ble_eq_true rfl) rfl ?_
  refine wn_ld (pc' := 5) (q := 3) (kin := 0) (v := .int (nI (0))) rfl (fun _ _ _ => rfl) rfl rfl ?_
  refine wn_sp (pc' := 8) (w := nI 1200) rfl rfl (by decide) ?_
  refine wn_icmpN (t := 79) (f := 11) rfl rfl rfl (by omega) (by omega) (fun c1 => ?_) (fun c1 => ?_)
  · have c1 : 1200 ≤ 0 := c1
    exact absurd c1 (by decide)
  · have c1 : 0 < 1200 := c1
    refine wn_ld (pc' := 12) (q := 0) (kin := 2) (v := .ref (2)) rfl (fun _ _ _ => rfl) rfl rfl ?_
    refine wn_get (pc' := 15) (v := .int (fk)) rfl rfl o2 rfl ?_
    refine wn_ifc (t := 79) (f := 18) rfl rfl rfl (fun c2 => ?_) (fun c2 => ?_)
    · have c2 : ¬ ((fk)) = 0 := c2
      exact wn_vret rfl rfl ⟨rfl, rfl⟩
    · have c2 : ((fk)) = 0 := c2
      exact absurd c2 hb

