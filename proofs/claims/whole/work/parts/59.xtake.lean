/-! THE CLASS'S READER: what it takes, ahead of a FAULT (0) and behind one (B) -/
def nmOK (t : Nat → Int32) (n p lo : Nat) (hi : Int) : Prop := tkK t n p = 2 ∧ lo ≤ tkV t n p ∧ (tkV t n p : Int) ≤ hi
noncomputable def nmF (t : Nat → Int32) (n p : Nat) : Nat := if tkK t n p = 2 then 2 else 1
theorem x_takeWord0 (d : Nat) (h : aH) (t ct : Nat → Int32) (n p lr : Nat) (hn : n ≤ 1200) (hp : p ≤ n) (o1 : isB h 1 1200 ct) (o1v : ∀ x, x < 1200 → ct x = t x) (o2 : isO h 2 3 (rdS t lr (nI 0) (-1) n p)) (q : Nat) (hq : q < 20) : Sp (Rn (d + 4)) 35 [.ref (2), .retAddr q] h (fun r9 h9 => r9 = none ∧ Fr [2] h h9 ∧ ((isWd t n p q ∧ isO h9 2 3 (rdS t lr (nI 0) (-1) n (tkA t n p))) ∨ (¬ isWd t n p q ∧ isO h9 2 3 (rdS t lr (nI 1) (nI (tkF t n p)) n p)))) := by
  have hF := tkF_le (t := t) hp
  have hA := tkA_ge (t := t) (n := n) (p := p)
  have hA2 := tkA_le (t := t) hp
  have hK := tkK_le (t := t) (n := n) (p := p)
  refine Sp_of (by decide) (Nat.le_of_ble_eq_true rfl) ?_
  show Wn _ _ 0 [(0, .ref (2)), (1, .retAddr q)] [] _ _
  refine wn_ld (pc' := 1) (q := 0) (kin := 2) (v := .ref (2)) rfl (fun _ _ _ => rfl) rfl rfl ?_
  refine wn_ld (pc' := 2) (q := 1) (kin := 2) (v := .retAddr q) rfl (fun _ _ _ => rfl) rfl rfl ?_
  refine wn_virS (pc' := 5) rfl rfl (by decide) rfl rfl o2 (Nat.le_of_ble_eq_true rfl) (x_tryWord _ _ t ct n p lr (nI (0)) (-1) hn hp o1 o1v o2 q (by omega)) (fun r9 h1 e2 => ?_)
  obtain ⟨rfl, f_h1, o_h1⟩ := e2
  by_cases w_h1 : isWd t n p q
  · rw [wdP_t w_h1] at o_h1
    rw [← bI_t1 w_h1]
    have := tkF_le (t := t) (p := tkA t n p) (tkA_le hp)
    have := tkA_ge (t := t) (n := n) (p := tkA t n p)
    have := tkA_le (t := t) (p := tkA t n p) (tkA_le hp)
    have := tkK_le (t := t) (n := n) (p := tkA t n p)
    show Wn _ _ 5 _ [.int (nI (1))] h1 _
    refine wn_ifN (t := 17) (f := 8) rfl rfl rfl (by omega) (fun c3 => ?_) (fun c3 => ?_)
    · have c3 : ¬ 1 = 0 := c3
      exact wn_vret rfl rfl ⟨rfl, (Fr.tr (Fr.rfl' [2] h) f_h1 (fun _ q => q)), Or.inl ⟨w_h1, o_h1⟩⟩
    · have c3 : 1 = 0 := c3
      exact absurd c3 (by decide)
  · rw [wdP_f w_h1] at o_h1
    rw [← bI_f0 w_h1]
    show Wn _ _ 5 _ [.int (nI (0))] h1 _
    refine wn_ifN (t := 17) (f := 8) rfl rfl rfl (by omega) (fun c4 => ?_) (fun c4 => ?_)
    · have c4 : ¬ 0 = 0 := c4
      exact absurd c4 (by decide)
    · have c4 : 0 = 0 := c4
      refine wn_ld (pc' := 9) (q := 0) (kin := 2) (v := .ref (2)) rfl (fun _ _ _ => rfl) rfl rfl ?_
      refine wn_ic (pc' := 10) (w := nI 1) rfl rfl (by decide) ?_
      refine wn_ld (pc' := 11) (q := 0) (kin := 2) (v := .ref (2)) rfl (fun _ _ _ => rfl) rfl rfl ?_
      refine wn_get (pc' := 14) (v := .int (nI (tkF t n p))) rfl rfl o_h1 rfl ?_
      refine wn_virS (pc' := 17) rfl rfl (by decide) rfl rfl o_h1 (Nat.le_of_ble_eq_true rfl) (x_refuse0 _ _ lr n _ _ _ _ _ o_h1 (nI (1)) (nI (tkF t n p))) (fun r9 h5 e6 => ?_)
      obtain ⟨rfl, f_h5, o_h5⟩ := e6
      show Wn _ _ 17 _ [] h5 _
      exact wn_vret rfl rfl ⟨rfl, (Fr.tr (Fr.tr (Fr.rfl' [2] h) f_h1 (fun _ q => q)) f_h5 (fun _ q => q)), Or.inr ⟨w_h1, o_h5⟩⟩

theorem x_takeWordB (d : Nat) (h : aH) (t ct : Nat → Int32) (n p lr : Nat) (fk fp : Int32) (hn : n ≤ 1200) (hp : p ≤ n) (o1 : isB h 1 1200 ct) (o1v : ∀ x, x < 1200 → ct x = t x) (o2 : isO h 2 3 (rdS t lr fk fp n p)) (hb : ¬ fk = 0) (q : Nat) (hq : q < 20) : Sp (Rn (d + 4)) 35 [.ref (2), .retAddr q] h (fun r9 h9 => r9 = none ∧ Fr [2] h h9 ∧ ∃ p', p' ≤ n ∧ isO h9 2 3 (rdS t lr fk fp n (p'))) := by
  have hF := tkF_le (t := t) hp
  have hA := tkA_ge (t := t) (n := n) (p := p)
  have hA2 := tkA_le (t := t) hp
  have hK := tkK_le (t := t) (n := n) (p := p)
  refine Sp_of (by decide) (Nat.le_of_ble_eq_true rfl) ?_
  show Wn _ _ 0 [(0, .ref (2)), (1, .retAddr q)] [] _ _
  refine wn_ld (pc' := 1) (q := 0) (kin := 2) (v := .ref (2)) rfl (fun _ _ _ => rfl) rfl rfl ?_
  refine wn_ld (pc' := 2) (q := 1) (kin := 2) (v := .retAddr q) rfl (fun _ _ _ => rfl) rfl rfl ?_
  refine wn_virS (pc' := 5) rfl rfl (by decide) rfl rfl o2 (Nat.le_of_ble_eq_true rfl) (x_tryWord _ _ t ct n p lr fk fp hn hp o1 o1v o2 q (by omega)) (fun r9 h1 e2 => ?_)
  obtain ⟨rfl, f_h1, o_h1⟩ := e2
  by_cases w_h1 : isWd t n p q
  · rw [wdP_t w_h1] at o_h1
    rw [← bI_t1 w_h1]
    have := tkF_le (t := t) (p := tkA t n p) (tkA_le hp)
    have := tkA_ge (t := t) (n := n) (p := tkA t n p)
    have := tkA_le (t := t) (p := tkA t n p) (tkA_le hp)
    have := tkK_le (t := t) (n := n) (p := tkA t n p)
    show Wn _ _ 5 _ [.int (nI (1))] h1 _
    refine wn_ifN (t := 17) (f := 8) rfl rfl rfl (by omega) (fun c3 => ?_) (fun c3 => ?_)
    · have c3 : ¬ 1 = 0 := c3
      exact wn_vret rfl rfl ⟨rfl, (Fr.tr (Fr.rfl' [2] h) f_h1 (fun _ q => q)), _, (tkA_le hp), o_h1⟩
    · have c3 : 1 = 0 := c3
      exact absurd c3 (by decide)
  · rw [wdP_f w_h1] at o_h1
    rw [← bI_f0 w_h1]
    show Wn _ _ 5 _ [.int (nI (0))] h1 _
    refine wn_ifN (t := 17) (f := 8) rfl rfl rfl (by omega) (fun c4 => ?_) (fun c4 => ?_)
    · have c4 : ¬ 0 = 0 := c4
      exact absurd c4 (by decide)
    · have c4 : 0 = 0 := c4
      refine wn_ld (pc' := 9) (q := 0) (kin := 2) (v := .ref (2)) rfl (fun _ _ _ => rfl) rfl rfl ?_
      refine wn_ic (pc' := 10) (w := nI 1) rfl rfl (by decide) ?_
      refine wn_ld (pc' := 11) (q := 0) (kin := 2) (v := .ref (2)) rfl (fun _ _ _ => rfl) rfl rfl ?_
      refine wn_get (pc' := 14) (v := .int (nI (tkF t n p))) rfl rfl o_h1 rfl ?_
      refine wn_virS (pc' := 17) rfl rfl (by decide) rfl rfl o_h1 (Nat.le_of_ble_eq_true rfl) (x_refuseB _ _ lr n _ _ _ _ _ _ o_h1 (nI (1)) (nI (tkF t n p)) hb) (fun r9 h5 e6 => ?_)
      obtain ⟨rfl, e9⟩ := e6
      rw [e9]
      show Wn _ _ 17 _ [] h1 _
      exact wn_vret rfl rfl ⟨rfl, (Fr.tr (Fr.rfl' [2] h) f_h1 (fun _ q => q)), _, hp, o_h1⟩

theorem x_takeStop0 (d : Nat) (h : aH) (t ct : Nat → Int32) (n p lr : Nat) (hn : n ≤ 1200) (hp : p ≤ n) (o1 : isB h 1 1200 ct) (o1v : ∀ x, x < 1200 → ct x = t x) (o2 : isO h 2 3 (rdS t lr (nI 0) (-1) n p)) : Sp (Rn (d + 3)) 36 [.ref (2)] h (fun r9 h9 => r9 = none ∧ Fr [2] h h9 ∧ ((tkK t n p = 3 ∧ isO h9 2 3 (rdS t lr (nI 0) (-1) n (tkA t n p))) ∨ (¬ tkK t n p = 3 ∧ isO h9 2 3 (rdS t lr (nI 1) (nI (tkF t n p)) n p)))) := by
  have hF := tkF_le (t := t) hp
  have hA := tkA_ge (t := t) (n := n) (p := p)
  have hA2 := tkA_le (t := t) hp
  have hK := tkK_le (t := t) (n := n) (p := p)
  refine Sp_of (by decide) (Nat.le_of_ble_eq_true rfl) ?_
  show Wn _ _ 0 [(0, .ref (2))] [] _ _
  refine wn_ld (pc' := 1) (q := 0) (kin := 2) (v := .ref (2)) rfl (fun _ _ _ => rfl) rfl rfl ?_
  refine wn_get (pc' := 4) (v := .int (nI (tkK t n p))) rfl rfl o2 rfl ?_
  refine wn_ic (pc' := 5) (w := nI 3) rfl rfl (by decide) ?_
  refine wn_icmpN (t := 15) (f := 8) rfl rfl rfl (by omega) (by omega) (fun c1 => ?_) (fun c1 => ?_)
  · have c1 : ¬ (tkK t n p) = 3 := c1
    refine wn_ld (pc' := 16) (q := 0) (kin := 2) (v := .ref (2)) rfl (fun _ _ _ => rfl) rfl rfl ?_
    refine wn_ic (pc' := 17) (w := nI 1) rfl rfl (by decide) ?_
    refine wn_ld (pc' := 18) (q := 0) (kin := 2) (v := .ref (2)) rfl (fun _ _ _ => rfl) rfl rfl ?_
    refine wn_get (pc' := 21) (v := .int (nI (tkF t n p))) rfl rfl o2 rfl ?_
    refine wn_virS (pc' := 24) rfl rfl (by decide) rfl rfl o2 (Nat.le_of_ble_eq_true rfl) (x_refuse0 _ _ lr n _ _ _ _ _ o2 (nI (1)) (nI (tkF t n p))) (fun r9 h2 e3 => ?_)
    obtain ⟨rfl, f_h2, o_h2⟩ := e3
    show Wn _ _ 24 _ [] h2 _
    exact wn_vret rfl rfl ⟨rfl, (Fr.tr (Fr.rfl' [2] h) f_h2 (fun _ q => q)), Or.inr ⟨by omega, o_h2⟩⟩
  · have c1 : (tkK t n p) = 3 := c1
    refine wn_ld (pc' := 9) (q := 0) (kin := 2) (v := .ref (2)) rfl (fun _ _ _ => rfl) rfl rfl ?_
    refine wn_virS (pc' := 12) rfl rfl (by decide) rfl rfl o2 (Nat.le_of_ble_eq_true rfl) (x_advance _ _ t ct n (tkA t n p) lr (nI (0)) (-1) _ _ _ hn (tkA_le hp) o1 o1v o2) (fun r9 h4 e5 => ?_)
    obtain ⟨rfl, f_h4, o_h4⟩ := e5
    show Wn _ _ 12 _ [] h4 _
    refine wn_jp (pc' := 24) rfl rfl ?_
    exact wn_vret rfl rfl ⟨rfl, (Fr.tr (Fr.rfl' [2] h) f_h4 (fun _ q => q)), Or.inl ⟨by omega, o_h4⟩⟩

theorem x_takeStopB (d : Nat) (h : aH) (t ct : Nat → Int32) (n p lr : Nat) (fk fp : Int32) (hn : n ≤ 1200) (hp : p ≤ n) (o1 : isB h 1 1200 ct) (o1v : ∀ x, x < 1200 → ct x = t x) (o2 : isO h 2 3 (rdS t lr fk fp n p)) (hb : ¬ fk = 0) : Sp (Rn (d + 3)) 36 [.ref (2)] h (fun r9 h9 => r9 = none ∧ Fr [2] h h9 ∧ ∃ p', p' ≤ n ∧ isO h9 2 3 (rdS t lr fk fp n (p'))) := by
  have hF := tkF_le (t := t) hp
  have hA := tkA_ge (t := t) (n := n) (p := p)
  have hA2 := tkA_le (t := t) hp
  have hK := tkK_le (t := t) (n := n) (p := p)
  refine Sp_of (by decide) (Nat.le_of_ble_eq_true rfl) ?_
  show Wn _ _ 0 [(0, .ref (2))] [] _ _
  refine wn_ld (pc' := 1) (q := 0) (kin := 2) (v := .ref (2)) rfl (fun _ _ _ => rfl) rfl rfl ?_
  refine wn_get (pc' := 4) (v := .int (nI (tkK t n p))) rfl rfl o2 rfl ?_
  refine wn_ic (pc' := 5) (w := nI 3) rfl rfl (by decide) ?_
  refine wn_icmpN (t := 15) (f := 8) rfl rfl rfl (by omega) (by omega) (fun c1 => ?_) (fun c1 => ?_)
  · have c1 : ¬ (tkK t n p) = 3 := c1
    refine wn_ld (pc' := 16) (q := 0) (kin := 2) (v := .ref (2)) rfl (fun _ _ _ => rfl) rfl rfl ?_
    refine wn_ic (pc' := 17) (w := nI 1) rfl rfl (by decide) ?_
    refine wn_ld (pc' := 18) (q := 0) (kin := 2) (v := .ref (2)) rfl (fun _ _ _ => rfl) rfl rfl ?_
    refine wn_get (pc' := 21) (v := .int (nI (tkF t n p))) rfl rfl o2 rfl ?_
    refine wn_virS (pc' := 24) rfl rfl (by decide) rfl rfl o2 (Nat.le_of_ble_eq_true rfl) (x_refuseB _ _ lr n _ _ _ _ _ _ o2 (nI (1)) (nI (tkF t n p)) hb) (fun r9 h2 e3 => ?_)
    obtain ⟨rfl, e9⟩ := e3
    rw [e9]
    show Wn _ _ 24 _ [] h _
    exact wn_vret rfl rfl ⟨rfl, (Fr.rfl' [2] h), _, hp, o2⟩
  · have c1 : (tkK t n p) = 3 := c1
    refine wn_ld (pc' := 9) (q := 0) (kin := 2) (v := .ref (2)) rfl (fun _ _ _ => rfl) rfl rfl ?_
    refine wn_virS (pc' := 12) rfl rfl (by decide) rfl rfl o2 (Nat.le_of_ble_eq_true rfl) (x_advance _ _ t ct n (tkA t n p) lr fk fp _ _ _ hn (tkA_le hp) o1 o1v o2) (fun r9 h4 e5 => ?_)
    obtain ⟨rfl, f_h4, o_h4⟩ := e5
    show Wn _ _ 12 _ [] h4 _
    refine wn_jp (pc' := 24) rfl rfl ?_
    exact wn_vret rfl rfl ⟨rfl, (Fr.tr (Fr.rfl' [2] h) f_h4 (fun _ q => q)), _, (tkA_le hp), o_h4⟩

theorem x_takeNumber0 (d : Nat) (h : aH) (t ct : Nat → Int32) (n p lr : Nat) (hn : n ≤ 1200) (hp : p ≤ n) (o1 : isB h 1 1200 ct) (o1v : ∀ x, x < 1200 → ct x = t x) (o2 : isO h 2 3 (rdS t lr (nI 0) (-1) n p)) (lo : Nat) (hlo : lo ≤ 2) (hi : Int32) (hhi : hi.toInt ≤ 999) : Sp (Rn (d + 3)) 34 [.ref (2), .int (nI (lo)), .int (hi)] h (fun r9 h9 => Fr [2] h h9 ∧ ((nmOK t n p lo hi.toInt ∧ r9 = some (.int (nI (tkV t n p))) ∧ isO h9 2 3 (rdS t lr (nI 0) (-1) n (tkA t n p))) ∨ (¬ nmOK t n p lo hi.toInt ∧ r9 = some (.int (-1)) ∧ isO h9 2 3 (rdS t lr (nI (nmF t n p)) (nI (tkF t n p)) n p)))) := by
  have hF := tkF_le (t := t) hp
  have hA := tkA_ge (t := t) (n := n) (p := p)
  have hA2 := tkA_le (t := t) hp
  have hK := tkK_le (t := t) (n := n) (p := p)
  have hnb : nbC t n p ≤ 1000000 := by unfold nbC; split <;> omega
  refine Sp_of (by decide) (Nat.le_of_ble_eq_true rfl) ?_
  show Wn _ _ 0 [(0, .ref (2)), (1, .int (nI (lo))), (2, .int (hi))] [] _ _
  refine wn_ld (pc' := 1) (q := 0) (kin := 2) (v := .ref (2)) rfl (fun _ _ _ => rfl) rfl rfl ?_
  refine wn_get (pc' := 4) (v := .int (nI (0))) rfl rfl o2 rfl ?_
  refine wn_ifN (t := 9) (f := 7) rfl rfl rfl (by omega) (fun c1 => ?_) (fun c1 => ?_)
  · have c1 : 0 = 0 := c1
    refine wn_ld (pc' := 10) (q := 0) (kin := 2) (v := .ref (2)) rfl (fun _ _ _ => rfl) rfl rfl ?_
    refine wn_get (pc' := 13) (v := .int (nI (tkK t n p))) rfl rfl o2 rfl ?_
    refine wn_ic (pc' := 14) (w := nI 2) rfl rfl (by decide) ?_
    refine wn_icmpN (t := 28) (f := 17) rfl rfl rfl (by omega) (by omega) (fun c2 => ?_) (fun c2 => ?_)
    · have c2 : (tkK t n p) = 2 := c2
      refine wn_ld (pc' := 29) (q := 0) (kin := 2) (v := .ref (2)) rfl (fun _ _ _ => rfl) rfl rfl ?_
      refine wn_get (pc' := 32) (v := .int (nI (nbC t n p))) rfl rfl o2 rfl ?_
      refine wn_ld (pc' := 33) (q := 1) (kin := 0) (v := .int (nI (lo))) rfl (fun _ _ _ => rfl) rfl rfl ?_
      refine wn_icmpN (t := 44) (f := 36) rfl rfl rfl (by omega) (by omega) (fun c3 => ?_) (fun c3 => ?_)
      · have c3 : (nbC t n p) < lo := c3
        refine wn_ld (pc' := 45) (q := 0) (kin := 2) (v := .ref (2)) rfl (fun _ _ _ => rfl) rfl rfl ?_
        refine wn_ic (pc' := 46) (w := nI 2) rfl rfl (by decide) ?_
        refine wn_ld (pc' := 47) (q := 0) (kin := 2) (v := .ref (2)) rfl (fun _ _ _ => rfl) rfl rfl ?_
        refine wn_get (pc' := 50) (v := .int (nI (tkF t n p))) rfl rfl o2 rfl ?_
        refine wn_virS (pc' := 53) rfl rfl (by decide) rfl rfl o2 (Nat.le_of_ble_eq_true rfl) (x_refuse0 _ _ lr n _ _ _ _ _ o2 (nI (2)) (nI (tkF t n p))) (fun r9 h4 e5 => ?_)
        obtain ⟨rfl, f_h4, o_h4⟩ := e5
        show Wn _ _ 53 _ [] h4 _
        refine wn_ic (pc' := 54) (w := -1) rfl rfl (by decide) ?_
        have eN : nbC t n p = min (tkV t n p) 1000000 := by unfold nbC; rw [if_pos c2]
        have eI : (nI (nbC t n p)).toInt = (nbC t n p : Int) := nI_toInt (by omega)
        have nO : ¬ nmOK t n p lo hi.toInt := fun q => by have q2 := q.2; omega
        exact wn_iret rfl rfl rfl ⟨(Fr.tr (Fr.rfl' [2] h) f_h4 (fun _ q => q)), Or.inr ⟨nO, rfl, by rw [show nmF t n p = 2 from if_pos c2]; exact o_h4⟩⟩
      · have c3 : lo ≤ (nbC t n p) := c3
        refine wn_ld (pc' := 37) (q := 0) (kin := 2) (v := .ref (2)) rfl (fun _ _ _ => rfl) rfl rfl ?_
        refine wn_get (pc' := 40) (v := .int (nI (nbC t n p))) rfl rfl o2 rfl ?_
        refine wn_ld (pc' := 41) (q := 2) (kin := 0) (v := .int (hi)) rfl (fun _ _ _ => rfl) rfl rfl ?_
        refine wn_icmp (t := 55) (f := 44) rfl rfl rfl (fun c6 => ?_) (fun c6 => ?_)
        · have c6 : ((nI (nbC t n p))) ≤ ((hi)) := c6
          refine wn_ld (pc' := 56) (q := 0) (kin := 2) (v := .ref (2)) rfl (fun _ _ _ => rfl) rfl rfl ?_
          refine wn_get (pc' := 59) (v := .int (nI (nbC t n p))) rfl rfl o2 rfl ?_
          refine wn_st (pc' := 60) (q := 3) (kin := 0) (lv' := [(0, .ref (2)), (1, .int (nI (lo))), (2, .int (hi)), (3, .int (nI (nbC t n p)))]) rfl (fun _ _ _ => rfl) rfl (Nat.le_of_ble_eq_true rfl) rfl ?_
          refine wn_ld (pc' := 61) (q := 0) (kin := 2) (v := .ref (2)) rfl (fun _ _ _ => rfl) rfl rfl ?_
          refine wn_virS (pc' := 64) rfl rfl (by decide) rfl rfl o2 (Nat.le_of_ble_eq_true rfl) (x_advance _ _ t ct n (tkA t n p) lr (nI (0)) (-1) _ _ _ hn (tkA_le hp) o1 o1v o2) (fun r9 h7 e8 => ?_)
          obtain ⟨rfl, f_h7, o_h7⟩ := e8
          show Wn _ _ 64 _ [] h7 _
          refine wn_ld (pc' := 65) (q := 3) (kin := 0) (v := .int (nI (nbC t n p))) rfl (fun _ _ _ => rfl) rfl rfl ?_
          have eN : nbC t n p = min (tkV t n p) 1000000 := by unfold nbC; rw [if_pos c2]
          have eI : (nI (nbC t n p)).toInt = (nbC t n p : Int) := nI_toInt (by omega)
          simp only [Int32.lt_iff_toInt_lt, Int32.le_iff_toInt_le, i2l_int, Int32.toInt_zero, iin, eI] at c6
          have eV : nbC t n p = tkV t n p := by omega
          exact wn_iret rfl rfl rfl ⟨(Fr.tr (Fr.rfl' [2] h) f_h7 (fun _ q => q)), Or.inl ⟨⟨c2, by omega, by omega⟩, by rw [eV], o_h7⟩⟩
        · have c6 : ((hi)) < ((nI (nbC t n p))) := c6
          refine wn_ld (pc' := 45) (q := 0) (kin := 2) (v := .ref (2)) rfl (fun _ _ _ => rfl) rfl rfl ?_
          refine wn_ic (pc' := 46) (w := nI 2) rfl rfl (by decide) ?_
          refine wn_ld (pc' := 47) (q := 0) (kin := 2) (v := .ref (2)) rfl (fun _ _ _ => rfl) rfl rfl ?_
          refine wn_get (pc' := 50) (v := .int (nI (tkF t n p))) rfl rfl o2 rfl ?_
          refine wn_virS (pc' := 53) rfl rfl (by decide) rfl rfl o2 (Nat.le_of_ble_eq_true rfl) (x_refuse0 _ _ lr n _ _ _ _ _ o2 (nI (2)) (nI (tkF t n p))) (fun r9 h9 e10 => ?_)
          obtain ⟨rfl, f_h9, o_h9⟩ := e10
          show Wn _ _ 53 _ [] h9 _
          refine wn_ic (pc' := 54) (w := -1) rfl rfl (by decide) ?_
          have eN : nbC t n p = min (tkV t n p) 1000000 := by unfold nbC; rw [if_pos c2]
          have eI : (nI (nbC t n p)).toInt = (nbC t n p : Int) := nI_toInt (by omega)
          simp only [Int32.lt_iff_toInt_lt, Int32.le_iff_toInt_le, i2l_int, Int32.toInt_zero, iin, eI] at c6
          have nO : ¬ nmOK t n p lo hi.toInt := fun q => by have q2 := q.2; omega
          exact wn_iret rfl rfl rfl ⟨(Fr.tr (Fr.rfl' [2] h) f_h9 (fun _ q => q)), Or.inr ⟨nO, rfl, by rw [show nmF t n p = 2 from if_pos c2]; exact o_h9⟩⟩
    · have c2 : ¬ (tkK t n p) = 2 := c2
      refine wn_ld (pc' := 18) (q := 0) (kin := 2) (v := .ref (2)) rfl (fun _ _ _ => rfl) rfl rfl ?_
      refine wn_ic (pc' := 19) (w := nI 1) rfl rfl (by decide) ?_
      refine wn_ld (pc' := 20) (q := 0) (kin := 2) (v := .ref (2)) rfl (fun _ _ _ => rfl) rfl rfl ?_
      refine wn_get (pc' := 23) (v := .int (nI (tkF t n p))) rfl rfl o2 rfl ?_
      refine wn_virS (pc' := 26) rfl rfl (by decide) rfl rfl o2 (Nat.le_of_ble_eq_true rfl) (x_refuse0 _ _ lr n _ _ _ _ _ o2 (nI (1)) (nI (tkF t n p))) (fun r9 h11 e12 => ?_)
      obtain ⟨rfl, f_h11, o_h11⟩ := e12
      show Wn _ _ 26 _ [] h11 _
      refine wn_ic (pc' := 27) (w := -1) rfl rfl (by decide) ?_
      exact wn_iret rfl rfl rfl ⟨(Fr.tr (Fr.rfl' [2] h) f_h11 (fun _ q => q)), Or.inr ⟨fun q => c2 q.1, rfl, by rw [show nmF t n p = 1 from if_neg c2]; exact o_h11⟩⟩
  · have c1 : ¬ 0 = 0 := c1
    exact absurd c1 (by decide)

theorem x_takeNumberB (d : Nat) (h : aH) (lr : Nat) (fk fp x1 x2 x3 x4 x5 : Int32) (o2 : isO h 2 3 [.int fk, .int fp, .ref lr, .ref 1, .int x1, .int x2, .int x3, .int x4, .int x5]) (hb : ¬ fk = 0) (lo hi : Int32) : Sp (Rn (d + 1)) 34 [.ref (2), .int (lo), .int (hi)] h (fun r9 h9 => r9 = some (.int (-1)) ∧ h9 = h) := by
  refine Sp_of (by decide) (Nat.le_of_ble_eq_true rfl) ?_
  show Wn _ _ 0 [(0, .ref (2)), (1, .int (lo)), (2, .int (hi))] [] _ _
  refine wn_ld (pc' := 1) (q := 0) (kin := 2) (v := .ref (2)) rfl (fun _ _ _ => rfl) rfl rfl ?_
  refine wn_get (pc' := 4) (v := .int (fk)) rfl rfl o2 rfl ?_
  refine wn_ifc (t := 9) (f := 7) rfl rfl rfl (fun c1 => ?_) (fun c1 => ?_)
  · have c1 : ((fk)) = 0 := c1
    exact absurd c1 hb
  · have c1 : ¬ ((fk)) = 0 := c1
    refine wn_ic (pc' := 8) (w := -1) rfl rfl (by decide) ?_
    exact wn_iret rfl rfl rfl ⟨rfl, rfl⟩

theorem x_refuseBeyond (d : Nat) (h : aH) (t ct : Nat → Int32) (n p lr : Nat) (hn : n ≤ 1200) (hp : p ≤ n) (o1 : isB h 1 1200 ct) (o1v : ∀ x, x < 1200 → ct x = t x) (o2 : isO h 2 3 (rdS t lr (nI 0) (-1) n p)) (x y s9 : Nat) (hx : x < 2000) (hy : y < 2000) : Sp (Rn (d + 2)) 38 [.ref (2), .int (nI (x)), .int (nI (y)), .int (nI (s9))] h (fun r9 h9 => r9 = none ∧ Fr [2] h h9 ∧ ((x < y ∧ isO h9 2 3 (rdS t lr (nI 0) (-1) n p)) ∨ (¬ x < y ∧ isO h9 2 3 (rdS t lr (nI 3) (nI s9) n p)))) := by
  have hF := tkF_le (t := t) hp
  have hA := tkA_ge (t := t) (n := n) (p := p)
  have hA2 := tkA_le (t := t) hp
  have hK := tkK_le (t := t) (n := n) (p := p)
  refine Sp_of (by decide) (Nat.le_of_ble_eq_true rfl) ?_
  show Wn _ _ 0 [(0, .ref (2)), (1, .int (nI (x))), (2, .int (nI (y))), (3, .int (nI (s9)))] [] _ _
  refine wn_ld (pc' := 1) (q := 1) (kin := 0) (v := .int (nI (x))) rfl (fun _ _ _ => rfl) rfl rfl ?_
  refine wn_ld (pc' := 2) (q := 2) (kin := 0) (v := .int (nI (y))) rfl (fun _ _ _ => rfl) rfl rfl ?_
  refine wn_icmpN (t := 11) (f := 5) rfl rfl rfl (by omega) (by omega) (fun c1 => ?_) (fun c1 => ?_)
  · have c1 : x < y := c1
    exact wn_vret rfl rfl ⟨rfl, (Fr.rfl' [2] h), Or.inl ⟨by omega, o2⟩⟩
  · have c1 : y ≤ x := c1
    refine wn_ld (pc' := 6) (q := 0) (kin := 2) (v := .ref (2)) rfl (fun _ _ _ => rfl) rfl rfl ?_
    refine wn_ic (pc' := 7) (w := nI 3) rfl rfl (by decide) ?_
    refine wn_ld (pc' := 8) (q := 3) (kin := 0) (v := .int (nI (s9))) rfl (fun _ _ _ => rfl) rfl rfl ?_
    refine wn_virS (pc' := 11) rfl rfl (by decide) rfl rfl o2 (Nat.le_of_ble_eq_true rfl) (x_refuse0 _ _ lr n _ _ _ _ _ o2 (nI (3)) (nI (s9))) (fun r9 h2 e3 => ?_)
    obtain ⟨rfl, f_h2, o_h2⟩ := e3
    show Wn _ _ 11 _ [] h2 _
    exact wn_vret rfl rfl ⟨rfl, (Fr.tr (Fr.rfl' [2] h) f_h2 (fun _ q => q)), Or.inr ⟨by omega, o_h2⟩⟩

