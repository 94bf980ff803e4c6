/-! THE REFERENCE: takes, needs, number -/
theorem m_takes0 (d : Nat) (h : aH) (t : Nat → Int32) (n p : Nat) (hn : n ≤ 1200) (hp : p ≤ n) (hb : byT t) (th tl vl il : Int32) (up lo : Int64) (hv : vlP t n p vl) (q0 : isO h 71 9 (moS t n p th tl vl (nI 0) (-1) il up lo)) (q4 : isB h 75 1200 t) (q : Nat) (hq : q < 20) : Sp (Rn (d + 3)) 162 [.ref (71), .retAddr q] h (fun r9 h9 => Fr [71] h h9 ∧ ((isWd t n p q ∧ r9 = some (.int (nI 1)) ∧ ∃ vl', vlP t n (tkA t n p) vl' ∧ isO h9 71 9 (moS t n (tkA t n p) th tl (vl') (nI 0) (-1) il up lo)) ∨ (¬ isWd t n p q ∧ r9 = some (.int (nI 0)) ∧ h9 = h))) := by
  have hF := tkF_le (t := t) hp
  have hA := tkA_ge (t := t) (n := n) (p := p)
  have hA2 := tkA_le (t := t) hp
  have hK := tkK_le (t := t) (n := n) (p := p)
  refine Sp_of (by decide) (Nat.le_of_ble_eq_true rfl) ?_
  show Wn _ _ 0 [(0, .ref (71)), (1, .retAddr q)] [] _ _
  refine wn_ld (pc' := 1) (q := 0) (kin := 2) (v := .ref (71)) rfl (fun _ _ _ => rfl) rfl rfl ?_
  refine wn_ld (pc' := 2) (q := 1) (kin := 2) (v := .retAddr q) rfl (fun _ _ _ => rfl) rfl rfl ?_
  refine wn_virI (pc' := 5) rfl rfl (by decide) rfl rfl q0 (Nat.le_of_ble_eq_true rfl) (m_is0 _ _ t n p hn hp hb th tl _ il up lo hv q0 q4 q (by omega)) ?_
  refine wn_st (pc' := 6) (q := 2) (kin := 0) (lv' := [(0, .ref (71)), (1, .retAddr q), (2, .int (bI (isWd t n p q)))]) rfl (fun _ _ _ => rfl) rfl (Nat.le_of_ble_eq_true rfl) rfl ?_
  refine wn_ld (pc' := 7) (q := 2) (kin := 0) (v := .int (bI (isWd t n p q))) rfl (fun _ _ _ => rfl) rfl rfl ?_
  refine wn_ifeqB (t := 14) (f := 10) rfl rfl rfl (fun c1 => ?_) (fun c1 => ?_)
  · have c1 : ¬ (isWd t n p q) := c1
    refine wn_ld (pc' := 15) (q := 2) (kin := 0) (v := .int (bI (isWd t n p q))) rfl (fun _ _ _ => rfl) rfl rfl ?_
    exact wn_iret rfl rfl (nar_bI _) ⟨(Fr.rfl' [71] h), Or.inr ⟨c1, congrArg (fun z => some (Value.int z)) (bI_f0 c1).symm, rfl⟩⟩
  · have c1 : (isWd t n p q) := c1
    refine wn_ld (pc' := 11) (q := 0) (kin := 2) (v := .ref (71)) rfl (fun _ _ _ => rfl) rfl rfl ?_
    refine wn_virS (pc' := 14) rfl rfl (by decide) rfl rfl q0 (Nat.le_of_ble_eq_true rfl) (m_advance _ _ t n (tkA t n p) hn (tkA_le hp) hb th tl _ _ _ (nI (0)) (-1) il up lo q0 q4) (fun r9 h2 e3 => ?_)
    obtain ⟨rfl, f_h2, vl_h2, hv_h2, o_h2⟩ := e3
    show Wn _ _ 14 _ [] h2 _
    refine wn_ld (pc' := 15) (q := 2) (kin := 0) (v := .int (bI (isWd t n p q))) rfl (fun _ _ _ => rfl) rfl rfl ?_
    exact wn_iret rfl rfl (nar_bI _) ⟨(Fr.tr (Fr.rfl' [71] h) f_h2 (fun _ q => q)), Or.inl ⟨c1, congrArg (fun z => some (Value.int z)) (bI_t1 c1).symm, _, hv_h2, o_h2⟩⟩

theorem m_takesB (d : Nat) (h : aH) (th tl sz at9 fr tk vl fk fp il : Int32) (up lo : Int64) (hf : ¬ fk = 0) (q0 : isO h 71 9 (MoF th tl sz at9 fr tk vl fk fp il up lo)) (q : Nat) (hq : q < 20) : Rn (d + 3) 162 [.ref (71), .retAddr q] h (some (.int (nI 0))) h 0 0 := by
  refine Rn_of (by decide) (Nat.le_of_ble_eq_true rfl) ?_
  show Wn _ _ 0 [(0, .ref (71)), (1, .retAddr q)] [] _ _
  refine wn_ld (pc' := 1) (q := 0) (kin := 2) (v := .ref (71)) rfl (fun _ _ _ => rfl) rfl rfl ?_
  refine wn_ld (pc' := 2) (q := 1) (kin := 2) (v := .retAddr q) rfl (fun _ _ _ => rfl) rfl rfl ?_
  refine wn_virI (pc' := 5) rfl rfl (by decide) rfl rfl q0 (Nat.le_of_ble_eq_true rfl) (m_isB _ _ _ _ _ _ _ _ _ _ _ _ _ _ hf q0 q (by omega)) ?_
  refine wn_st (pc' := 6) (q := 2) (kin := 0) (lv' := [(0, .ref (71)), (1, .retAddr q), (2, .int (nI (0)))]) rfl (fun _ _ _ => rfl) rfl (Nat.le_of_ble_eq_true rfl) rfl ?_
  refine wn_ld (pc' := 7) (q := 2) (kin := 0) (v := .int (nI (0))) rfl (fun _ _ _ => rfl) rfl rfl ?_
  refine wn_ifN (t := 14) (f := 10) rfl rfl rfl (by omega) (fun c1 => ?_) (fun c1 => ?_)
  · have c1 : 0 = 0 := c1
    refine wn_ld (pc' := 15) (q := 2) (kin := 0) (v := .int (nI (0))) rfl (fun _ _ _ => rfl) rfl rfl ?_
    exact wn_iret rfl rfl (by decide) ⟨rfl, rfl⟩
  · have c1 : ¬ 0 = 0 := c1
    exact absurd c1 (by decide)

theorem m_needs0 (d : Nat) (h : aH) (t : Nat → Int32) (n p : Nat) (hn : n ≤ 1200) (hp : p ≤ n) (hb : byT t) (th tl vl il : Int32) (up lo : Int64) (hv : vlP t n p vl) (q0 : isO h 71 9 (moS t n p th tl vl (nI 0) (-1) il up lo)) (q4 : isB h 75 1200 t) (q : Nat) (hq : q < 20) : Sp (Rn (d + 4)) 163 [.ref (71), .retAddr q] h (fun r9 h9 => r9 = none ∧ Fr [71] h h9 ∧ ((isWd t n p q ∧ ∃ vl', vlP t n (tkA t n p) vl' ∧ isO h9 71 9 (moS t n (tkA t n p) th tl (vl') (nI 0) (-1) il up lo)) ∨ (¬ isWd t n p q ∧ isO h9 71 9 (moS t n p th tl vl (nI 1) (nI (tkF t n p)) il up lo)))) := by
  have hF := tkF_le (t := t) hp
  have hA := tkA_ge (t := t) (n := n) (p := p)
  have hA2 := tkA_le (t := t) hp
  have hK := tkK_le (t := t) (n := n) (p := p)
  refine Sp_of (by decide) (Nat.le_of_ble_eq_true rfl) ?_
  show Wn _ _ 0 [(0, .ref (71)), (1, .retAddr q)] [] _ _
  refine wn_ld (pc' := 1) (q := 0) (kin := 2) (v := .ref (71)) rfl (fun _ _ _ => rfl) rfl rfl ?_
  refine wn_ld (pc' := 2) (q := 1) (kin := 2) (v := .retAddr q) rfl (fun _ _ _ => rfl) rfl rfl ?_
  refine wn_virS (pc' := 5) rfl rfl (by decide) rfl rfl q0 (Nat.le_of_ble_eq_true rfl) (m_takes0 _ _ t n p hn hp hb th tl _ il up lo hv q0 q4 q (by omega)) (fun r9 h1 e2 => ?_)
  obtain ⟨f_h1, ⟨w_h1, rfl, vl_h1, hv_h1, o_h1⟩ | ⟨w_h1, rfl, e_h1⟩⟩ := e2
  · have := tkF_le (t := t) (p := tkA t n p) (tkA_le hp)
    have := tkA_ge (t := t) (n := n) (p := tkA t n p)
    have := tkA_le (t := t) (p := tkA t n p) (tkA_le hp)
    have := tkK_le (t := t) (n := n) (p := tkA t n p)
    show Wn _ _ 5 _ [.int (nI (1))] h1 _
    refine wn_ifN (t := 13) (f := 8) rfl rfl rfl (by omega) (fun c3 => ?_) (fun c3 => ?_)
    · have c3 : ¬ 1 = 0 := c3
      exact wn_vret rfl rfl ⟨rfl, (Fr.tr (Fr.rfl' [71] h) f_h1 (fun _ q => q)), Or.inl ⟨w_h1, _, hv_h1, o_h1⟩⟩
    · have c3 : 1 = 0 := c3
      exact absurd c3 (by decide)
  · rw [e_h1]
    show Wn _ _ 5 _ [.int (nI (0))] h _
    refine wn_ifN (t := 13) (f := 8) rfl rfl rfl (by omega) (fun c4 => ?_) (fun c4 => ?_)
    · have c4 : ¬ 0 = 0 := c4
      exact absurd c4 (by decide)
    · have c4 : 0 = 0 := c4
      refine wn_ld (pc' := 9) (q := 0) (kin := 2) (v := .ref (71)) rfl (fun _ _ _ => rfl) rfl rfl ?_
      refine wn_ic (pc' := 10) (w := nI 1) rfl rfl (by decide) ?_
      refine wn_virS (pc' := 13) rfl rfl (by decide) rfl rfl q0 (Nat.le_of_ble_eq_true rfl) (m_errs0 _ _ _ _ _ _ _ _ _ _ _ _ _ q0 (nI (1))) (fun r9 h5 e6 => ?_)
      obtain ⟨rfl, f_h5, o_h5⟩ := e6
      show Wn _ _ 13 _ [] h5 _
      exact wn_vret rfl rfl ⟨rfl, (Fr.tr (Fr.rfl' [71] h) f_h5 (fun _ q => q)), Or.inr ⟨w_h1, o_h5⟩⟩

theorem m_needsB (d : Nat) (h : aH) (th tl sz at9 fr tk vl fk fp il : Int32) (up lo : Int64) (hf : ¬ fk = 0) (q0 : isO h 71 9 (MoF th tl sz at9 fr tk vl fk fp il up lo)) (q : Nat) (hq : q < 20) : Rn (d + 4) 163 [.ref (71), .retAddr q] h none h 0 0 := by
  refine Rn_of (by decide) (Nat.le_of_ble_eq_true rfl) ?_
  show Wn _ _ 0 [(0, .ref (71)), (1, .retAddr q)] [] _ _
  refine wn_ld (pc' := 1) (q := 0) (kin := 2) (v := .ref (71)) rfl (fun _ _ _ => rfl) rfl rfl ?_
  refine wn_ld (pc' := 2) (q := 1) (kin := 2) (v := .retAddr q) rfl (fun _ _ _ => rfl) rfl rfl ?_
  refine wn_virI (pc' := 5) rfl rfl (by decide) rfl rfl q0 (Nat.le_of_ble_eq_true rfl) (m_takesB _ _ _ _ _ _ _ _ _ _ _ _ _ _ hf q0 q (by omega)) ?_
  refine wn_ifN (t := 13) (f := 8) rfl rfl rfl (by omega) (fun c1 => ?_) (fun c1 => ?_)
  · have c1 : ¬ 0 = 0 := c1
    exact absurd c1 (by decide)
  · have c1 : 0 = 0 := c1
    refine wn_ld (pc' := 9) (q := 0) (kin := 2) (v := .ref (71)) rfl (fun _ _ _ => rfl) rfl rfl ?_
    refine wn_ic (pc' := 10) (w := nI 1) rfl rfl (by decide) ?_
    refine wn_virV (pc' := 13) rfl rfl (by decide) rfl rfl q0 (Nat.le_of_ble_eq_true rfl) (m_errsB _ _ _ _ _ _ _ _ _ _ _ _ _ _ hf q0 (nI (1))) ?_
    exact wn_vret rfl rfl ⟨rfl, rfl⟩

theorem m_number0 (d : Nat) (h : aH) (t : Nat → Int32) (n p : Nat) (hn : n ≤ 1200) (hp : p ≤ n) (hb : byT t) (th tl vl il : Int32) (up lo : Int64) (hv : vlP t n p vl) (q0 : isO h 71 9 (moS t n p th tl vl (nI 0) (-1) il up lo)) (q4 : isB h 75 1200 t) (lo9 : Nat) (hlo : lo9 ≤ 2) (hi : Int32) (hhi : hi.toInt ≤ 999) : Sp (Rn (d + 3)) 164 [.ref (71), .int (nI (lo9)), .int (hi)] h (fun r9 h9 => Fr [71] h h9 ∧ ((nmOK t n p lo9 hi.toInt ∧ r9 = some (.int (nI (tkV t n p))) ∧ ∃ vl', vlP t n (tkA t n p) vl' ∧ isO h9 71 9 (moS t n (tkA t n p) th tl (vl') (nI 0) (-1) il up lo)) ∨ (¬ nmOK t n p lo9 hi.toInt ∧ r9 = some (.int (nI 0)) ∧ isO h9 71 9 (moS t n p th tl vl (nI (nmF t n p)) (nI (tkF t n p)) il up lo)))) := by
  have hF := tkF_le (t := t) hp
  have hA := tkA_ge (t := t) (n := n) (p := p)
  have hA2 := tkA_le (t := t) hp
  have hK := tkK_le (t := t) (n := n) (p := p)
  refine Sp_of (by decide) (Nat.le_of_ble_eq_true rfl) ?_
  show Wn _ _ 0 [(0, .ref (71)), (1, .int (nI (lo9))), (2, .int (hi))] [] _ _
  refine wn_ld (pc' := 1) (q := 0) (kin := 2) (v := .ref (71)) rfl (fun _ _ _ => rfl) rfl rfl ?_
  refine wn_virI (pc' := 4) rfl rfl (by decide) rfl rfl q0 (Nat.le_of_ble_eq_true rfl) (m_good0 _ _ _ _ _ _ _ _ _ _ _ _ _ q0) ?_
  refine wn_ifN (t := 20) (f := 7) rfl rfl rfl (by omega) (fun c1 => ?_) (fun c1 => ?_)
  · have c1 : 1 = 0 := c1
    exact absurd c1 (by decide)
  · have c1 : ¬ 1 = 0 := c1
    refine wn_ld (pc' := 8) (q := 0) (kin := 2) (v := .ref (71)) rfl (fun _ _ _ => rfl) rfl rfl ?_
    refine wn_get (pc' := 11) (v := .int (nI (tkK t n p))) rfl rfl q0 rfl ?_
    refine wn_ic (pc' := 12) (w := nI 2) rfl rfl (by decide) ?_
    refine wn_icmpN (t := 20) (f := 15) rfl rfl rfl (by omega) (by omega) (fun c2 => ?_) (fun c2 => ?_)
    · have c2 : (tkK t n p) = 2 := c2
      refine wn_ld (pc' := 21) (q := 0) (kin := 2) (v := .ref (71)) rfl (fun _ _ _ => rfl) rfl rfl ?_
      refine wn_virI (pc' := 24) rfl rfl (by decide) rfl rfl q0 (Nat.le_of_ble_eq_true rfl) (m_good0 _ _ _ _ _ _ _ _ _ _ _ _ _ q0) ?_
      refine wn_ifN (t := 47) (f := 27) rfl rfl rfl (by omega) (fun c3 => ?_) (fun c3 => ?_)
      · have c3 : 1 = 0 := c3
        exact absurd c3 (by decide)
      · have c3 : ¬ 1 = 0 := c3
        have eV := hv c2
        have eM : vl.toInt = (min 9999 (tkV t n p) : Int) := by rw [eV, nI_toInt (by omega)]; omega
        refine wn_ld (pc' := 28) (q := 0) (kin := 2) (v := .ref (71)) rfl (fun _ _ _ => rfl) rfl rfl ?_
        refine wn_get (pc' := 31) (v := .int (vl)) rfl rfl q0 rfl ?_
        refine wn_pu (pc' := 32) (st' := [.long (Int32.toInt64 (vl))]) rfl (fun _ _ _ => rfl) rfl rfl ?_
        refine wn_ld (pc' := 33) (q := 1) (kin := 0) (v := .int (nI (lo9))) rfl (fun _ _ _ => rfl) rfl rfl ?_
        refine wn_i2lN (pc' := 34) rfl rfl (by omega) ?_
        refine wn_ld (pc' := 35) (q := 2) (kin := 0) (v := .int (hi)) rfl (fun _ _ _ => rfl) rfl rfl ?_
        refine wn_pu (pc' := 36) (st' := [.long (Int32.toInt64 (hi)), .long (lN (lo9)), .long (Int32.toInt64 (vl))]) rfl (fun _ _ _ => rfl) rfl rfl ?_
        refine wn_staI (pc' := 39) rfl rfl (by decide) rfl rfl (Nat.le_of_ble_eq_true rfl) (m_in _ _ _ _ _) ?_
        refine wn_ifneB (t := 47) (f := 42) rfl rfl rfl (fun c4 => ?_) (fun c4 => ?_)
        · have c4 : ((lN (lo9)).toInt ≤ (Int32.toInt64 (vl)).toInt ∧ (Int32.toInt64 (vl)).toInt ≤ (Int32.toInt64 (hi)).toInt) := c4
          refine wn_ld (pc' := 48) (q := 0) (kin := 2) (v := .ref (71)) rfl (fun _ _ _ => rfl) rfl rfl ?_
          refine wn_virI (pc' := 51) rfl rfl (by decide) rfl rfl q0 (Nat.le_of_ble_eq_true rfl) (m_good0 _ _ _ _ _ _ _ _ _ _ _ _ _ q0) ?_
          refine wn_ifN (t := 56) (f := 54) rfl rfl rfl (by omega) (fun c5 => ?_) (fun c5 => ?_)
          · have c5 : ¬ 1 = 0 := c5
            refine wn_ld (pc' := 57) (q := 0) (kin := 2) (v := .ref (71)) rfl (fun _ _ _ => rfl) rfl rfl ?_
            refine wn_get (pc' := 60) (v := .int (vl)) rfl rfl q0 rfl ?_
            refine wn_st (pc' := 61) (q := 3) (kin := 0) (lv' := [(0, .ref (71)), (1, .int (nI (lo9))), (2, .int (hi)), (3, .int (vl))]) rfl (fun _ _ _ => rfl) rfl (Nat.le_of_ble_eq_true rfl) rfl ?_
            refine wn_ld (pc' := 62) (q := 0) (kin := 2) (v := .ref (71)) rfl (fun _ _ _ => rfl) rfl rfl ?_
            refine wn_virS (pc' := 65) rfl rfl (by decide) rfl rfl q0 (Nat.le_of_ble_eq_true rfl) (m_advance _ _ t n (tkA t n p) hn (tkA_le hp) hb th tl _ _ _ (nI (0)) (-1) il up lo q0 q4) (fun r9 h6 e7 => ?_)
            obtain ⟨rfl, f_h6, vl_h6, hv_h6, o_h6⟩ := e7
            show Wn _ _ 65 _ [] h6 _
            refine wn_ld (pc' := 66) (q := 3) (kin := 0) (v := .int (vl)) rfl (fun _ _ _ => rfl) rfl rfl ?_
            rw [i2l_int, i2l_int, eM, lN_big (by omega)] at c4
            have eV2 : min 9999 (tkV t n p) = tkV t n p := by omega
            exact wn_iret rfl rfl rfl ⟨(Fr.tr (Fr.rfl' [71] h) f_h6 (fun _ q => q)), Or.inl ⟨⟨c2, by omega, by omega⟩, by rw [eV, eV2], _, hv_h6, o_h6⟩⟩
          · have c5 : 1 = 0 := c5
            exact absurd c5 (by decide)
        · have c4 : ¬ ((lN (lo9)).toInt ≤ (Int32.toInt64 (vl)).toInt ∧ (Int32.toInt64 (vl)).toInt ≤ (Int32.toInt64 (hi)).toInt) := c4
          refine wn_ld (pc' := 43) (q := 0) (kin := 2) (v := .ref (71)) rfl (fun _ _ _ => rfl) rfl rfl ?_
          refine wn_ic (pc' := 44) (w := nI 2) rfl rfl (by decide) ?_
          refine wn_virS (pc' := 47) rfl rfl (by decide) rfl rfl q0 (Nat.le_of_ble_eq_true rfl) (m_errs0 _ _ _ _ _ _ _ _ _ _ _ _ _ q0 (nI (2))) (fun r9 h8 e9 => ?_)
          obtain ⟨rfl, f_h8, o_h8⟩ := e9
          show Wn _ _ 47 _ [] h8 _
          refine wn_ld (pc' := 48) (q := 0) (kin := 2) (v := .ref (71)) rfl (fun _ _ _ => rfl) rfl rfl ?_
          refine wn_virI (pc' := 51) rfl rfl (by decide) rfl rfl o_h8 (Nat.le_of_ble_eq_true rfl) (m_goodB _ _ _ _ _ _ _ _ _ _ _ _ _ _ (show ¬ (nI (2)) = 0 by decide) o_h8) ?_
          refine wn_ifN (t := 56) (f := 54) rfl rfl rfl (by omega) (fun c10 => ?_) (fun c10 => ?_)
          · have c10 : ¬ 0 = 0 := c10
            exact absurd c10 (by decide)
          · have c10 : 0 = 0 := c10
            refine wn_ic (pc' := 55) (w := nI 0) rfl rfl (by decide) ?_
            rw [i2l_int, i2l_int, eM, lN_big (by omega)] at c4
            have nO : ¬ nmOK t n p lo9 hi.toInt := fun q => by have q2 := q.2; omega
            exact wn_iret rfl rfl rfl ⟨(Fr.tr (Fr.rfl' [71] h) f_h8 (fun _ q => q)), Or.inr ⟨nO, rfl, by rw [show nmF t n p = 2 from if_pos c2]; exact o_h8⟩⟩
    · have c2 : ¬ (tkK t n p) = 2 := c2
      refine wn_ld (pc' := 16) (q := 0) (kin := 2) (v := .ref (71)) rfl (fun _ _ _ => rfl) rfl rfl ?_
      refine wn_ic (pc' := 17) (w := nI 1) rfl rfl (by decide) ?_
      refine wn_virS (pc' := 20) rfl rfl (by decide) rfl rfl q0 (Nat.le_of_ble_eq_true rfl) (m_errs0 _ _ _ _ _ _ _ _ _ _ _ _ _ q0 (nI (1))) (fun r9 h11 e12 => ?_)
      obtain ⟨rfl, f_h11, o_h11⟩ := e12
      show Wn _ _ 20 _ [] h11 _
      refine wn_ld (pc' := 21) (q := 0) (kin := 2) (v := .ref (71)) rfl (fun _ _ _ => rfl) rfl rfl ?_
      refine wn_virI (pc' := 24) rfl rfl (by decide) rfl rfl o_h11 (Nat.le_of_ble_eq_true rfl) (m_goodB _ _ _ _ _ _ _ _ _ _ _ _ _ _ (show ¬ (nI (1)) = 0 by decide) o_h11) ?_
      refine wn_ifN (t := 47) (f := 27) rfl rfl rfl (by omega) (fun c13 => ?_) (fun c13 => ?_)
      · have c13 : 0 = 0 := c13
        refine wn_ld (pc' := 48) (q := 0) (kin := 2) (v := .ref (71)) rfl (fun _ _ _ => rfl) rfl rfl ?_
        refine wn_virI (pc' := 51) rfl rfl (by decide) rfl rfl o_h11 (Nat.le_of_ble_eq_true rfl) (m_goodB _ _ _ _ _ _ _ _ _ _ _ _ _ _ (show ¬ (nI (1)) = 0 by decide) o_h11) ?_
        refine wn_ifN (t := 56) (f := 54) rfl rfl rfl (by omega) (fun c14 => ?_) (fun c14 => ?_)
        · have c14 : ¬ 0 = 0 := c14
          exact absurd c14 (by decide)
        · have c14 : 0 = 0 := c14
          refine wn_ic (pc' := 55) (w := nI 0) rfl rfl (by decide) ?_
          exact wn_iret rfl rfl rfl ⟨(Fr.tr (Fr.rfl' [71] h) f_h11 (fun _ q => q)), Or.inr ⟨fun q => c2 q.1, rfl, by rw [show nmF t n p = 1 from if_neg c2]; exact o_h11⟩⟩
      · have c13 : ¬ 0 = 0 := c13
        exact absurd c13 (by decide)

theorem m_numberB (d : Nat) (h : aH) (th tl sz at9 fr tk vl fk fp il : Int32) (up lo : Int64) (hf : ¬ fk = 0) (q0 : isO h 71 9 (MoF th tl sz at9 fr tk vl fk fp il up lo)) (lo9 hi : Int32) : Rn (d + 2) 164 [.ref (71), .int (lo9), .int (hi)] h (some (.int (nI 0))) h 0 0 := by
  refine Rn_of (by decide) (Nat.le_of_ble_eq_true rfl) ?_
  show Wn _ _ 0 [(0, .ref (71)), (1, .int (lo9)), (2, .int (hi))] [] _ _
  refine wn_ld (pc' := 1) (q := 0) (kin := 2) (v := .ref (71)) rfl (fun _ _ _ => rfl) rfl rfl ?_
  refine wn_virI (pc' := 4) rfl rfl (by decide) rfl rfl q0 (Nat.le_of_ble_eq_true rfl) (m_goodB _ _ _ _ _ _ _ _ _ _ _ _ _ _ hf q0) ?_
  refine wn_ifN (t := 20) (f := 7) rfl rfl rfl (by omega) (fun c1 => ?_) (fun c1 => ?_)
  · have c1 : 0 = 0 := c1
    refine wn_ld (pc' := 21) (q := 0) (kin := 2) (v := .ref (71)) rfl (fun _ _ _ => rfl) rfl rfl ?_
    refine wn_virI (pc' := 24) rfl rfl (by decide) rfl rfl q0 (Nat.le_of_ble_eq_true rfl) (m_goodB _ _ _ _ _ _ _ _ _ _ _ _ _ _ hf q0) ?_
    refine wn_ifN (t := 47) (f := 27) rfl rfl rfl (by omega) (fun c2 => ?_) (fun c2 => ?_)
    · have c2 : 0 = 0 := c2
      refine wn_ld (pc' := 48) (q := 0) (kin := 2) (v := .ref (71)) rfl (fun _ _ _ => rfl) rfl rfl ?_
      refine wn_virI (pc' := 51) rfl rfl (by decide) rfl rfl q0 (Nat.le_of_ble_eq_true rfl) (m_goodB _ _ _ _ _ _ _ _ _ _ _ _ _ _ hf q0) ?_
      refine wn_ifN (t := 56) (f := 54) rfl rfl rfl (by omega) (fun c3 => ?_) (fun c3 => ?_)
      · have c3 : ¬ 0 = 0 := c3
        exact absurd c3 (by decide)
      · have c3 : 0 = 0 := c3
        refine wn_ic (pc' := 55) (w := nI 0) rfl rfl (by decide) ?_
        exact wn_iret rfl rfl rfl ⟨rfl, rfl⟩
    · have c2 : ¬ 0 = 0 := c2
      exact absurd c2 (by decide)
  · have c1 : ¬ 0 = 0 := c1
    exact absurd c1 (by decide)

