/-! THE REFERENCE'S is, takes, needs, number: ahead of a FAULT (0) and behind one (B) -/
noncomputable def moS (t : Nat → Int32) (n p : Nat) (th tl vl fk fp il : Int32) (up lo : Int64) : List Value := MoF th tl (nI n) (nI (tkA t n p)) (nI (tkF t n p)) (nI (tkK t n p)) vl fk fp il up lo
def vlP (t : Nat → Int32) (n p : Nat) (vl : Int32) : Prop := tkK t n p = 2 → vl = nI (min 9999 (tkV t n p))
theorem m_good0 (d : Nat) (h : aH) (th tl sz at9 fr tk vl fp il : Int32) (up lo : Int64) (q0 : isO h 71 9 (MoF th tl sz at9 fr tk vl (nI 0) fp il up lo)) : Rn (d + 1) 159 [.ref (71)] h (some (.int (nI 1))) h 0 0 := by
  refine Rn_of (by decide) (Nat.le_of_ble_eq_true rfl) ?_
  show Wn _ _ 0 [(0, .ref (71))] [] _ _
  refine wn_ld (pc' := 1) (q := 0) (kin := 2) (v := .ref (71)) rfl (fun _ _ _ => rfl) rfl rfl ?_
  refine wn_get (pc' := 4) (v := .int (nI (0))) rfl rfl q0 rfl ?_
  refine wn_ifN (t := 11) (f := 7) rfl rfl rfl (by omega) (fun c1 => ?_) (fun c1 => ?_)
  · have c1 : ¬ 0 = 0 := c1
    exact absurd c1 (by decide)
  · have c1 : 0 = 0 := c1
    refine wn_ic (pc' := 8) (w := nI 1) rfl rfl (by decide) ?_
    refine wn_jp (pc' := 12) rfl rfl ?_
    exact wn_iret rfl rfl (by decide) ⟨rfl, rfl⟩

theorem m_goodB (d : Nat) (h : aH) (th tl sz at9 fr tk vl fk fp il : Int32) (up lo : Int64) (hf : ¬ fk = 0) (q0 : isO h 71 9 (MoF th tl sz at9 fr tk vl fk fp il up lo)) : Rn (d + 1) 159 [.ref (71)] h (some (.int (nI 0))) h 0 0 := by
  refine Rn_of (by decide) (Nat.le_of_ble_eq_true rfl) ?_
  show Wn _ _ 0 [(0, .ref (71))] [] _ _
  refine wn_ld (pc' := 1) (q := 0) (kin := 2) (v := .ref (71)) rfl (fun _ _ _ => rfl) rfl rfl ?_
  refine wn_get (pc' := 4) (v := .int (fk)) rfl rfl q0 rfl ?_
  refine wn_ifc (t := 11) (f := 7) rfl rfl rfl (fun c1 => ?_) (fun c1 => ?_)
  · have c1 : ¬ ((fk)) = 0 := c1
    refine wn_ic (pc' := 12) (w := nI 0) rfl rfl (by decide) ?_
    exact wn_iret rfl rfl (by decide) ⟨rfl, rfl⟩
  · have c1 : ((fk)) = 0 := c1
    exact absurd c1 hf

theorem m_errs0 (d : Nat) (h : aH) (th tl sz at9 fr tk vl fp il : Int32) (up lo : Int64) (q0 : isO h 71 9 (MoF th tl sz at9 fr tk vl (nI 0) fp il up lo)) (a : Int32) : Sp (Rn (d + 2)) 160 [.ref (71), .int (a)] h (fun r9 h9 => r9 = none ∧ Fr [71] h h9 ∧ isO h9 71 9 (MoF th tl sz at9 fr tk vl a fr il up lo)) := by
  refine Sp_of (by decide) (Nat.le_of_ble_eq_true rfl) ?_
  show Wn _ _ 0 [(0, .ref (71)), (1, .int (a))] [] _ _
  refine wn_ld (pc' := 1) (q := 0) (kin := 2) (v := .ref (71)) rfl (fun _ _ _ => rfl) rfl rfl ?_
  refine wn_virI (pc' := 4) rfl rfl (by decide) rfl rfl q0 (Nat.le_of_ble_eq_true rfl) (m_good0 _ _ _ _ _ _ _ _ _ _ _ _ _ q0) ?_
  refine wn_ifN (t := 8) (f := 7) rfl rfl rfl (by omega) (fun c1 => ?_) (fun c1 => ?_)
  · have c1 : ¬ 1 = 0 := c1
    refine wn_ld (pc' := 9) (q := 0) (kin := 2) (v := .ref (71)) rfl (fun _ _ _ => rfl) rfl rfl ?_
    refine wn_ld (pc' := 10) (q := 1) (kin := 0) (v := .int (a)) rfl (fun _ _ _ => rfl) rfl rfl ?_
    refine wn_put (pc' := 13) rfl rfl q0 (Nat.le_of_ble_eq_true rfl) ⟨rfl, rfl⟩ ?_
    show Wn _ _ 13 _ [] (h.set 71 (.inr (9, [.int (th), .ref (72), .ref (73), .ref (74), .ref (75), .int (tl), .ref (76), .int (sz), .int (at9), .int (fr), .int (tk), .int (vl), .int (a), .int (fp), .ref (77), .int (il), .ref (78), .ref (79), .ref (80), .long (up), .long (lo), .ref (81), .ref (82), .ref (83), .ref (84)]))) _
    refine wn_ld (pc' := 14) (q := 0) (kin := 2) (v := .ref (71)) rfl (fun _ _ _ => rfl) rfl rfl ?_
    refine wn_ld (pc' := 15) (q := 0) (kin := 2) (v := .ref (71)) rfl (fun _ _ _ => rfl) rfl rfl ?_
    refine wn_get (pc' := 18) (v := .int (fr)) rfl rfl (gs_self q0) rfl ?_
    refine wn_put (pc' := 21) rfl rfl (gs_self q0) (Nat.le_of_ble_eq_true rfl) ⟨rfl, rfl⟩ ?_
    show Wn _ _ 21 _ [] ((h.set 71 (.inr (9, [.int (th), .ref (72), .ref (73), .ref (74), .ref (75), .int (tl), .ref (76), .int (sz), .int (at9), .int (fr), .int (tk), .int (vl), .int (a), .int (fp), .ref (77), .int (il), .ref (78), .ref (79), .ref (80), .long (up), .long (lo), .ref (81), .ref (82), .ref (83), .ref (84)]))).set 71 (.inr (9, [.int (th), .ref (72), .ref (73), .ref (74), .ref (75), .int (tl), .ref (76), .int (sz), .int (at9), .int (fr), .int (tk), .int (vl), .int (a), .int (fr), .ref (77), .int (il), .ref (78), .ref (79), .ref (80), .long (up), .long (lo), .ref (81), .ref (82), .ref (83), .ref (84)]))) _
    exact wn_vret rfl rfl ⟨rfl, (Fr.st (Fr.st (Fr.rfl' [71] h) (by decide)) (by decide)), (gs_self (gs_self q0))⟩
  · have c1 : 1 = 0 := c1
    exact absurd c1 (by decide)

theorem m_errsB (d : Nat) (h : aH) (th tl sz at9 fr tk vl fk fp il : Int32) (up lo : Int64) (hf : ¬ fk = 0) (q0 : isO h 71 9 (MoF th tl sz at9 fr tk vl fk fp il up lo)) (a : Int32) : Rn (d + 2) 160 [.ref (71), .int (a)] h none h 0 0 := by
  refine Rn_of (by decide) (Nat.le_of_ble_eq_true rfl) ?_
  show Wn _ _ 0 [(0, .ref (71)), (1, .int (a))] [] _ _
  refine wn_ld (pc' := 1) (q := 0) (kin := 2) (v := .ref (71)) rfl (fun _ _ _ => rfl) rfl rfl ?_
  refine wn_virI (pc' := 4) rfl rfl (by decide) rfl rfl q0 (Nat.le_of_ble_eq_true rfl) (m_goodB _ _ _ _ _ _ _ _ _ _ _ _ _ _ hf q0) ?_
  refine wn_ifN (t := 8) (f := 7) rfl rfl rfl (by omega) (fun c1 => ?_) (fun c1 => ?_)
  · have c1 : ¬ 0 = 0 := c1
    exact absurd c1 (by decide)
  · have c1 : 0 = 0 := c1
    exact wn_vret rfl rfl ⟨rfl, rfl⟩

theorem m_is0 (d : Nat) (h : aH) (t : Nat → Int32) (n p : Nat) (hn : n ≤ 1200) (hp : p ≤ n) (hb : byT t) (th tl vl il : Int32) (up lo : Int64) (hv : vlP t n p vl) (q0 : isO h 71 9 (moS t n p th tl vl (nI 0) (-1) il up lo)) (q4 : isB h 75 1200 t) (q : Nat) (hq : q < 20) : Rn (d + 2) 161 [.ref (71), .retAddr q] h (some (.int (bI (isWd t n p q)))) h 0 0 := by
  have hF := tkF_le (t := t) hp
  have hA := tkA_ge (t := t) (n := n) (p := p)
  have hA2 := tkA_le (t := t) hp
  have hK := tkK_le (t := t) (n := n) (p := p)
  have hll := lit_le q hq
  refine Rn_of (by decide) (Nat.le_of_ble_eq_true rfl) ?_
  show Wn _ _ 0 [(0, .ref (71)), (1, .retAddr q)] [] _ _
  refine wn_ld (pc' := 1) (q := 0) (kin := 2) (v := .ref (71)) rfl (fun _ _ _ => rfl) rfl rfl ?_
  refine wn_virI (pc' := 4) rfl rfl (by decide) rfl rfl q0 (Nat.le_of_ble_eq_true rfl) (m_good0 _ _ _ _ _ _ _ _ _ _ _ _ _ q0) ?_
  refine wn_ifN (t := 35) (f := 7) rfl rfl rfl (by omega) (fun c1 => ?_) (fun c1 => ?_)
  · have c1 : 1 = 0 := c1
    exact absurd c1 (by decide)
  · have c1 : ¬ 1 = 0 := c1
    refine wn_ld (pc' := 8) (q := 0) (kin := 2) (v := .ref (71)) rfl (fun _ _ _ => rfl) rfl rfl ?_
    refine wn_get (pc' := 11) (v := .int (nI (tkK t n p))) rfl rfl q0 rfl ?_
    refine wn_ic (pc' := 12) (w := nI 1) rfl rfl (by decide) ?_
    refine wn_icmpN (t := 35) (f := 15) rfl rfl rfl (by omega) (by omega) (fun c2 => ?_) (fun c2 => ?_)
    · have c2 : ¬ (tkK t n p) = 1 := c2
      refine wn_ic (pc' := 36) (w := nI 0) rfl rfl (by decide) ?_
      refine wn_st (pc' := 37) (q := 2) (kin := 0) (lv' := [(0, .ref (71)), (1, .retAddr q), (2, .int (nI (0)))]) rfl (fun _ _ _ => rfl) rfl (Nat.le_of_ble_eq_true rfl) rfl ?_
      refine wn_ic (pc' := 38) (w := nI 0) rfl rfl (by decide) ?_
      refine wn_st (pc' := 39) (q := 3) (kin := 0) (lv' := [(0, .ref (71)), (1, .retAddr q), (2, .int (nI (0))), (3, .int (nI (0)))]) rfl (fun _ _ _ => rfl) rfl (Nat.le_of_ble_eq_true rfl) rfl ?_
      refine wn_ld (pc' := 40) (q := 3) (kin := 0) (v := .int (nI (0))) rfl (fun _ _ _ => rfl) rfl rfl ?_
      refine wn_ld (pc' := 41) (q := 1) (kin := 2) (v := .retAddr q) rfl (fun _ _ _ => rfl) rfl rfl ?_
      refine wn_slen (pc' := 44) rfl rfl (by omega) (Nat.le_of_ble_eq_true rfl) ?_
      refine wn_icmpN (t := 82) (f := 47) rfl rfl rfl (by omega) (by omega) (fun c3 => ?_) (fun c3 => ?_)
      · have c3 : ((lit q).length) ≤ 0 := c3
        refine wn_ld (pc' := 83) (q := 2) (kin := 0) (v := .int (nI (0))) rfl (fun _ _ _ => rfl) rfl rfl ?_
        exact wn_iret rfl rfl (by decide) ⟨congrArg (fun z => some (Value.int z)) (bI_f0 (fun g => by have := g.1; have := g.2.1; omega)), rfl⟩
      · have c3 : 0 < ((lit q).length) := c3
        refine wn_ld (pc' := 48) (q := 2) (kin := 0) (v := .int (nI (0))) rfl (fun _ _ _ => rfl) rfl rfl ?_
        refine wn_ifN (t := 82) (f := 51) rfl rfl rfl (by omega) (fun c4 => ?_) (fun c4 => ?_)
        · have c4 : 0 = 0 := c4
          refine wn_ld (pc' := 83) (q := 2) (kin := 0) (v := .int (nI (0))) rfl (fun _ _ _ => rfl) rfl rfl ?_
          exact wn_iret rfl rfl (by decide) ⟨congrArg (fun z => some (Value.int z)) (bI_f0 (fun g => by have := g.1; have := g.2.1; omega)), rfl⟩
        · have c4 : ¬ 0 = 0 := c4
          exact absurd c4 (by decide)
    · have c2 : (tkK t n p) = 1 := c2
      refine wn_ld (pc' := 16) (q := 0) (kin := 2) (v := .ref (71)) rfl (fun _ _ _ => rfl) rfl rfl ?_
      refine wn_get (pc' := 19) (v := .int (nI (tkA t n p))) rfl rfl q0 rfl ?_
      refine wn_ld (pc' := 20) (q := 0) (kin := 2) (v := .ref (71)) rfl (fun _ _ _ => rfl) rfl rfl ?_
      refine wn_get (pc' := 23) (v := .int (nI (tkF t n p))) rfl rfl q0 rfl ?_
      refine wn_subN (pc' := 24) rfl rfl (by omega) ?_
      refine wn_ld (pc' := 25) (q := 1) (kin := 2) (v := .retAddr q) rfl (fun _ _ _ => rfl) rfl rfl ?_
      refine wn_slen (pc' := 28) rfl rfl (by omega) (Nat.le_of_ble_eq_true rfl) ?_
      refine wn_icmpN (t := 35) (f := 31) rfl rfl rfl (by omega) (by omega) (fun c5 => ?_) (fun c5 => ?_)
      · have c5 : ¬ ((tkA t n p) - (tkF t n p)) = ((lit q).length) := c5
        refine wn_ic (pc' := 36) (w := nI 0) rfl rfl (by decide) ?_
        refine wn_st (pc' := 37) (q := 2) (kin := 0) (lv' := [(0, .ref (71)), (1, .retAddr q), (2, .int (nI (0)))]) rfl (fun _ _ _ => rfl) rfl (Nat.le_of_ble_eq_true rfl) rfl ?_
        refine wn_ic (pc' := 38) (w := nI 0) rfl rfl (by decide) ?_
        refine wn_st (pc' := 39) (q := 3) (kin := 0) (lv' := [(0, .ref (71)), (1, .retAddr q), (2, .int (nI (0))), (3, .int (nI (0)))]) rfl (fun _ _ _ => rfl) rfl (Nat.le_of_ble_eq_true rfl) rfl ?_
        refine wn_ld (pc' := 40) (q := 3) (kin := 0) (v := .int (nI (0))) rfl (fun _ _ _ => rfl) rfl rfl ?_
        refine wn_ld (pc' := 41) (q := 1) (kin := 2) (v := .retAddr q) rfl (fun _ _ _ => rfl) rfl rfl ?_
        refine wn_slen (pc' := 44) rfl rfl (by omega) (Nat.le_of_ble_eq_true rfl) ?_
        refine wn_icmpN (t := 82) (f := 47) rfl rfl rfl (by omega) (by omega) (fun c6 => ?_) (fun c6 => ?_)
        · have c6 : ((lit q).length) ≤ 0 := c6
          refine wn_ld (pc' := 83) (q := 2) (kin := 0) (v := .int (nI (0))) rfl (fun _ _ _ => rfl) rfl rfl ?_
          exact wn_iret rfl rfl (by decide) ⟨congrArg (fun z => some (Value.int z)) (bI_f0 (fun g => by have := g.1; have := g.2.1; omega)), rfl⟩
        · have c6 : 0 < ((lit q).length) := c6
          refine wn_ld (pc' := 48) (q := 2) (kin := 0) (v := .int (nI (0))) rfl (fun _ _ _ => rfl) rfl rfl ?_
          refine wn_ifN (t := 82) (f := 51) rfl rfl rfl (by omega) (fun c7 => ?_) (fun c7 => ?_)
          · have c7 : 0 = 0 := c7
            refine wn_ld (pc' := 83) (q := 2) (kin := 0) (v := .int (nI (0))) rfl (fun _ _ _ => rfl) rfl rfl ?_
            exact wn_iret rfl rfl (by decide) ⟨congrArg (fun z => some (Value.int z)) (bI_f0 (fun g => by have := g.1; have := g.2.1; omega)), rfl⟩
          · have c7 : ¬ 0 = 0 := c7
            exact absurd c7 (by decide)
      · have c5 : ((tkA t n p) - (tkF t n p)) = ((lit q).length) := c5
        refine wn_ic (pc' := 32) (w := nI 1) rfl rfl (by decide) ?_
        refine wn_jp (pc' := 36) rfl rfl ?_
        refine wn_st (pc' := 37) (q := 2) (kin := 0) (lv' := [(0, .ref (71)), (1, .retAddr q), (2, .int (nI (1)))]) rfl (fun _ _ _ => rfl) rfl (Nat.le_of_ble_eq_true rfl) rfl ?_
        refine wn_ic (pc' := 38) (w := nI 0) rfl rfl (by decide) ?_
        refine wn_st (pc' := 39) (q := 3) (kin := 0) (lv' := [(0, .ref (71)), (1, .retAddr q), (2, .int (nI (1))), (3, .int (nI (0)))]) rfl (fun _ _ _ => rfl) rfl (Nat.le_of_ble_eq_true rfl) rfl ?_
        have w0 : tkK t n p = 1 ∧ tkA t n p - tkF t n p = (lit q).length := ⟨by omega, by omega⟩
        have lp8 : ∀ (n_lp8 : Nat) (i : Nat), ((lit q).length) + 1 ≤ i + n_lp8 → i ≤ (lit q).length → Wn (Rn (d + 1)) 161 39 [(0, .ref (71)), (1, .retAddr q), (2, .int (bI (∀ x, x < i → t (tkF t n p + x) = (lit q).getD x 0))), (3, .int (nI (i)))] [] (h) (fun r9 h9 => r9 = (some (.int (bI (isWd t n p q)))) ∧ h9 = h) := by
          intro n_lp8
          induction n_lp8 with
          | zero => intro i hm_lp8 hi1; exfalso; omega
          | succ n_lp8 ih_lp8 =>
            intro i hm_lp8 hi1
            refine wn_ld (pc' := 40) (q := 3) (kin := 0) (v := .int (nI (i))) rfl (fun _ _ _ => rfl) rfl rfl ?_
            refine wn_ld (pc' := 41) (q := 1) (kin := 2) (v := .retAddr q) rfl (fun _ _ _ => rfl) rfl rfl ?_
            refine wn_slen (pc' := 44) rfl rfl (by omega) (Nat.le_of_ble_eq_true rfl) ?_
            refine wn_icmpN (t := 82) (f := 47) rfl rfl rfl (by omega) (by omega) (fun c9 => ?_) (fun c9 => ?_)
            · have c9 : ((lit q).length) ≤ i := c9
              refine wn_ld (pc' := 83) (q := 2) (kin := 0) (v := .int (bI (∀ x, x < i → t (tkF t n p + x) = (lit q).getD x 0))) rfl (fun _ _ _ => rfl) rfl rfl ?_
              refine wn_iret rfl rfl (nar_bI _) ⟨congrArg (fun z => some (Value.int z)) (bI_c ⟨fun g => ?_, fun g x hx => g.2.2 x (by omega)⟩), rfl⟩
              exact ⟨w0.1, w0.2, fun x hx => g x (by omega)⟩
            · have c9 : i < ((lit q).length) := c9
              refine wn_ld (pc' := 48) (q := 2) (kin := 0) (v := .int (bI (∀ x, x < i → t (tkF t n p + x) = (lit q).getD x 0))) rfl (fun _ _ _ => rfl) rfl rfl ?_
              refine wn_ifeqB (t := 82) (f := 51) rfl rfl rfl (fun c10 => ?_) (fun c10 => ?_)
              · have c10 : ¬ (∀ x, x < i → t (tkF t n p + x) = (lit q).getD x 0) := c10
                refine wn_ld (pc' := 83) (q := 2) (kin := 0) (v := .int (bI (∀ x, x < i → t (tkF t n p + x) = (lit q).getD x 0))) rfl (fun _ _ _ => rfl) rfl rfl ?_
                refine wn_iret rfl rfl (nar_bI _) ⟨congrArg (fun z => some (Value.int z)) (bI_c ⟨fun g => ?_, fun g x hx => g.2.2 x (by omega)⟩), rfl⟩
                exact absurd g c10
              · have c10 : (∀ x, x < i → t (tkF t n p + x) = (lit q).getD x 0) := c10
                refine wn_ld (pc' := 52) (q := 0) (kin := 2) (v := .ref (71)) rfl (fun _ _ _ => rfl) rfl rfl ?_
                refine wn_get (pc' := 55) (v := .ref (75)) rfl rfl q0 rfl ?_
                refine wn_ld (pc' := 56) (q := 0) (kin := 2) (v := .ref (71)) rfl (fun _ _ _ => rfl) rfl rfl ?_
                refine wn_get (pc' := 59) (v := .int (nI (tkF t n p))) rfl rfl q0 rfl ?_
                refine wn_ld (pc' := 60) (q := 3) (kin := 0) (v := .int (nI (i))) rfl (fun _ _ _ => rfl) rfl rfl ?_
                refine wn_addN (pc' := 61) rfl rfl ?_
                refine wn_baldv (pc' := 62) (j := (tkF t n p) + i) (v := (t ((tkF t n p) + i))) rfl rfl (Or.inl rfl) q4 rfl (by omega) (by decide) (rfl) ?_
                refine wn_ld (pc' := 63) (q := 1) (kin := 2) (v := .retAddr q) rfl (fun _ _ _ => rfl) rfl rfl ?_
                refine wn_ld (pc' := 64) (q := 3) (kin := 0) (v := .int (nI (i))) rfl (fun _ _ _ => rfl) rfl rfl ?_
                refine wn_schr (pc' := 67) (j := i) rfl rfl (by omega) (Nat.le_of_ble_eq_true rfl) (by omega) (by omega) ?_
                refine wn_icmp (t := 74) (f := 70) rfl rfl rfl (fun c11 => ?_) (fun c11 => ?_)
                · have c11 : ¬ ((t ((tkF t n p) + i))) = (((lit q).getD i 0)) := c11
                  refine wn_ic (pc' := 75) (w := nI 0) rfl rfl (by decide) ?_
                  refine wn_st (pc' := 76) (q := 2) (kin := 0) (lv' := [(0, .ref (71)), (1, .retAddr q), (2, .int (nI (0))), (3, .int (nI (i)))]) rfl (fun _ _ _ => rfl) rfl (Nat.le_of_ble_eq_true rfl) rfl ?_
                  refine wn_incN (n := 1) (pc' := 79) (lv' := [(0, .ref (71)), (1, .retAddr q), (2, .int (nI (0))), (3, .int (nI (i + 1)))]) rfl rfl rfl (Nat.le_of_ble_eq_true rfl) rfl (by decide) ?_
                  refine wn_jp (pc' := 39) rfl rfl ?_
                  refine wn_weak (lv' := [(0, .ref (71)), (1, .retAddr q), (2, .int (nI (0))), (3, .int (nI (i + 1)))]) (by simp) ?_
                  have z9 := ih_lp8 (i + 1) (by omega) (by omega)
                  rw [show (bI (∀ x, x < (i + 1) → t (tkF t n p + x) = (lit q).getD x 0)) = (nI (0)) from (by exact (bI_f0 (fun g => c11 (g i (by omega)))).symm)] at z9
                  exact z9
                · have c11 : ((t ((tkF t n p) + i))) = (((lit q).getD i 0)) := c11
                  refine wn_ic (pc' := 71) (w := nI 1) rfl rfl (by decide) ?_
                  refine wn_jp (pc' := 75) rfl rfl ?_
                  refine wn_st (pc' := 76) (q := 2) (kin := 0) (lv' := [(0, .ref (71)), (1, .retAddr q), (2, .int (nI (1))), (3, .int (nI (i)))]) rfl (fun _ _ _ => rfl) rfl (Nat.le_of_ble_eq_true rfl) rfl ?_
                  refine wn_incN (n := 1) (pc' := 79) (lv' := [(0, .ref (71)), (1, .retAddr q), (2, .int (nI (1))), (3, .int (nI (i + 1)))]) rfl rfl rfl (Nat.le_of_ble_eq_true rfl) rfl (by decide) ?_
                  refine wn_jp (pc' := 39) rfl rfl ?_
                  refine wn_weak (lv' := [(0, .ref (71)), (1, .retAddr q), (2, .int (nI (1))), (3, .int (nI (i + 1)))]) (by simp) ?_
                  have z9 := ih_lp8 (i + 1) (by omega) (by omega)
                  rw [show (bI (∀ x, x < (i + 1) → t (tkF t n p + x) = (lit q).getD x 0)) = (nI (1)) from (by exact (bI_t1 (fun x hx => by by_cases e : x = i; (subst e; exact c11); exact c10 x (by omega))).symm)] at z9
                  exact z9
        refine wn_weak (lv' := [(0, .ref (71)), (1, .retAddr q), (2, .int (nI (1))), (3, .int (nI (0)))]) (by simp) ?_
        have z9 := lp8 (((lit q).length) + 1) 0 (by omega) (by omega)
        rw [show (bI (∀ x, x < 0 → t (tkF t n p + x) = (lit q).getD x 0)) = (nI (1)) from (by exact (bI_t1 (fun x hx => absurd hx (by omega))).symm)] at z9
        exact z9

theorem m_isB (d : Nat) (h : aH) (th tl sz at9 fr tk vl fk fp il : Int32) (up lo : Int64) (hf : ¬ fk = 0) (q0 : isO h 71 9 (MoF th tl sz at9 fr tk vl fk fp il up lo)) (q : Nat) (hq : q < 20) : Rn (d + 2) 161 [.ref (71), .retAddr q] h (some (.int (nI 0))) h 0 0 := by
  have hll := lit_le q hq
  refine Rn_of (by decide) (Nat.le_of_ble_eq_true rfl) ?_
  show Wn _ _ 0 [(0, .ref (71)), (1, .retAddr q)] [] _ _
  refine wn_ld (pc' := 1) (q := 0) (kin := 2) (v := .ref (71)) rfl (fun _ _ _ => rfl) rfl rfl ?_
  refine wn_virI (pc' := 4) rfl rfl (by decide) rfl rfl q0 (Nat.le_of_ble_eq_true rfl) (m_goodB _ _ _ _ _ _ _ _ _ _ _ _ _ _ hf q0) ?_
  refine wn_ifN (t := 35) (f := 7) rfl rfl rfl (by omega) (fun c1 => ?_) (fun c1 => ?_)
  · have c1 : 0 = 0 := c1
    refine wn_ic (pc' := 36) (w := nI 0) rfl rfl (by decide) ?_
    refine wn_st (pc' := 37) (q := 2) (kin := 0) (lv' := [(0, .ref (71)), (1, .retAddr q), (2, .int (nI (0)))]) rfl (fun _ _ _ => rfl) rfl (Nat.le_of_ble_eq_true rfl) rfl ?_
    refine wn_ic (pc' := 38) (w := nI 0) rfl rfl (by decide) ?_
    refine wn_st (pc' := 39) (q := 3) (kin := 0) (lv' := [(0, .ref (71)), (1, .retAddr q), (2, .int (nI (0))), (3, .int (nI (0)))]) rfl (fun _ _ _ => rfl) rfl (Nat.le_of_ble_eq_true rfl) rfl ?_
    refine wn_ld (pc' := 40) (q := 3) (kin := 0) (v := .int (nI (0))) rfl (fun _ _ _ => rfl) rfl rfl ?_
    refine wn_ld (pc' := 41) (q := 1) (kin := 2) (v := .retAddr q) rfl (fun _ _ _ => rfl) rfl rfl ?_
    refine wn_slen (pc' := 44) rfl rfl (by omega) (Nat.le_of_ble_eq_true rfl) ?_
    refine wn_icmpN (t := 82) (f := 47) rfl rfl rfl (by omega) (by omega) (fun c2 => ?_) (fun c2 => ?_)
    · have c2 : ((lit q).length) ≤ 0 := c2
      refine wn_ld (pc' := 83) (q := 2) (kin := 0) (v := .int (nI (0))) rfl (fun _ _ _ => rfl) rfl rfl ?_
      exact wn_iret rfl rfl (by decide) ⟨rfl, rfl⟩
    · have c2 : 0 < ((lit q).length) := c2
      refine wn_ld (pc' := 48) (q := 2) (kin := 0) (v := .int (nI (0))) rfl (fun _ _ _ => rfl) rfl rfl ?_
      refine wn_ifN (t := 82) (f := 51) rfl rfl rfl (by omega) (fun c3 => ?_) (fun c3 => ?_)
      · have c3 : 0 = 0 := c3
        refine wn_ld (pc' := 83) (q := 2) (kin := 0) (v := .int (nI (0))) rfl (fun _ _ _ => rfl) rfl rfl ?_
        exact wn_iret rfl rfl (by decide) ⟨rfl, rfl⟩
      · have c3 : ¬ 0 = 0 := c3
        exact absurd c3 (by decide)
  · have c1 : ¬ 0 = 0 := c1
    exact absurd c1 (by decide)

