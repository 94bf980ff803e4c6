/-! THE CLASS'S LAWS GROW; AN EMPTY LAND -/
theorem x_addPart (d : Nat) (h : aH) (q np : Nat) (x4 : Int32) (pj pk pv : Nat → Int32) (hb : np < 240) (o : isO h q 1 [.int x4, .ref (q + 1), .ref (q + 2), .ref (q + 3), .ref (q + 4), .ref (q + 5), .ref (q + 6), .ref (q + 7), .int (nI np), .ref (q + 8), .ref (q + 9), .ref (q + 10)]) (i8 : isI h (q + 8) 240 pj) (i9 : isI h (q + 9) 240 pk) (i10 : isI h (q + 10) 240 pv) (a b c : Int32) : Sp (Rn (d + 1)) 14 [.ref (q), .int (a), .int (b), .int (c)] h (fun r9 h9 => r9 = none ∧ Fr [q, q + 8, q + 9, q + 10] h h9 ∧ isO h9 q 1 [.int x4, .ref (q + 1), .ref (q + 2), .ref (q + 3), .ref (q + 4), .ref (q + 5), .ref (q + 6), .ref (q + 7), .int (nI (np + 1)), .ref (q + 8), .ref (q + 9), .ref (q + 10)] ∧ isI h9 (q + 8) 240 (upd pj np a) ∧ isI h9 (q + 9) 240 (upd pk np b) ∧ isI h9 (q + 10) 240 (upd pv np c)) := by
  refine Sp_of (by decide) (Nat.le_of_ble_eq_true rfl) ?_
  show Wn _ _ 0 [(0, .ref (q)), (1, .int (a)), (2, .int (b)), (3, .int (c))] [] _ _
  refine wn_ld (pc' := 1) (q := 0) (kin := 2) (v := .ref (q)) rfl (fun _ _ _ => rfl) rfl rfl ?_
  refine wn_get (pc' := 4) (v := .int (nI (np))) rfl rfl o rfl ?_
  refine wn_sp (pc' := 7) (w := nI 240) rfl rfl (by decide) ?_
  refine wn_icmpN (t := 50) (f := 10) rfl rfl rfl (by omega) (by omega) (fun c1 => ?_) (fun c1 => ?_)
  · have c1 : 240 ≤ np := c1
    exfalso; omega
  · have c1 : np < 240 := c1
    refine wn_ld (pc' := 11) (q := 0) (kin := 2) (v := .ref (q)) rfl (fun _ _ _ => rfl) rfl rfl ?_
    refine wn_get (pc' := 14) (v := .ref (q + 8)) rfl rfl o rfl ?_
    refine wn_ld (pc' := 15) (q := 0) (kin := 2) (v := .ref (q)) rfl (fun _ _ _ => rfl) rfl rfl ?_
    refine wn_get (pc' := 18) (v := .int (nI (np))) rfl rfl o rfl ?_
    refine wn_ld (pc' := 19) (q := 1) (kin := 0) (v := .int (a)) rfl (fun _ _ _ => rfl) rfl rfl ?_
    refine wn_iast (pc' := 20) (j := np) rfl rfl i8 rfl (by omega) (by decide) ?_
    refine wn_ld (pc' := 21) (q := 0) (kin := 2) (v := .ref (q)) rfl (fun _ _ _ => rfl) rfl rfl ?_
    refine wn_get (pc' := 24) (v := .ref (q + 9)) rfl rfl (gs_ne (by omega) o) rfl ?_
    refine wn_ld (pc' := 25) (q := 0) (kin := 2) (v := .ref (q)) rfl (fun _ _ _ => rfl) rfl rfl ?_
    refine wn_get (pc' := 28) (v := .int (nI (np))) rfl rfl (gs_ne (by omega) o) rfl ?_
    refine wn_ld (pc' := 29) (q := 2) (kin := 0) (v := .int (b)) rfl (fun _ _ _ => rfl) rfl rfl ?_
    refine wn_iast (pc' := 30) (j := np) rfl rfl (gs_ne (by omega) i9) rfl (by omega) (by decide) ?_
    refine wn_ld (pc' := 31) (q := 0) (kin := 2) (v := .ref (q)) rfl (fun _ _ _ => rfl) rfl rfl ?_
    refine wn_get (pc' := 34) (v := .ref (q + 10)) rfl rfl (gs_ne (by omega) (gs_ne (by omega) o)) rfl ?_
    refine wn_ld (pc' := 35) (q := 0) (kin := 2) (v := .ref (q)) rfl (fun _ _ _ => rfl) rfl rfl ?_
    refine wn_get (pc' := 38) (v := .int (nI (np))) rfl rfl (gs_ne (by omega) (gs_ne (by omega) o)) rfl ?_
    refine wn_ld (pc' := 39) (q := 3) (kin := 0) (v := .int (c)) rfl (fun _ _ _ => rfl) rfl rfl ?_
    refine wn_iast (pc' := 40) (j := np) rfl rfl (gs_ne (by omega) (gs_ne (by omega) i10)) rfl (by omega) (by decide) ?_
    refine wn_ld (pc' := 41) (q := 0) (kin := 2) (v := .ref (q)) rfl (fun _ _ _ => rfl) rfl rfl ?_
    refine wn_pu (pc' := 42) (st' := [.ref (q), .ref (q)]) rfl (fun _ _ _ => rfl) rfl rfl ?_
    refine wn_get (pc' := 45) (v := .int (nI (np))) rfl rfl (gs_ne (by omega) (gs_ne (by omega) (gs_ne (by omega) o))) rfl ?_
    refine wn_ic (pc' := 46) (w := nI 1) rfl rfl (by decide) ?_
    refine wn_addN (pc' := 47) rfl rfl ?_
    refine wn_put (pc' := 50) rfl rfl (gs_ne (by omega) (gs_ne (by omega) (gs_ne (by omega) o))) (Nat.le_of_ble_eq_true rfl) ⟨rfl, rfl⟩ ?_
    show Wn _ _ 50 _ [] ((((h.set (q + 8) (.inl (0, 240, .inl (upd pj (np) ((a)))))).set (q + 9) (.inl (0, 240, .inl (upd pk (np) ((b)))))).set (q + 10) (.inl (0, 240, .inl (upd pv (np) ((c)))))).set q (.inr (1, [.int (x4), .ref (q + 1), .ref (q + 2), .ref (q + 3), .ref (q + 4), .ref (q + 5), .ref (q + 6), .ref (q + 7), .int (nI (np + 1)), .ref (q + 8), .ref (q + 9), .ref (q + 10)]))) _
    exact wn_vret rfl rfl ⟨rfl, (Fr.st (Fr.st (Fr.st (Fr.st (Fr.rfl' [q, q + 8, q + 9, q + 10] h) (by simp)) (by simp)) (by simp)) (by simp)), (gs_self (gs_ne (by omega) (gs_ne (by omega) (gs_ne (by omega) o)))), (gs_ne (by omega) (gs_ne (by omega) (gs_ne (by omega) (gs_self i8)))), (gs_ne (by omega) (gs_ne (by omega) (gs_self (gs_ne (by omega) i9)))), (gs_ne (by omega) (gs_self (gs_ne (by omega) (gs_ne (by omega) i10))))⟩

theorem x_addLaw (d : Nat) (h : aH) (q nl : Nat) (x5 : Int32) (it fi se sg ls rs rp : Nat → Int32) (hb : nl < 20) (o : isO h q 1 [.int (nI nl), .ref (q + 1), .ref (q + 2), .ref (q + 3), .ref (q + 4), .ref (q + 5), .ref (q + 6), .ref (q + 7), .int x5, .ref (q + 8), .ref (q + 9), .ref (q + 10)]) (i1 : isI h (q + 1) 20 it) (i2 : isI h (q + 2) 20 fi) (i3 : isI h (q + 3) 20 se) (i4 : isI h (q + 4) 20 sg) (i5 : isI h (q + 5) 20 ls) (i6 : isI h (q + 6) 20 rs) (i7 : isI h (q + 7) 20 rp) (a1 a2 a3 a4 a5 a6 : Int32) : Sp (Rn (d + 1)) 15 [.ref (q), .int (a1), .int (a2), .int (a3), .int (a4), .int (a5), .int (a6)] h (fun r9 h9 => r9 = none ∧ Fr [q, q + 1, q + 2, q + 3, q + 4, q + 5, q + 6, q + 7] h h9 ∧ isO h9 q 1 [.int (nI (nl + 1)), .ref (q + 1), .ref (q + 2), .ref (q + 3), .ref (q + 4), .ref (q + 5), .ref (q + 6), .ref (q + 7), .int x5, .ref (q + 8), .ref (q + 9), .ref (q + 10)] ∧ isI h9 (q + 1) 20 (upd it nl a1) ∧ isI h9 (q + 2) 20 (upd fi nl a2) ∧ isI h9 (q + 3) 20 (upd se nl a3) ∧ isI h9 (q + 4) 20 (upd sg nl a4) ∧ isI h9 (q + 5) 20 (upd ls nl a5) ∧ isI h9 (q + 6) 20 (upd rs nl a6) ∧ isI h9 (q + 7) 20 (upd rp nl x5)) := by
  refine Sp_of (by decide) (Nat.le_of_ble_eq_true rfl) ?_
  show Wn _ _ 0 [(0, .ref (q)), (1, .int (a1)), (2, .int (a2)), (3, .int (a3)), (4, .int (a4)), (5, .int (a5)), (6, .int (a6))] [] _ _
  refine wn_ld (pc' := 1) (q := 0) (kin := 2) (v := .ref (q)) rfl (fun _ _ _ => rfl) rfl rfl ?_
  refine wn_get (pc' := 4) (v := .int (nI (nl))) rfl rfl o rfl ?_
  refine wn_bp (pc' := 6) (w := nI 20) rfl rfl (by decide) ?_
  refine wn_icmpN (t := 95) (f := 9) rfl rfl rfl (by omega) (by omega) (fun c1 => ?_) (fun c1 => ?_)
  · have c1 : 20 ≤ nl := c1
    exfalso; omega
  · have c1 : nl < 20 := c1
    refine wn_ld (pc' := 10) (q := 0) (kin := 2) (v := .ref (q)) rfl (fun _ _ _ => rfl) rfl rfl ?_
    refine wn_get (pc' := 13) (v := .ref (q + 1)) rfl rfl o rfl ?_
    refine wn_ld (pc' := 14) (q := 0) (kin := 2) (v := .ref (q)) rfl (fun _ _ _ => rfl) rfl rfl ?_
    refine wn_get (pc' := 17) (v := .int (nI (nl))) rfl rfl o rfl ?_
    refine wn_ld (pc' := 18) (q := 1) (kin := 0) (v := .int (a1)) rfl (fun _ _ _ => rfl) rfl rfl ?_
    refine wn_iast (pc' := 19) (j := nl) rfl rfl i1 rfl (by omega) (by decide) ?_
    refine wn_ld (pc' := 20) (q := 0) (kin := 2) (v := .ref (q)) rfl (fun _ _ _ => rfl) rfl rfl ?_
    refine wn_get (pc' := 23) (v := .ref (q + 2)) rfl rfl (gs_ne (by omega) o) rfl ?_
    refine wn_ld (pc' := 24) (q := 0) (kin := 2) (v := .ref (q)) rfl (fun _ _ _ => rfl) rfl rfl ?_
    refine wn_get (pc' := 27) (v := .int (nI (nl))) rfl rfl (gs_ne (by omega) o) rfl ?_
    refine wn_ld (pc' := 28) (q := 2) (kin := 0) (v := .int (a2)) rfl (fun _ _ _ => rfl) rfl rfl ?_
    refine wn_iast (pc' := 29) (j := nl) rfl rfl (gs_ne (by omega) i2) rfl (by omega) (by decide) ?_
    refine wn_ld (pc' := 30) (q := 0) (kin := 2) (v := .ref (q)) rfl (fun _ _ _ => rfl) rfl rfl ?_
    refine wn_get (pc' := 33) (v := .ref (q + 3)) rfl rfl (gs_ne (by omega) (gs_ne (by omega) o)) rfl ?_
    refine wn_ld (pc' := 34) (q := 0) (kin := 2) (v := .ref (q)) rfl (fun _ _ _ => rfl) rfl rfl ?_
    refine wn_get (pc' := 37) (v := .int (nI (nl))) rfl rfl (gs_ne (by omega) (gs_ne (by omega) o)) rfl ?_
    refine wn_ld (pc' := 38) (q := 3) (kin := 0) (v := .int (a3)) rfl (fun _ _ _ => rfl) rfl rfl ?_
    refine wn_iast (pc' := 39) (j := nl) rfl rfl (gs_ne (by omega) (gs_ne (by omega) i3)) rfl (by omega) (by decide) ?_
    refine wn_ld (pc' := 40) (q := 0) (kin := 2) (v := .ref (q)) rfl (fun _ _ _ => rfl) rfl rfl ?_
    refine wn_get (pc' := 43) (v := .ref (q + 4)) rfl rfl (gs_ne (by omega) (gs_ne (by omega) (gs_ne (by omega) o))) rfl ?_
    refine wn_ld (pc' := 44) (q := 0) (kin := 2) (v := .ref (q)) rfl (fun _ _ _ => rfl) rfl rfl ?_
    refine wn_get (pc' := 47) (v := .int (nI (nl))) rfl rfl (gs_ne (by omega) (gs_ne (by omega) (gs_ne (by omega) o))) rfl ?_
    refine wn_ld (pc' := 49) (q := 4) (kin := 0) (v := .int (a4)) rfl (fun _ _ _ => rfl) rfl rfl ?_
    refine wn_iast (pc' := 50) (j := nl) rfl rfl (gs_ne (by omega) (gs_ne (by omega) (gs_ne (by omega) i4))) rfl (by omega) (by decide) ?_
    refine wn_ld (pc' := 51) (q := 0) (kin := 2) (v := .ref (q)) rfl (fun _ _ _ => rfl) rfl rfl ?_
    refine wn_get (pc' := 54) (v := .ref (q + 5)) rfl rfl (gs_ne (by omega) (gs_ne (by omega) (gs_ne (by omega) (gs_ne (by omega) o)))) rfl ?_
    refine wn_ld (pc' := 55) (q := 0) (kin := 2) (v := .ref (q)) rfl (fun _ _ _ => rfl) rfl rfl ?_
    refine wn_get (pc' := 58) (v := .int (nI (nl))) rfl rfl (gs_ne (by omega) (gs_ne (by omega) (gs_ne (by omega) (gs_ne (by omega) o)))) rfl ?_
    refine wn_ld (pc' := 60) (q := 5) (kin := 0) (v := .int (a5)) rfl (fun _ _ _ => rfl) rfl rfl ?_
    refine wn_iast (pc' := 61) (j := nl) rfl rfl (gs_ne (by omega) (gs_ne (by omega) (gs_ne (by omega) (gs_ne (by omega) i5)))) rfl (by omega) (by decide) ?_
    refine wn_ld (pc' := 62) (q := 0) (kin := 2) (v := .ref (q)) rfl (fun _ _ _ => rfl) rfl rfl ?_
    refine wn_get (pc' := 65) (v := .ref (q + 6)) rfl rfl (gs_ne (by omega) (gs_ne (by omega) (gs_ne (by omega) (gs_ne (by omega) (gs_ne (by omega) o))))) rfl ?_
    refine wn_ld (pc' := 66) (q := 0) (kin := 2) (v := .ref (q)) rfl (fun _ _ _ => rfl) rfl rfl ?_
    refine wn_get (pc' := 69) (v := .int (nI (nl))) rfl rfl (gs_ne (by omega) (gs_ne (by omega) (gs_ne (by omega) (gs_ne (by omega) (gs_ne (by omega) o))))) rfl ?_
    refine wn_ld (pc' := 71) (q := 6) (kin := 0) (v := .int (a6)) rfl (fun _ _ _ => rfl) rfl rfl ?_
    refine wn_iast (pc' := 72) (j := nl) rfl rfl (gs_ne (by omega) (gs_ne (by omega) (gs_ne (by omega) (gs_ne (by omega) (gs_ne (by omega) i6))))) rfl (by omega) (by decide) ?_
    refine wn_ld (pc' := 73) (q := 0) (kin := 2) (v := .ref (q)) rfl (fun _ _ _ => rfl) rfl rfl ?_
    refine wn_get (pc' := 76) (v := .ref (q + 7)) rfl rfl (gs_ne (by omega) (gs_ne (by omega) (gs_ne (by omega) (gs_ne (by omega) (gs_ne (by omega) (gs_ne (by omega) o)))))) rfl ?_
    refine wn_ld (pc' := 77) (q := 0) (kin := 2) (v := .ref (q)) rfl (fun _ _ _ => rfl) rfl rfl ?_
    refine wn_get (pc' := 80) (v := .int (nI (nl))) rfl rfl (gs_ne (by omega) (gs_ne (by omega) (gs_ne (by omega) (gs_ne (by omega) (gs_ne (by omega) (gs_ne (by omega) o)))))) rfl ?_
    refine wn_ld (pc' := 81) (q := 0) (kin := 2) (v := .ref (q)) rfl (fun _ _ _ => rfl) rfl rfl ?_
    refine wn_get (pc' := 84) (v := .int (x5)) rfl rfl (gs_ne (by omega) (gs_ne (by omega) (gs_ne (by omega) (gs_ne (by omega) (gs_ne (by omega) (gs_ne (by omega) o)))))) rfl ?_
    refine wn_iast (pc' := 85) (j := nl) rfl rfl (gs_ne (by omega) (gs_ne (by omega) (gs_ne (by omega) (gs_ne (by omega) (gs_ne (by omega) (gs_ne (by omega) i7)))))) rfl (by omega) (by decide) ?_
    refine wn_ld (pc' := 86) (q := 0) (kin := 2) (v := .ref (q)) rfl (fun _ _ _ => rfl) rfl rfl ?_
    refine wn_pu (pc' := 87) (st' := [.ref (q), .ref (q)]) rfl (fun _ _ _ => rfl) rfl rfl ?_
    refine wn_get (pc' := 90) (v := .int (nI (nl))) rfl rfl (gs_ne (by omega) (gs_ne (by omega) (gs_ne (by omega) (gs_ne (by omega) (gs_ne (by omega) (gs_ne (by omega) (gs_ne (by omega) o))))))) rfl ?_
    refine wn_ic (pc' := 91) (w := nI 1) rfl rfl (by decide) ?_
    refine wn_addN (pc' := 92) rfl rfl ?_
    refine wn_put (pc' := 95) rfl rfl (gs_ne (by omega) (gs_ne (by omega) (gs_ne (by omega) (gs_ne (by omega) (gs_ne (by omega) (gs_ne (by omega) (gs_ne (by omega) o))))))) (Nat.le_of_ble_eq_true rfl) ⟨rfl, rfl⟩ ?_
    show Wn _ _ 95 _ [] ((((((((h.set (q + 1) (.inl (0, 20, .inl (upd it (nl) ((a1)))))).set (q + 2) (.inl (0, 20, .inl (upd fi (nl) ((a2)))))).set (q + 3) (.inl (0, 20, .inl (upd se (nl) ((a3)))))).set (q + 4) (.inl (0, 20, .inl (upd sg (nl) ((a4)))))).set (q + 5) (.inl (0, 20, .inl (upd ls (nl) ((a5)))))).set (q + 6) (.inl (0, 20, .inl (upd rs (nl) ((a6)))))).set (q + 7) (.inl (0, 20, .inl (upd rp (nl) ((x5)))))).set q (.inr (1, [.int (nI (nl + 1)), .ref (q + 1), .ref (q + 2), .ref (q + 3), .ref (q + 4), .ref (q + 5), .ref (q + 6), .ref (q + 7), .int (x5), .ref (q + 8), .ref (q + 9), .ref (q + 10)]))) _
    exact wn_vret rfl rfl ⟨rfl, (Fr.st (Fr.st (Fr.st (Fr.st (Fr.st (Fr.st (Fr.st (Fr.st (Fr.rfl' [q, q + 1, q + 2, q + 3, q + 4, q + 5, q + 6, q + 7] h) (by simp)) (by simp)) (by simp)) (by simp)) (by simp)) (by simp)) (by simp)) (by simp)), (gs_self (gs_ne (by omega) (gs_ne (by omega) (gs_ne (by omega) (gs_ne (by omega) (gs_ne (by omega) (gs_ne (by omega) (gs_ne (by omega) o)))))))), (gs_ne (by omega) (gs_ne (by omega) (gs_ne (by omega) (gs_ne (by omega) (gs_ne (by omega) (gs_ne (by omega) (gs_ne (by omega) (gs_self i1)))))))), (gs_ne (by omega) (gs_ne (by omega) (gs_ne (by omega) (gs_ne (by omega) (gs_ne (by omega) (gs_ne (by omega) (gs_self (gs_ne (by omega) i2)))))))), (gs_ne (by omega) (gs_ne (by omega) (gs_ne (by omega) (gs_ne (by omega) (gs_ne (by omega) (gs_self (gs_ne (by omega) (gs_ne (by omega) i3)))))))), (gs_ne (by omega) (gs_ne (by omega) (gs_ne (by omega) (gs_ne (by omega) (gs_self (gs_ne (by omega) (gs_ne (by omega) (gs_ne (by omega) i4)))))))), (gs_ne (by omega) (gs_ne (by omega) (gs_ne (by omega) (gs_self (gs_ne (by omega) (gs_ne (by omega) (gs_ne (by omega) (gs_ne (by omega) i5)))))))), (gs_ne (by omega) (gs_ne (by omega) (gs_self (gs_ne (by omega) (gs_ne (by omega) (gs_ne (by omega) (gs_ne (by omega) (gs_ne (by omega) i6)))))))), (gs_ne (by omega) (gs_self (gs_ne (by omega) (gs_ne (by omega) (gs_ne (by omega) (gs_ne (by omega) (gs_ne (by omega) (gs_ne (by omega) i7))))))))⟩

theorem x_emptyL (d : Nat) (h : aH) (q : Nat) (x4 x5 : Int32) (o : isO h q 1 [.int x4, .ref (q + 1), .ref (q + 2), .ref (q + 3), .ref (q + 4), .ref (q + 5), .ref (q + 6), .ref (q + 7), .int x5, .ref (q + 8), .ref (q + 9), .ref (q + 10)]) : Sp (Rn (d + 1)) 12 [.ref (q)] h (fun r9 h9 => r9 = none ∧ Fr [q] h h9 ∧ isO h9 q 1 [.int (nI 0), .ref (q + 1), .ref (q + 2), .ref (q + 3), .ref (q + 4), .ref (q + 5), .ref (q + 6), .ref (q + 7), .int (nI 0), .ref (q + 8), .ref (q + 9), .ref (q + 10)]) := by
  refine Sp_of (by decide) (Nat.le_of_ble_eq_true rfl) ?_
  show Wn _ _ 0 [(0, .ref (q))] [] _ _
  refine wn_ld (pc' := 1) (q := 0) (kin := 2) (v := .ref (q)) rfl (fun _ _ _ => rfl) rfl rfl ?_
  refine wn_ic (pc' := 2) (w := nI 0) rfl rfl (by decide) ?_
  refine wn_put (pc' := 5) rfl rfl o (Nat.le_of_ble_eq_true rfl) ⟨rfl, rfl⟩ ?_
  show Wn _ _ 5 _ [] (h.set q (.inr (1, [.int (nI (0)), .ref (q + 1), .ref (q + 2), .ref (q + 3), .ref (q + 4), .ref (q + 5), .ref (q + 6), .ref (q + 7), .int (x5), .ref (q + 8), .ref (q + 9), .ref (q + 10)]))) _
  refine wn_ld (pc' := 6) (q := 0) (kin := 2) (v := .ref (q)) rfl (fun _ _ _ => rfl) rfl rfl ?_
  refine wn_ic (pc' := 7) (w := nI 0) rfl rfl (by decide) ?_
  refine wn_put (pc' := 10) rfl rfl (gs_self o) (Nat.le_of_ble_eq_true rfl) ⟨rfl, rfl⟩ ?_
  show Wn _ _ 10 _ [] ((h.set q (.inr (1, [.int (nI (0)), .ref (q + 1), .ref (q + 2), .ref (q + 3), .ref (q + 4), .ref (q + 5), .ref (q + 6), .ref (q + 7), .int (x5), .ref (q + 8), .ref (q + 9), .ref (q + 10)]))).set q (.inr (1, [.int (nI (0)), .ref (q + 1), .ref (q + 2), .ref (q + 3), .ref (q + 4), .ref (q + 5), .ref (q + 6), .ref (q + 7), .int (nI (0)), .ref (q + 8), .ref (q + 9), .ref (q + 10)]))) _
  exact wn_vret rfl rfl ⟨rfl, (Fr.st (Fr.st (Fr.rfl' [q] h) (by simp)) (by simp)), (gs_self (gs_self o))⟩

section LWG
variable {w : Nat → Int32}
/-- the class's join for the reference's -/
def jnC (j : Nat) : Nat := if j = 4 then 0 else j
theorem jnC_i {j : Nat} (h : j ≤ 4) : nI (jnC j) = (if nI j = 4 then 0 else nI j) := by
  rcases (show j = 0 ∨ j = 1 ∨ j = 2 ∨ j = 3 ∨ j = 4 by omega) with rfl | rfl | rfl | rfl | rfl <;> decide
theorem gP_prt {pj pk pv : Nat → Int32} {j k v : Nat} (hb : npW w < 240) (hj : j ≤ 4) (H : gPW w pj pk pv) : gPW (prtW w j k v) (upd pj (npW w) (nI (jnC j))) (upd pk (npW w) (nI k)) (upd pv (npW w) (nI v)) := fun x hx => by
  rw [prt_n hb] at hx
  by_cases c : x = npW w
  · subst c; rw [pk_us, pk_us, pk_us, prt_a, prt_b, prt_c]; exact ⟨jnC_i hj, rfl, rfl⟩
  · rw [pk_un c, pk_un c, pk_un c, prt_o (by omega) (by omega), prt_o (by omega) (by omega), prt_o (by omega) (by omega)]; exact H x (by omega)
theorem prt_nt {j k v : Nat} : ntW (prtW w j k v) = ntW w := congrArg Int32.toNatClampNeg (prt_o (by omega) (by omega))
theorem prt_va {j k v i : Nat} (h : i < 10) : vaW (prtW w j k v) i = vaW w i := congrArg Int32.toNatClampNeg (prt_o (by omega) (by omega))
theorem x_addPart0 (d : Nat) (h : aH) (lr : Nat) (w : Nat → Int32) (hJ : WJ w) (j k v : Nat) (hb : npW w < 240) (hj : j ≤ 4) (R1 : LandR h lr w) (R2 : LawsR h (lr + 9) w) : Sp (Rn (d + 1)) 14 [.ref (lr + 9), .int (nI (jnC j)), .int (nI k), .int (nI v)] h (fun r9 h9 => r9 = none ∧ FrQ lr h h9 ∧ LandR h9 lr (prtW w j k v) ∧ LawsR h9 (lr + 9) (prtW w j k v)) := by
  obtain ⟨sec, it, fi, se, sg, lst, rs, rp, pj, pk, pv, k0, k1, k2, k3, k4, k5, k6, k7, k8, k9, k10, k11, k12, k13⟩ := id R2
  obtain ⟨⟨e1, e2⟩, ⟨e3, e4⟩, ⟨e5, e6⟩⟩ := Wf_n hJ.wf
  obtain ⟨⟨e7, e8⟩, ⟨e9, e10⟩⟩ := Wf_m hJ.wf
  rw [e9] at k1
  obtain ⟨r1, h1, x1, rfl, fr, o, i8, i9, i10⟩ := x_addPart d h (lr + 9) (npW w) (w 4) pj pk pv hb k1 k9 k10 k11 (nI (jnC j)) (nI k) (nI v)
  refine ⟨_, h1, x1, rfl, ⟨fr.1, fun x hx => fr.2 x (by simp only [List.mem_cons, List.not_mem_nil, or_false]; omega)⟩, (R1.kp (fun x p1 p2 => fr.2 x (by simp only [List.mem_cons, List.not_mem_nil, or_false]; omega))).gr e2 e4 e6 (fun p hp => prt_o (by omega) (by omega)), sec, it, fi, se, sg, lst, rs, rp, _, _, _, g_L e8 (fun p h1 h2 => prt_o (by omega) (by omega)) (congrArg Int32.toNatClampNeg (prt_o (by omega) (by omega))) (by rw [prt_nt]; omega) (fun i hi => prt_va (by omega)) (by rw [prt_n hb]; omega) k0, ?_, k2.kp (fr.2 _ (by simp only [List.mem_cons, List.not_mem_nil, or_false]; omega)), k3.kp (fr.2 _ (by simp only [List.mem_cons, List.not_mem_nil, or_false]; omega)), k4.kp (fr.2 _ (by simp only [List.mem_cons, List.not_mem_nil, or_false]; omega)), k5.kp (fr.2 _ (by simp only [List.mem_cons, List.not_mem_nil, or_false]; omega)), k6.kp (fr.2 _ (by simp only [List.mem_cons, List.not_mem_nil, or_false]; omega)), k7.kp (fr.2 _ (by simp only [List.mem_cons, List.not_mem_nil, or_false]; omega)), k8.kp (fr.2 _ (by simp only [List.mem_cons, List.not_mem_nil, or_false]; omega)), i8, i9, i10, fun l hl => ?_, gP_prt hb hj k13⟩
  · rw [prt_o (by omega) (by omega), prt_5]; exact o
  · rw [show nlW (prtW w j k v) = nlW w from congrArg Int32.toNatClampNeg (prt_o (by omega) (by omega))] at hl
    have eb : lwB (prtW w j k v) l = lwB w l := congrArg Int32.toNatClampNeg (prt_o (by omega) (by omega))
    have ee : lwE (prtW w j k v) l = lwE w l := by unfold lwE; rw [eb, prt_o (by omega) (by omega)]
    rw [eb, ee, prt_o (by omega) (by omega), prt_o (by omega) (by omega), prt_o (by omega) (by omega), prt_o (by omega) (by omega)]
    exact k12 l hl
theorem x_addPartB (d : Nat) (h : aH) (lr : Nat) (w : Nat → Int32) (hJ : WJ w) (hb : npW w < 240) (R1 : LandR h lr w) (R2 : LawsR h (lr + 9) w) (a b c : Int32) : Sp (Rn (d + 1)) 14 [.ref (lr + 9), .int a, .int b, .int c] h (fun r9 h9 => r9 = none ∧ FrQ lr h h9 ∧ LandS h9 lr) := by
  obtain ⟨sz, rf, rt, rv, ag, vr, sd, tl, l0, l1, l2, l3, l4, l5, l6, l7, l8, g1, g2, g3, g4, g5⟩ := id R1
  obtain ⟨sec, it, fi, se, sg, lst, rs, rp, pj, pk, pv, k0, k1, k2, k3, k4, k5, k6, k7, k8, k9, k10, k11, k12, k13⟩ := id R2
  obtain ⟨⟨e7, e8⟩, ⟨e9, e10⟩⟩ := Wf_m hJ.wf
  rw [e9] at k1
  obtain ⟨r1, h1, x1, rfl, fr, o, i8, i9, i10⟩ := x_addPart d h (lr + 9) (npW w) (w 4) pj pk pv hb k1 k9 k10 k11 a b c
  have kk : ∀ x, x < lr + 9 ∨ (lr + 9 < x ∧ x < lr + 17) → h1[x]? = h[x]? := fun x hx => fr.2 x (by simp only [List.mem_cons, List.not_mem_nil, or_false]; omega)
  exact ⟨_, h1, x1, rfl, ⟨fr.1, fun x hx => fr.2 x (by simp only [List.mem_cons, List.not_mem_nil, or_false]; omega)⟩, _, _, _, _, _, _, sz, rf, rt, rv, ag, vr, sd, tl, it, fi, se, sg, lst, rs, rp, _, _, _, l0.kp (kk _ (by omega)), l1.kp (kk _ (by omega)), l2.kp (kk _ (by omega)), l3.kp (kk _ (by omega)), l4.kp (kk _ (by omega)), l5.kp (kk _ (by omega)), l6.kp (kk _ (by omega)), l7.kp (kk _ (by omega)), l8.kp (kk _ (by omega)), g3, o, k2.kp (kk _ (by omega)), k3.kp (kk _ (by omega)), k4.kp (kk _ (by omega)), k5.kp (kk _ (by omega)), k6.kp (kk _ (by omega)), k7.kp (kk _ (by omega)), k8.kp (kk _ (by omega)), i8, i9, i10⟩
theorem x_addLaw0 (d : Nat) (h : aH) (lr : Nat) (w : Nat → Int32) (hJ : WJ w) (i a b s bg q : Nat) (hb : nlW w < 20) (h1 : i < ntW w) (h2 : a < vaW w i) (h3 : b < vaW w i) (h4 : s < 3) (h5 : lwP w bg q) (R1 : LandR h lr w) (R2 : LawsR h (lr + 9) w) : Sp (Rn (d + 1)) 15 [.ref (lr + 9), .int (nI i), .int (nI a), .int (nI b), .int (nI s), .int (nI bg), .int (nI q)] h (fun r9 h9 => r9 = none ∧ FrQ lr h h9 ∧ LandR h9 lr (lawW w i a b s bg) ∧ LawsR h9 (lr + 9) (lawW w i a b s bg)) := by
  obtain ⟨sec, it, fi, se, sg, lst, rs, rp, pj, pk, pv, k0, k1, k2, k3, k4, k5, k6, k7, k8, k9, k10, k11, k12, k13⟩ := id R2
  obtain ⟨⟨e1, e2⟩, ⟨e3, e4⟩, ⟨e5, e6⟩⟩ := Wf_n hJ.wf
  obtain ⟨⟨e7, e8⟩, ⟨e9, e10⟩⟩ := Wf_m hJ.wf
  rw [e7, e9] at k1
  obtain ⟨r1, h1', x1, rfl, fr, o, i1, i2, i3, i4, i5, i6, i7⟩ := x_addLaw d h (lr + 9) (nlW w) (nI (npW w)) it fi se sg lst rs rp hb k1 k2 k3 k4 k5 k6 k7 k8 (nI i) (nI a) (nI b) (nI s) (nI bg) (nI q)
  have HL := law_L (s := s) hJ.1 hb h1 h2 h3 h4 h5 (fun x hx => (wf_vab hJ.wf hx).2) k0
  have E : ∀ p, p ≠ 4 → p < 456 ∨ 576 ≤ p → lawW w i a b s bg p = w p := fun p h h' => law_o h (by omega)
  refine ⟨_, h1', x1, rfl, ⟨fr.1, fun x hx => fr.2 x (by simp only [List.mem_cons, List.not_mem_nil, or_false]; omega)⟩, (R1.kp (fun x p1 p2 => fr.2 x (by simp only [List.mem_cons, List.not_mem_nil, or_false]; omega))).gr e2 e4 e6 (fun p hp => E p (by omega) (by omega)), _, _, _, _, _, _, _, _, pj, pk, pv, HL, ?_, i1, i2, i3, i4, i5, i6, i7, k9.kp (fr.2 _ (by simp only [List.mem_cons, List.not_mem_nil, or_false]; omega)), k10.kp (fr.2 _ (by simp only [List.mem_cons, List.not_mem_nil, or_false]; omega)), k11.kp (fr.2 _ (by simp only [List.mem_cons, List.not_mem_nil, or_false]; omega)), fun l hl => ?_, fun k hk => ?_⟩
  · rw [law_c4, E 5 (by omega) (by omega), e9]; exact o
  · rw [law_n hb] at hl
    obtain ⟨q1, q2, q3, q4, q5⟩ := h5
    obtain ⟨y1, y2, y3, y4, y5, y6⟩ := law_k (w := w) (i := i) (a := a) (b := b) (s := s) (bg := bg)
    by_cases c : l = nlW w
    · subst c
      have eb : lwB (lawW w i a b s bg) (nlW w) = bg := by show (lawW w i a b s bg (460 + 6 * nlW w)).toNatClampNeg = bg; rw [y5]; exact nI_clamp (by omega)
      have ee : lwE (lawW w i a b s bg) (nlW w) = npW w := by
        show lwB (lawW w i a b s bg) (nlW w) + (lawW w i a b s bg (461 + 6 * nlW w)).toNatClampNeg = npW w
        rw [eb, y6, nI_clamp (by omega)]; omega
      rw [pk_us, pk_us, pk_us, pk_us, pk_us, pk_us, pk_us, eb, ee, y1, y2, y3, y4, show secN (nlW w) q sec (nlW w) = q from if_pos rfl]
      exact ⟨rfl, rfl, rfl, rfl, rfl, rfl, rfl⟩
    · have oo : ∀ k, k < 6 → lawW w i a b s bg (456 + k + 6 * l) = w (456 + k + 6 * l) := fun k hk => law_o (by omega) (by omega)
      have eb : lwB (lawW w i a b s bg) l = lwB w l := congrArg Int32.toNatClampNeg (oo 4 (by omega))
      have ee : lwE (lawW w i a b s bg) l = lwE w l := by unfold lwE; rw [eb, show lawW w i a b s bg (461 + 6 * l) = w (461 + 6 * l) from oo 5 (by omega)]
      rw [pk_un c, pk_un c, pk_un c, pk_un c, pk_un c, pk_un c, pk_un c, eb, ee, show secN (nlW w) q sec l = sec l from if_neg c, show lawW w i a b s bg (456 + 6 * l) = w (456 + 6 * l) from oo 0 (by omega), show lawW w i a b s bg (457 + 6 * l) = w (457 + 6 * l) from oo 1 (by omega), show lawW w i a b s bg (458 + 6 * l) = w (458 + 6 * l) from oo 2 (by omega), show lawW w i a b s bg (459 + 6 * l) = w (459 + 6 * l) from oo 3 (by omega)]
      exact k12 l (by omega)
  · rw [np_e (E 5 (by omega) (by omega))] at hk
    rw [E _ (by omega) (by omega), E _ (by omega) (by omega), E _ (by omega) (by omega)]
    exact k13 k hk
/-- a line more, of the LAND's own number -/
theorem LandR.lin {h : aH} {q : Nat} (R1 : LandR h q w) (hJ : WJ w) : LandR (h.set q (.inr (0, [.int (nI (lcW w + 1)), .int (w 1), .int (w 2), .int (w 3), .ref (q + 1), .ref (q + 2), .ref (q + 3), .ref (q + 4), .ref (q + 5), .ref (q + 6), .ref (q + 7), .ref (q + 8), .ref (q + 9)]))) q (linW w) := by
  obtain ⟨sz, rf, rt, rv, ag, vr, sd, tl, l0, l1, l2, l3, l4, l5, l6, l7, l8, g1, g2, g3, g4, g5⟩ := R1
  obtain ⟨⟨e1, e2⟩, ⟨e3, e4⟩, ⟨e5, e6⟩⟩ := Wf_n hJ.wf
  have E : ∀ p, p ≠ 0 → linW w p = w p := fun p h => lin_o h
  exact LandR_mk (gs_self l0) lin_0 (E _ (by omega)) (E _ (by omega)) (E _ (by omega)) (gs_ne (by omega) l1) (gs_ne (by omega) l2) (gs_ne (by omega) l3) (gs_ne (by omega) l4) (gs_ne (by omega) l5) (gs_ne (by omega) l6) (gs_ne (by omega) l7) (gs_ne (by omega) l8) (gV_ag (fun p h1 h2 => E p (by omega)) (congrArg Int32.toNatClampNeg (E _ (by omega))) e2 g1) (gR_ag (fun p h1 h2 => E p (by omega)) (congrArg Int32.toNatClampNeg (E _ (by omega))) e4 g2) g3 (gI_ag (fun p h1 h2 => E p (by omega)) (congrArg Int32.toNatClampNeg (E _ (by omega))) e6 g4) (gT_ag (fun p h1 h2 => E p (by omega)) g5)
theorem LawsR.lin {h : aH} {q : Nat} (R2 : LawsR h q w) (hJ : WJ w) : LawsR h q (linW w) := by
  obtain ⟨⟨e7, e8⟩, ⟨e9, e10⟩⟩ := Wf_m hJ.wf
  obtain ⟨⟨e1, e2⟩, ⟨e3, e4⟩, ⟨e5, e6⟩⟩ := Wf_n hJ.wf
  exact R2.gr e8 e10 (fun p h => lin_o (by omega)) (by rw [show ntW (linW w) = ntW w from congrArg Int32.toNatClampNeg (lin_o (by omega))]; omega) (fun i hi => g_va (fun p h1 h2 => lin_o (by omega)) (by omega))
end LWG
theorem x_empty (d : Nat) (h : aH) (q : Nat) (f : Nat → Int32) (S : LandS h q) : Sp (Rn (d + 2)) 1 [.ref (q)] h (fun r9 h9 => r9 = none ∧ FrQ q h h9 ∧ LandR h9 q (iniW f) ∧ LawsR h9 (q + 9) (iniW f)) := by
  obtain ⟨x0, x1, x2, x3, x4, x5, sz2, rf2, rt2, rv2, ag2, vr2, sd2, tl2, it2, fi2, se2, sg2, l92, rs2, rp2, pj2, pk2, pv2, d0, d1, d2, d3, d4, d5, d6, d7, d8, d9, d10, d11, d12, d13, d14, d15, d16, d17, d18, d19, d20⟩ := id S
  refine Sp_of (by decide) (Nat.le_of_ble_eq_true rfl) ?_
  show Wn _ _ 0 [(0, .ref (q))] [] _ _
  refine wn_ld (pc' := 1) (q := 0) (kin := 2) (v := .ref (q)) rfl (fun _ _ _ => rfl) rfl rfl ?_
  refine wn_ic (pc' := 2) (w := nI 0) rfl rfl (by decide) ?_
  refine wn_put (pc' := 5) rfl rfl d0 (Nat.le_of_ble_eq_true rfl) ⟨rfl, rfl⟩ ?_
  show Wn _ _ 5 _ [] (h.set q (.inr (0, [.int (nI (0)), .int (x1), .int (x2), .int (x3), .ref (q + 1), .ref (q + 2), .ref (q + 3), .ref (q + 4), .ref (q + 5), .ref (q + 6), .ref (q + 7), .ref (q + 8), .ref (q + 9)]))) _
  refine wn_ld (pc' := 6) (q := 0) (kin := 2) (v := .ref (q)) rfl (fun _ _ _ => rfl) rfl rfl ?_
  refine wn_ic (pc' := 7) (w := nI 0) rfl rfl (by decide) ?_
  refine wn_put (pc' := 10) rfl rfl (gs_self d0) (Nat.le_of_ble_eq_true rfl) ⟨rfl, rfl⟩ ?_
  show Wn _ _ 10 _ [] ((h.set q (.inr (0, [.int (nI (0)), .int (x1), .int (x2), .int (x3), .ref (q + 1), .ref (q + 2), .ref (q + 3), .ref (q + 4), .ref (q + 5), .ref (q + 6), .ref (q + 7), .ref (q + 8), .ref (q + 9)]))).set q (.inr (0, [.int (nI (0)), .int (nI (0)), .int (x2), .int (x3), .ref (q + 1), .ref (q + 2), .ref (q + 3), .ref (q + 4), .ref (q + 5), .ref (q + 6), .ref (q + 7), .ref (q + 8), .ref (q + 9)]))) _
  refine wn_ld (pc' := 11) (q := 0) (kin := 2) (v := .ref (q)) rfl (fun _ _ _ => rfl) rfl rfl ?_
  refine wn_ic (pc' := 12) (w := nI 0) rfl rfl (by decide) ?_
  refine wn_put (pc' := 15) rfl rfl (gs_self (gs_self d0)) (Nat.le_of_ble_eq_true rfl) ⟨rfl, rfl⟩ ?_
  show Wn _ _ 15 _ [] (((h.set q (.inr (0, [.int (nI (0)), .int (x1), .int (x2), .int (x3), .ref (q + 1), .ref (q + 2), .ref (q + 3), .ref (q + 4), .ref (q + 5), .ref (q + 6), .ref (q + 7), .ref (q + 8), .ref (q + 9)]))).set q (.inr (0, [.int (nI (0)), .int (nI (0)), .int (x2), .int (x3), .ref (q + 1), .ref (q + 2), .ref (q + 3), .ref (q + 4), .ref (q + 5), .ref (q + 6), .ref (q + 7), .ref (q + 8), .ref (q + 9)]))).set q (.inr (0, [.int (nI (0)), .int (nI (0)), .int (nI (0)), .int (x3), .ref (q + 1), .ref (q + 2), .ref (q + 3), .ref (q + 4), .ref (q + 5), .ref (q + 6), .ref (q + 7), .ref (q + 8), .ref (q + 9)]))) _
  refine wn_ld (pc' := 16) (q := 0) (kin := 2) (v := .ref (q)) rfl (fun _ _ _ => rfl) rfl rfl ?_
  refine wn_ic (pc' := 17) (w := nI 0) rfl rfl (by decide) ?_
  refine wn_put (pc' := 20) rfl rfl (gs_self (gs_self (gs_self d0))) (Nat.le_of_ble_eq_true rfl) ⟨rfl, rfl⟩ ?_
  show Wn _ _ 20 _ [] ((((h.set q (.inr (0, [.int (nI (0)), .int (x1), .int (x2), .int (x3), .ref (q + 1), .ref (q + 2), .ref (q + 3), .ref (q + 4), .ref (q + 5), .ref (q + 6), .ref (q + 7), .ref (q + 8), .ref (q + 9)]))).set q (.inr (0, [.int (nI (0)), .int (nI (0)), .int (x2), .int (x3), .ref (q + 1), .ref (q + 2), .ref (q + 3), .ref (q + 4), .ref (q + 5), .ref (q + 6), .ref (q + 7), .ref (q + 8), .ref (q + 9)]))).set q (.inr (0, [.int (nI (0)), .int (nI (0)), .int (nI (0)), .int (x3), .ref (q + 1), .ref (q + 2), .ref (q + 3), .ref (q + 4), .ref (q + 5), .ref (q + 6), .ref (q + 7), .ref (q + 8), .ref (q + 9)]))).set q (.inr (0, [.int (nI (0)), .int (nI (0)), .int (nI (0)), .int (nI (0)), .ref (q + 1), .ref (q + 2), .ref (q + 3), .ref (q + 4), .ref (q + 5), .ref (q + 6), .ref (q + 7), .ref (q + 8), .ref (q + 9)]))) _
  refine wn_ic (pc' := 21) (w := nI 0) rfl rfl (by decide) ?_
  refine wn_st (pc' := 22) (q := 1) (kin := 0) (lv' := [(0, .ref (q)), (1, .int (nI (0)))]) rfl (fun _ _ _ => rfl) rfl (Nat.le_of_ble_eq_true rfl) rfl ?_
  have lp2 : ∀ (n_lp2 : Nat) (g1 : aH) (tl1 : Nat → Int32) (k : Nat), 240 + 1 ≤ k + n_lp2 → Fr [q, q + 8] h g1 → isO g1 q 0 [.int (nI (0)), .int (nI (0)), .int (nI (0)), .int (nI (0)), .ref (q + 1), .ref (q + 2), .ref (q + 3), .ref (q + 4), .ref (q + 5), .ref (q + 6), .ref (q + 7), .ref (q + 8), .ref (q + 9)] → isI g1 (q + 8) 240 tl1 → k ≤ 240 → (∀ x, x < k → tl1 x = -1) → Wn (Rn (d + 1)) 1 22 [(0, .ref (q)), (1, .int (nI (k)))] [] (g1) (fun r9 h9 => r9 = none ∧ FrQ q h h9 ∧ LandR h9 q (iniW f) ∧ LawsR h9 (q + 9) (iniW f)) := by
    intro n_lp2
    induction n_lp2 with
    | zero => intro g1 tl1 k hm_lp2 hf_g1 c_q_g1 c_q8_g1 hk hT; exfalso; omega
    | succ n_lp2 ih_lp2 =>
      intro g1 tl1 k hm_lp2 hf_g1 c_q_g1 c_q8_g1 hk hT
      refine wn_ld (pc' := 23) (q := 1) (kin := 0) (v := .int (nI (k))) rfl (fun _ _ _ => rfl) rfl rfl ?_
      refine wn_sp (pc' := 26) (w := nI 240) rfl rfl (by decide) ?_
      refine wn_icmpN (t := 42) (f := 29) rfl rfl rfl (by omega) (by omega) (fun c3 => ?_) (fun c3 => ?_)
      · have c3 : 240 ≤ k := c3
        refine wn_ld (pc' := 43) (q := 0) (kin := 2) (v := .ref (q)) rfl (fun _ _ _ => rfl) rfl rfl ?_
        refine wn_get (pc' := 46) (v := .ref (q + 9)) rfl rfl c_q_g1 rfl ?_
        refine wn_virS (pc' := 49) rfl rfl (by decide) rfl rfl ((hf_g1.2 (q + 9) (by simp only [List.mem_cons, List.not_mem_nil, or_false]; omega)).trans d10) (Nat.le_of_ble_eq_true rfl) (x_emptyL _ _ (q + 9) x4 x5 ((hf_g1.2 (q + 9) (by simp only [List.mem_cons, List.not_mem_nil, or_false]; omega)).trans d10)) (fun r9 h4 e5 => ?_)
        obtain ⟨rfl, f_h4, o_h4⟩ := e5
        show Wn _ _ 49 _ [] h4 _
        have fr : Fr [q, q + 8] h (g1) := hf_g1
        have kk : ∀ x, x < q ∨ (q < x ∧ x < q + 8) ∨ q + 10 ≤ x → h4[x]? = h[x]? := fun x hx => (f_h4.2 x (by simp only [List.mem_cons, List.not_mem_nil, or_false]; omega)).trans (fr.2 x (by simp only [List.mem_cons, List.not_mem_nil, or_false]; omega))
        have z0 : (0 : Int32) = nI 0 := by decide
        have e0 : ∀ k, k < 216 → iniW f k = nI 0 := fun k hk => (ini_0 (by omega) (by omega)).trans z0
        have n1 : nvW (iniW f) = 0 := ini_n (by omega)
        have n2 : nrW (iniW f) = 0 := ini_n (by omega)
        have n3 : ntW (iniW f) = 0 := ini_n (by omega)
        have n4 : nlW (iniW f) = 0 := ini_n (by omega)
        have n5 : npW (iniW f) = 0 := ini_n (by omega)
        refine wn_vret rfl rfl ⟨rfl, ⟨f_h4.1.trans fr.1, fun x hx => kk x (by omega)⟩, LandR_mk (((f_h4.2 _ (by simp only [List.mem_cons, List.not_mem_nil, or_false]; omega))).trans c_q_g1) (e0 _ (by omega)) (e0 _ (by omega)) (e0 _ (by omega)) (e0 _ (by omega)) (d1.kp (kk _ (by omega))) (d2.kp (kk _ (by omega))) (d3.kp (kk _ (by omega))) (d4.kp (kk _ (by omega))) (d5.kp (kk _ (by omega))) (d6.kp (kk _ (by omega))) (d7.kp (kk _ (by omega))) ((f_h4.2 _ (by simp only [List.mem_cons, List.not_mem_nil, or_false]; omega)).trans c_q8_g1) (fun v hv => by omega) (fun v hv => by omega) d9 (fun v hv => by omega) (fun x hx => (hT x (by omega)).trans (ini_t (by omega) (by omega)).symm), fun _ => 0, it2, fi2, se2, sg2, l92, rs2, rp2, pj2, pk2, pv2, fun l hl => by omega, ?_, d11.kp (kk _ (by omega)), d12.kp (kk _ (by omega)), d13.kp (kk _ (by omega)), d14.kp (kk _ (by omega)), d15.kp (kk _ (by omega)), d16.kp (kk _ (by omega)), d17.kp (kk _ (by omega)), d18.kp (kk _ (by omega)), d19.kp (kk _ (by omega)), d20.kp (kk _ (by omega)), fun l hl => by omega, fun l hl => by omega⟩
        rw [e0 4 (by omega), show iniW f 5 = nI 0 from e0 5 (by omega)]; exact o_h4
      · have c3 : k < 240 := c3
        refine wn_ld (pc' := 30) (q := 0) (kin := 2) (v := .ref (q)) rfl (fun _ _ _ => rfl) rfl rfl ?_
        refine wn_get (pc' := 33) (v := .ref (q + 8)) rfl rfl c_q_g1 rfl ?_
        refine wn_ld (pc' := 34) (q := 1) (kin := 0) (v := .int (nI (k))) rfl (fun _ _ _ => rfl) rfl rfl ?_
        refine wn_ic (pc' := 35) (w := -1) rfl rfl (by decide) ?_
        refine wn_iast (pc' := 36) (j := k) rfl rfl c_q8_g1 rfl (by omega) (by decide) ?_
        refine wn_incN (n := 1) (pc' := 39) (lv' := [(0, .ref (q)), (1, .int (nI (k + 1)))]) rfl rfl rfl (Nat.le_of_ble_eq_true rfl) rfl (by decide) ?_
        refine wn_jp (pc' := 22) rfl rfl ?_
        refine wn_weak (lv' := [(0, .ref (q)), (1, .int (nI (k + 1)))]) (by simp) ?_
        have z9 := ih_lp2 (g1.set (q + 8) (.inl (0, 240, .inl (upd tl1 (k) ((-1)))))) (upd tl1 (k) ((-1))) (k + 1) (by omega) (Fr.st hf_g1 (by simp)) (gs_ne (by omega) c_q_g1) (gs_self c_q8_g1) (by omega) (fun x hx => by by_cases e : x = k; (subst e; exact pk_us); exact (pk_un e).trans (hT x (by omega)))
        exact z9
  refine wn_weak (lv' := [(0, .ref (q)), (1, .int (nI (0)))]) (by simp) ?_
  have z9 := lp2 (240 + 1) ((((h.set q (.inr (0, [.int (nI (0)), .int (x1), .int (x2), .int (x3), .ref (q + 1), .ref (q + 2), .ref (q + 3), .ref (q + 4), .ref (q + 5), .ref (q + 6), .ref (q + 7), .ref (q + 8), .ref (q + 9)]))).set q (.inr (0, [.int (nI (0)), .int (nI (0)), .int (x2), .int (x3), .ref (q + 1), .ref (q + 2), .ref (q + 3), .ref (q + 4), .ref (q + 5), .ref (q + 6), .ref (q + 7), .ref (q + 8), .ref (q + 9)]))).set q (.inr (0, [.int (nI (0)), .int (nI (0)), .int (nI (0)), .int (x3), .ref (q + 1), .ref (q + 2), .ref (q + 3), .ref (q + 4), .ref (q + 5), .ref (q + 6), .ref (q + 7), .ref (q + 8), .ref (q + 9)]))).set q (.inr (0, [.int (nI (0)), .int (nI (0)), .int (nI (0)), .int (nI (0)), .ref (q + 1), .ref (q + 2), .ref (q + 3), .ref (q + 4), .ref (q + 5), .ref (q + 6), .ref (q + 7), .ref (q + 8), .ref (q + 9)]))) tl2 0 (by omega) (Fr.st (Fr.st (Fr.st (Fr.st (Fr.rfl' [q, q + 8] h) (by simp)) (by simp)) (by simp)) (by simp)) (gs_self (gs_self (gs_self (gs_self d0)))) (gs_ne (by omega) (gs_ne (by omega) (gs_ne (by omega) (gs_ne (by omega) d8)))) (by omega) (fun _ q => absurd q (by omega))
  exact z9

