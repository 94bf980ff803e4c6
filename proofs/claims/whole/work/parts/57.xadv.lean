/-! THE CLASS'S READER: advance -/
theorem chK_or (b : Int32) : chK b = 1 ∨ chK b = 2 ∨ chK b = 3 ∨ chK b = 4 := by
  have := chK_le b
  have := chK_ge b
  omega
theorem dgt_nI {b : Int32} (h : chK b = 2) : b = nI (dgt b + 48) := by
  obtain ⟨h1, h2, h3, h4⟩ := dgt_of h
  apply Int32.toInt_inj.mp
  rw [nI_toInt (by omega)]; omega
theorem nvd_0 {t : Nat → Int32} {q : Nat} (h : chK (t q) = 2) : dgt (t q) + 48 - 48 = min (nvD t q (q + 1 - q)) 1000000 := by
  rw [show q + 1 - q = 0 + 1 by omega]
  have := (dgt_of h).2.2.2
  show _ = min (10 * 0 + dgt (t q)) 1000000
  omega
theorem nvd_s {t : Nat → Int32} {q r : Nat} (h : q ≤ r) : min (min (nvD t q (r - q)) 1000000 * 10 + (dgt (t r) + 48) - 48) 1000000 = min (nvD t q (r + 1 - q)) 1000000 := by
  rw [show r + 1 - q = r - q + 1 by omega]
  show _ = min (10 * nvD t q (r - q) + dgt (t (q + (r - q)))) 1000000
  rw [show q + (r - q) = r by omega]
  omega
def rdO (lr : Nat) (fk fp : Int32) (n k s a v : Nat) : List Value := [.int fk, .int fp, .ref lr, .ref 1, .int (nI n), .int (nI k), .int (nI s), .int (nI a), .int (nI v)]
noncomputable def rdS (t : Nat → Int32) (lr : Nat) (fk fp : Int32) (n p : Nat) : List Value := rdO lr fk fp n (tkK t n p) (tkF t n p) (tkA t n p) (nbC t n p)
theorem x_advance (d : Nat) (h : aH) (t ct : Nat → Int32) (n p lr : Nat) (fk fp k0 s0 n0 : Int32) (hn : n ≤ 1200) (hp : p ≤ n) (o1 : isB h 1 1200 ct) (o1v : ∀ x, x < 1200 → ct x = t x) (o2 : isO h 2 3 [.int fk, .int fp, .ref lr, .ref 1, .int (nI n), .int k0, .int s0, .int (nI p), .int n0]) : Sp (Rn (d + 2)) 40 [.ref (2)] h (fun r9 h9 => r9 = none ∧ Fr [2] h h9 ∧ isO h9 2 3 (rdS t lr fk fp n p)) := by
  refine Sp_of (by decide) (Nat.le_of_ble_eq_true rfl) ?_
  show Wn _ _ 0 [(0, .ref (2))] [] _ _
  refine wn_ld (pc' := 1) (q := 0) (kin := 2) (v := .ref (2)) rfl (fun _ _ _ => rfl) rfl rfl ?_
  refine wn_get (pc' := 4) (v := .int (nI (p))) rfl rfl o2 rfl ?_
  refine wn_st (pc' := 5) (q := 1) (kin := 0) (lv' := [(0, .ref (2)), (1, .int (nI (p)))]) rfl (fun _ _ _ => rfl) rfl (Nat.le_of_ble_eq_true rfl) rfl ?_
  have jn1 : ∀ (q : Nat), p ≤ q → q ≤ n → tkF t n p = q → Wn (Rn (d + 1)) 40 41 [(0, .ref (2)), (1, .int (nI (q)))] [] (h) (fun r9 h9 => r9 = none ∧ Fr [2] h h9 ∧ isO h9 2 3 (rdS t lr fk fp n p)) := by
    intro q hq1 hq2 eF
    refine wn_ld (pc' := 42) (q := 0) (kin := 2) (v := .ref (2)) rfl (fun _ _ _ => rfl) rfl rfl ?_
    refine wn_ld (pc' := 43) (q := 1) (kin := 0) (v := .int (nI (q))) rfl (fun _ _ _ => rfl) rfl rfl ?_
    refine wn_put (pc' := 46) rfl rfl o2 (Nat.le_of_ble_eq_true rfl) ⟨rfl, rfl⟩ ?_
    show Wn _ _ 46 _ [] (h.set 2 (.inr (3, [.int (fk), .int (fp), .ref (lr), .ref (1), .int (nI (n)), .int (k0), .int (nI (q)), .int (nI (p)), .int (n0)]))) _
    refine wn_ld (pc' := 47) (q := 0) (kin := 2) (v := .ref (2)) rfl (fun _ _ _ => rfl) rfl rfl ?_
    refine wn_ic (pc' := 48) (w := nI 0) rfl rfl (by decide) ?_
    refine wn_put (pc' := 51) rfl rfl (gs_self o2) (Nat.le_of_ble_eq_true rfl) ⟨rfl, rfl⟩ ?_
    show Wn _ _ 51 _ [] ((h.set 2 (.inr (3, [.int (fk), .int (fp), .ref (lr), .ref (1), .int (nI (n)), .int (k0), .int (nI (q)), .int (nI (p)), .int (n0)]))).set 2 (.inr (3, [.int (fk), .int (fp), .ref (lr), .ref (1), .int (nI (n)), .int (nI (0)), .int (nI (q)), .int (nI (p)), .int (n0)]))) _
    refine wn_ld (pc' := 52) (q := 0) (kin := 2) (v := .ref (2)) rfl (fun _ _ _ => rfl) rfl rfl ?_
    refine wn_ic (pc' := 53) (w := nI 0) rfl rfl (by decide) ?_
    refine wn_put (pc' := 56) rfl rfl (gs_self (gs_self o2)) (Nat.le_of_ble_eq_true rfl) ⟨rfl, rfl⟩ ?_
    show Wn _ _ 56 _ [] (((h.set 2 (.inr (3, [.int (fk), .int (fp), .ref (lr), .ref (1), .int (nI (n)), .int (k0), .int (nI (q)), .int (nI (p)), .int (n0)]))).set 2 (.inr (3, [.int (fk), .int (fp), .ref (lr), .ref (1), .int (nI (n)), .int (nI (0)), .int (nI (q)), .int (nI (p)), .int (n0)]))).set 2 (.inr (3, [.int (fk), .int (fp), .ref (lr), .ref (1), .int (nI (n)), .int (nI (0)), .int (nI (q)), .int (nI (p)), .int (nI (0))]))) _
    refine wn_ld (pc' := 57) (q := 1) (kin := 0) (v := .int (nI (q))) rfl (fun _ _ _ => rfl) rfl rfl ?_
    refine wn_ld (pc' := 58) (q := 0) (kin := 2) (v := .ref (2)) rfl (fun _ _ _ => rfl) rfl rfl ?_
    refine wn_get (pc' := 61) (v := .int (nI (n))) rfl rfl (gs_self (gs_self (gs_self o2))) rfl ?_
    refine wn_icmpN (t := 191) (f := 64) rfl rfl rfl (by omega) (by omega) (fun c2 => ?_) (fun c2 => ?_)
    · have c2 : n ≤ q := c2
      refine wn_ld (pc' := 192) (q := 0) (kin := 2) (v := .ref (2)) rfl (fun _ _ _ => rfl) rfl rfl ?_
      refine wn_ld (pc' := 193) (q := 1) (kin := 0) (v := .int (nI (q))) rfl (fun _ _ _ => rfl) rfl rfl ?_
      refine wn_put (pc' := 196) rfl rfl (gs_self (gs_self (gs_self o2))) (Nat.le_of_ble_eq_true rfl) ⟨rfl, rfl⟩ ?_
      show Wn _ _ 196 _ [] ((((h.set 2 (.inr (3, [.int (fk), .int (fp), .ref (lr), .ref (1), .int (nI (n)), .int (k0), .int (nI (q)), .int (nI (p)), .int (n0)]))).set 2 (.inr (3, [.int (fk), .int (fp), .ref (lr), .ref (1), .int (nI (n)), .int (nI (0)), .int (nI (q)), .int (nI (p)), .int (n0)]))).set 2 (.inr (3, [.int (fk), .int (fp), .ref (lr), .ref (1), .int (nI (n)), .int (nI (0)), .int (nI (q)), .int (nI (p)), .int (nI (0))]))).set 2 (.inr (3, [.int (fk), .int (fp), .ref (lr), .ref (1), .int (nI (n)), .int (nI (0)), .int (nI (q)), .int (nI (q)), .int (nI (0))]))) _
      have e1 : tkK t n p = 0 := tkK_0.mpr (by omega)
      have e2 : tkA t n p = q := by unfold tkA; rw [eF, if_neg (by omega)]
      have e3 : nbC t n p = 0 := by unfold nbC; rw [e1]; rfl
      exact wn_vret rfl rfl ⟨rfl, (Fr.st (Fr.st (Fr.st (Fr.st (Fr.rfl' [2] h) (by decide)) (by decide)) (by decide)) (by decide)), by unfold rdS rdO; rw [e1, e2, e3, eF]; exact (gs_self (gs_self (gs_self (gs_self o2))))⟩
    · have c2 : q < n := c2
      have hqn : q < n := by omega
      rcases chK_or (t q) with hk | hk | hk | hk
      · refine wn_ld (pc' := 65) (q := 0) (kin := 2) (v := .ref (2)) rfl (fun _ _ _ => rfl) rfl rfl ?_
        refine wn_ld (pc' := 66) (q := 0) (kin := 2) (v := .ref (2)) rfl (fun _ _ _ => rfl) rfl rfl ?_
        refine wn_get (pc' := 69) (v := .ref (1)) rfl rfl (gs_self (gs_self (gs_self o2))) rfl ?_
        refine wn_ld (pc' := 70) (q := 1) (kin := 0) (v := .int (nI (q))) rfl (fun _ _ _ => rfl) rfl rfl ?_
        refine wn_baldv (pc' := 71) (j := q) (v := (t q)) rfl rfl (Or.inl rfl) (gs_ne (by decide) (gs_ne (by decide) (gs_ne (by decide) o1))) rfl (by omega) (by decide) (o1v _ (by omega)) ?_
        refine wn_staI (pc' := 74) rfl rfl (by decide) rfl rfl (Nat.le_of_ble_eq_true rfl) (x_kindOf _ _ (t q)) ?_
        rw [hk]
        refine wn_put (pc' := 77) rfl rfl (gs_self (gs_self (gs_self o2))) (Nat.le_of_ble_eq_true rfl) ⟨rfl, rfl⟩ ?_
        show Wn _ _ 77 _ [] ((((h.set 2 (.inr (3, [.int (fk), .int (fp), .ref (lr), .ref (1), .int (nI (n)), .int (k0), .int (nI (q)), .int (nI (p)), .int (n0)]))).set 2 (.inr (3, [.int (fk), .int (fp), .ref (lr), .ref (1), .int (nI (n)), .int (nI (0)), .int (nI (q)), .int (nI (p)), .int (n0)]))).set 2 (.inr (3, [.int (fk), .int (fp), .ref (lr), .ref (1), .int (nI (n)), .int (nI (0)), .int (nI (q)), .int (nI (p)), .int (nI (0))]))).set 2 (.inr (3, [.int (fk), .int (fp), .ref (lr), .ref (1), .int (nI (n)), .int (nI (1)), .int (nI (q)), .int (nI (p)), .int (nI (0))]))) _
        refine wn_ld (pc' := 78) (q := 0) (kin := 2) (v := .ref (2)) rfl (fun _ _ _ => rfl) rfl rfl ?_
        refine wn_get (pc' := 81) (v := .int (nI (1))) rfl rfl (gs_self (gs_self (gs_self (gs_self o2)))) rfl ?_
        refine wn_ic (pc' := 82) (w := nI 1) rfl rfl (by decide) ?_
        refine wn_icmpN (t := 93) (f := 85) rfl rfl rfl (by omega) (by omega) (fun c3 => ?_) (fun c3 => ?_)
        · have c3 : 1 = 1 := c3
          refine wn_ic (pc' := 94) (w := nI 1) rfl rfl (by decide) ?_
          refine wn_jp (pc' := 98) rfl rfl ?_
          refine wn_st (pc' := 99) (q := 2) (kin := 0) (lv' := [(0, .ref (2)), (1, .int (nI (q))), (2, .int (nI (1)))]) rfl (fun _ _ _ => rfl) rfl (Nat.le_of_ble_eq_true rfl) rfl ?_
          refine wn_ld (pc' := 100) (q := 0) (kin := 2) (v := .ref (2)) rfl (fun _ _ _ => rfl) rfl rfl ?_
          refine wn_get (pc' := 103) (v := .int (nI (1))) rfl rfl (gs_self (gs_self (gs_self (gs_self o2)))) rfl ?_
          refine wn_ic (pc' := 104) (w := nI 2) rfl rfl (by decide) ?_
          refine wn_icmpN (t := 120) (f := 107) rfl rfl rfl (by omega) (by omega) (fun c4 => ?_) (fun c4 => ?_)
          · have c4 : ¬ 1 = 2 := c4
            refine wn_incN (n := 1) (pc' := 123) (lv' := [(0, .ref (2)), (1, .int (nI (q + 1))), (2, .int (nI (1)))]) rfl rfl rfl (Nat.le_of_ble_eq_true rfl) rfl (by decide) ?_
            have lp6 : ∀ (n_lp6 : Nat) (g5 : aH) (r : Nat), n + 1 ≤ r + n_lp6 → Fr [2] h g5 → isO g5 2 3 [.int (fk), .int (fp), .ref (lr), .ref (1), .int (nI (n)), .int (nI (1)), .int (nI (q)), .int (nI (p)), .int (nI (0))] → q + 1 ≤ r → r ≤ n → rnE (fun x => chK (t x) = 1) n r = rnE (fun x => chK (t x) = 1) n q → Wn (Rn (d + 1)) 40 123 [(0, .ref (2)), (1, .int (nI (r))), (2, .int (nI (1)))] [] (g5) (fun r9 h9 => r9 = none ∧ Fr [2] h h9 ∧ isO h9 2 3 (rdS t lr fk fp n p)) := by
              intro n_lp6
              induction n_lp6 with
              | zero => intro g5 r hm_lp6 hf_g5 c_2_g5 hr1 hr2 hA; exfalso; omega
              | succ n_lp6 ih_lp6 =>
                intro g5 r hm_lp6 hf_g5 c_2_g5 hr1 hr2 hA
                refine wn_ld (pc' := 124) (q := 2) (kin := 0) (v := .int (nI (1))) rfl (fun _ _ _ => rfl) rfl rfl ?_
                refine wn_ifN (t := 191) (f := 127) rfl rfl rfl (by omega) (fun c7 => ?_) (fun c7 => ?_)
                · have c7 : 1 = 0 := c7
                  exact absurd c7 (by decide)
                · have c7 : ¬ 1 = 0 := c7
                  refine wn_ld (pc' := 128) (q := 1) (kin := 0) (v := .int (nI (r))) rfl (fun _ _ _ => rfl) rfl rfl ?_
                  refine wn_ld (pc' := 129) (q := 0) (kin := 2) (v := .ref (2)) rfl (fun _ _ _ => rfl) rfl rfl ?_
                  refine wn_get (pc' := 132) (v := .int (nI (n))) rfl rfl c_2_g5 rfl ?_
                  refine wn_icmpN (t := 191) (f := 135) rfl rfl rfl (by omega) (by omega) (fun c8 => ?_) (fun c8 => ?_)
                  · have c8 : n ≤ r := c8
                    refine wn_ld (pc' := 192) (q := 0) (kin := 2) (v := .ref (2)) rfl (fun _ _ _ => rfl) rfl rfl ?_
                    refine wn_ld (pc' := 193) (q := 1) (kin := 0) (v := .int (nI (r))) rfl (fun _ _ _ => rfl) rfl rfl ?_
                    refine wn_put (pc' := 196) rfl rfl c_2_g5 (Nat.le_of_ble_eq_true rfl) ⟨rfl, rfl⟩ ?_
                    show Wn _ _ 196 _ [] (g5.set 2 (.inr (3, [.int (fk), .int (fp), .ref (lr), .ref (1), .int (nI (n)), .int (nI (1)), .int (nI (q)), .int (nI (r)), .int (nI (0))]))) _
                    have e1 : tkK t n p = 1 := by unfold tkK; rw [eF, if_pos hqn, hk]
                    have e2 : tkA t n p = r := by unfold tkA; rw [eF, if_pos hqn, hk, if_pos rfl, ← hA]; exact rn_f (fun g => by have := g.1; omega)
                    have e3 : nbC t n p = 0 := by unfold nbC; rw [e1]; rfl
                    exact wn_vret rfl rfl ⟨rfl, (Fr.st hf_g5 (by decide)), by unfold rdS rdO; rw [e1, e2, e3, eF]; exact (gs_self c_2_g5)⟩
                  · have c8 : r < n := c8
                    refine wn_ld (pc' := 136) (q := 0) (kin := 2) (v := .ref (2)) rfl (fun _ _ _ => rfl) rfl rfl ?_
                    refine wn_get (pc' := 139) (v := .ref (1)) rfl rfl c_2_g5 rfl ?_
                    refine wn_ld (pc' := 140) (q := 1) (kin := 0) (v := .int (nI (r))) rfl (fun _ _ _ => rfl) rfl rfl ?_
                    refine wn_baldv (pc' := 141) (j := r) (v := (t r)) rfl rfl (Or.inl rfl) ((hf_g5.2 1 (by decide)).trans o1) rfl (by omega) (by decide) (o1v _ (by omega)) ?_
                    have := chK_le (t r)
                    refine wn_staI (pc' := 144) rfl rfl (by decide) rfl rfl (Nat.le_of_ble_eq_true rfl) (x_kindOf _ _ (t r)) ?_
                    refine wn_ld (pc' := 145) (q := 0) (kin := 2) (v := .ref (2)) rfl (fun _ _ _ => rfl) rfl rfl ?_
                    refine wn_get (pc' := 148) (v := .int (nI (1))) rfl rfl c_2_g5 rfl ?_
                    refine wn_icmpN (t := 191) (f := 151) rfl rfl rfl (by omega) (by omega) (fun c9 => ?_) (fun c9 => ?_)
                    · have c9 : ¬ (chK (t r)) = 1 := c9
                      refine wn_ld (pc' := 192) (q := 0) (kin := 2) (v := .ref (2)) rfl (fun _ _ _ => rfl) rfl rfl ?_
                      refine wn_ld (pc' := 193) (q := 1) (kin := 0) (v := .int (nI (r))) rfl (fun _ _ _ => rfl) rfl rfl ?_
                      refine wn_put (pc' := 196) rfl rfl c_2_g5 (Nat.le_of_ble_eq_true rfl) ⟨rfl, rfl⟩ ?_
                      show Wn _ _ 196 _ [] (g5.set 2 (.inr (3, [.int (fk), .int (fp), .ref (lr), .ref (1), .int (nI (n)), .int (nI (1)), .int (nI (q)), .int (nI (r)), .int (nI (0))]))) _
                      have e1 : tkK t n p = 1 := by unfold tkK; rw [eF, if_pos hqn, hk]
                      have e2 : tkA t n p = r := by unfold tkA; rw [eF, if_pos hqn, hk, if_pos rfl, ← hA]; exact rn_f (fun g => c9 g.2)
                      have e3 : nbC t n p = 0 := by unfold nbC; rw [e1]; rfl
                      exact wn_vret rfl rfl ⟨rfl, (Fr.st hf_g5 (by decide)), by unfold rdS rdO; rw [e1, e2, e3, eF]; exact (gs_self c_2_g5)⟩
                    · have c9 : (chK (t r)) = 1 := c9
                      refine wn_ld (pc' := 152) (q := 0) (kin := 2) (v := .ref (2)) rfl (fun _ _ _ => rfl) rfl rfl ?_
                      refine wn_get (pc' := 155) (v := .int (nI (1))) rfl rfl c_2_g5 rfl ?_
                      refine wn_ic (pc' := 156) (w := nI 2) rfl rfl (by decide) ?_
                      refine wn_icmpN (t := 185) (f := 159) rfl rfl rfl (by omega) (by omega) (fun c10 => ?_) (fun c10 => ?_)
                      · have c10 : ¬ 1 = 2 := c10
                        refine wn_incN (n := 1) (pc' := 188) (lv' := [(0, .ref (2)), (1, .int (nI (r + 1))), (2, .int (nI (1)))]) rfl rfl rfl (Nat.le_of_ble_eq_true rfl) rfl (by decide) ?_
                        refine wn_jp (pc' := 123) rfl rfl ?_
                        refine wn_weak (lv' := [(0, .ref (2)), (1, .int (nI (r + 1))), (2, .int (nI (1)))]) (by simp) ?_
                        have z9 := ih_lp6 g5 (r + 1) (by omega) hf_g5 c_2_g5 (by omega) (by omega) (by rw [← hA]; exact (rn_t (p := r) (by omega) c9).symm)
                        exact z9
                      · have c10 : 1 = 2 := c10
                        exact absurd c10 (by decide)
            refine wn_weak (lv' := [(0, .ref (2)), (1, .int (nI (q + 1))), (2, .int (nI (1)))]) (by simp) ?_
            have z9 := lp6 (n + 1) ((((h.set 2 (.inr (3, [.int (fk), .int (fp), .ref (lr), .ref (1), .int (nI (n)), .int (k0), .int (nI (q)), .int (nI (p)), .int (n0)]))).set 2 (.inr (3, [.int (fk), .int (fp), .ref (lr), .ref (1), .int (nI (n)), .int (nI (0)), .int (nI (q)), .int (nI (p)), .int (n0)]))).set 2 (.inr (3, [.int (fk), .int (fp), .ref (lr), .ref (1), .int (nI (n)), .int (nI (0)), .int (nI (q)), .int (nI (p)), .int (nI (0))]))).set 2 (.inr (3, [.int (fk), .int (fp), .ref (lr), .ref (1), .int (nI (n)), .int (nI (1)), .int (nI (q)), .int (nI (p)), .int (nI (0))]))) (q + 1) (by omega) (Fr.st (Fr.st (Fr.st (Fr.st (Fr.rfl' [2] h) (by decide)) (by decide)) (by decide)) (by decide)) (gs_self (gs_self (gs_self (gs_self o2)))) (by omega) (by omega) (rn_t hqn hk).symm
            exact z9
          · have c4 : 1 = 2 := c4
            exact absurd c4 (by decide)
        · have c3 : ¬ 1 = 1 := c3
          exact absurd c3 (by decide)
      · refine wn_ld (pc' := 65) (q := 0) (kin := 2) (v := .ref (2)) rfl (fun _ _ _ => rfl) rfl rfl ?_
        refine wn_ld (pc' := 66) (q := 0) (kin := 2) (v := .ref (2)) rfl (fun _ _ _ => rfl) rfl rfl ?_
        refine wn_get (pc' := 69) (v := .ref (1)) rfl rfl (gs_self (gs_self (gs_self o2))) rfl ?_
        refine wn_ld (pc' := 70) (q := 1) (kin := 0) (v := .int (nI (q))) rfl (fun _ _ _ => rfl) rfl rfl ?_
        refine wn_baldv (pc' := 71) (j := q) (v := (t q)) rfl rfl (Or.inl rfl) (gs_ne (by decide) (gs_ne (by decide) (gs_ne (by decide) o1))) rfl (by omega) (by decide) (o1v _ (by omega)) ?_
        refine wn_staI (pc' := 74) rfl rfl (by decide) rfl rfl (Nat.le_of_ble_eq_true rfl) (x_kindOf _ _ (t q)) ?_
        rw [hk]
        refine wn_put (pc' := 77) rfl rfl (gs_self (gs_self (gs_self o2))) (Nat.le_of_ble_eq_true rfl) ⟨rfl, rfl⟩ ?_
        show Wn _ _ 77 _ [] ((((h.set 2 (.inr (3, [.int (fk), .int (fp), .ref (lr), .ref (1), .int (nI (n)), .int (k0), .int (nI (q)), .int (nI (p)), .int (n0)]))).set 2 (.inr (3, [.int (fk), .int (fp), .ref (lr), .ref (1), .int (nI (n)), .int (nI (0)), .int (nI (q)), .int (nI (p)), .int (n0)]))).set 2 (.inr (3, [.int (fk), .int (fp), .ref (lr), .ref (1), .int (nI (n)), .int (nI (0)), .int (nI (q)), .int (nI (p)), .int (nI (0))]))).set 2 (.inr (3, [.int (fk), .int (fp), .ref (lr), .ref (1), .int (nI (n)), .int (nI (2)), .int (nI (q)), .int (nI (p)), .int (nI (0))]))) _
        refine wn_ld (pc' := 78) (q := 0) (kin := 2) (v := .ref (2)) rfl (fun _ _ _ => rfl) rfl rfl ?_
        refine wn_get (pc' := 81) (v := .int (nI (2))) rfl rfl (gs_self (gs_self (gs_self (gs_self o2)))) rfl ?_
        refine wn_ic (pc' := 82) (w := nI 1) rfl rfl (by decide) ?_
        refine wn_icmpN (t := 93) (f := 85) rfl rfl rfl (by omega) (by omega) (fun c11 => ?_) (fun c11 => ?_)
        · have c11 : 2 = 1 := c11
          exact absurd c11 (by decide)
        · have c11 : ¬ 2 = 1 := c11
          refine wn_ld (pc' := 86) (q := 0) (kin := 2) (v := .ref (2)) rfl (fun _ _ _ => rfl) rfl rfl ?_
          refine wn_get (pc' := 89) (v := .int (nI (2))) rfl rfl (gs_self (gs_self (gs_self (gs_self o2)))) rfl ?_
          refine wn_ic (pc' := 90) (w := nI 2) rfl rfl (by decide) ?_
          refine wn_icmpN (t := 97) (f := 93) rfl rfl rfl (by omega) (by omega) (fun c12 => ?_) (fun c12 => ?_)
          · have c12 : ¬ 2 = 2 := c12
            exact absurd c12 (by decide)
          · have c12 : 2 = 2 := c12
            refine wn_ic (pc' := 94) (w := nI 1) rfl rfl (by decide) ?_
            refine wn_jp (pc' := 98) rfl rfl ?_
            refine wn_st (pc' := 99) (q := 2) (kin := 0) (lv' := [(0, .ref (2)), (1, .int (nI (q))), (2, .int (nI (1)))]) rfl (fun _ _ _ => rfl) rfl (Nat.le_of_ble_eq_true rfl) rfl ?_
            refine wn_ld (pc' := 100) (q := 0) (kin := 2) (v := .ref (2)) rfl (fun _ _ _ => rfl) rfl rfl ?_
            refine wn_get (pc' := 103) (v := .int (nI (2))) rfl rfl (gs_self (gs_self (gs_self (gs_self o2)))) rfl ?_
            refine wn_ic (pc' := 104) (w := nI 2) rfl rfl (by decide) ?_
            refine wn_icmpN (t := 120) (f := 107) rfl rfl rfl (by omega) (by omega) (fun c13 => ?_) (fun c13 => ?_)
            · have c13 : ¬ 2 = 2 := c13
              exact absurd c13 (by decide)
            · have c13 : 2 = 2 := c13
              refine wn_ld (pc' := 108) (q := 0) (kin := 2) (v := .ref (2)) rfl (fun _ _ _ => rfl) rfl rfl ?_
              refine wn_ld (pc' := 109) (q := 0) (kin := 2) (v := .ref (2)) rfl (fun _ _ _ => rfl) rfl rfl ?_
              refine wn_get (pc' := 112) (v := .ref (1)) rfl rfl (gs_self (gs_self (gs_self (gs_self o2)))) rfl ?_
              refine wn_ld (pc' := 113) (q := 1) (kin := 0) (v := .int (nI (q))) rfl (fun _ _ _ => rfl) rfl rfl ?_
              have := (dgt_of hk).2.2.2
              refine wn_baldv (pc' := 114) (j := q) (v := (nI (dgt (t q) + 48))) rfl rfl (Or.inl rfl) (gs_ne (by decide) (gs_ne (by decide) (gs_ne (by decide) (gs_ne (by decide) o1)))) rfl (by omega) (by decide) ((o1v _ (by omega)).trans (dgt_nI hk)) ?_
              refine wn_bp (pc' := 116) (w := nI 48) rfl rfl (by decide) ?_
              refine wn_subN (pc' := 117) rfl rfl (by omega) ?_
              refine wn_put (pc' := 120) rfl rfl (gs_self (gs_self (gs_self (gs_self o2)))) (Nat.le_of_ble_eq_true rfl) ⟨rfl, rfl⟩ ?_
              show Wn _ _ 120 _ [] (((((h.set 2 (.inr (3, [.int (fk), .int (fp), .ref (lr), .ref (1), .int (nI (n)), .int (k0), .int (nI (q)), .int (nI (p)), .int (n0)]))).set 2 (.inr (3, [.int (fk), .int (fp), .ref (lr), .ref (1), .int (nI (n)), .int (nI (0)), .int (nI (q)), .int (nI (p)), .int (n0)]))).set 2 (.inr (3, [.int (fk), .int (fp), .ref (lr), .ref (1), .int (nI (n)), .int (nI (0)), .int (nI (q)), .int (nI (p)), .int (nI (0))]))).set 2 (.inr (3, [.int (fk), .int (fp), .ref (lr), .ref (1), .int (nI (n)), .int (nI (2)), .int (nI (q)), .int (nI (p)), .int (nI (0))]))).set 2 (.inr (3, [.int (fk), .int (fp), .ref (lr), .ref (1), .int (nI (n)), .int (nI (2)), .int (nI (q)), .int (nI (p)), .int (nI ((dgt (t q) + 48) - 48))]))) _
              refine wn_incN (n := 1) (pc' := 123) (lv' := [(0, .ref (2)), (1, .int (nI (q + 1))), (2, .int (nI (1)))]) rfl rfl rfl (Nat.le_of_ble_eq_true rfl) rfl (by decide) ?_
              have lp15 : ∀ (n_lp15 : Nat) (g14 : aH) (r : Nat), n + 1 ≤ r + n_lp15 → Fr [2] h g14 → isO g14 2 3 [.int (fk), .int (fp), .ref (lr), .ref (1), .int (nI (n)), .int (nI (2)), .int (nI (q)), .int (nI (p)), .int (nI (min (nvD t q (r - q)) 1000000))] → q + 1 ≤ r → r ≤ n → rnE (fun x => chK (t x) = 2) n r = rnE (fun x => chK (t x) = 2) n q → Wn (Rn (d + 1)) 40 123 [(0, .ref (2)), (1, .int (nI (r))), (2, .int (nI (1)))] [] (g14) (fun r9 h9 => r9 = none ∧ Fr [2] h h9 ∧ isO h9 2 3 (rdS t lr fk fp n p)) := by
                intro n_lp15
                induction n_lp15 with
                | zero => intro g14 r hm_lp15 hf_g14 c_2_g14 hr1 hr2 hA; exfalso; omega
                | succ n_lp15 ih_lp15 =>
                  intro g14 r hm_lp15 hf_g14 c_2_g14 hr1 hr2 hA
                  refine wn_ld (pc' := 124) (q := 2) (kin := 0) (v := .int (nI (1))) rfl (fun _ _ _ => rfl) rfl rfl ?_
                  refine wn_ifN (t := 191) (f := 127) rfl rfl rfl (by omega) (fun c16 => ?_) (fun c16 => ?_)
                  · have c16 : 1 = 0 := c16
                    exact absurd c16 (by decide)
                  · have c16 : ¬ 1 = 0 := c16
                    refine wn_ld (pc' := 128) (q := 1) (kin := 0) (v := .int (nI (r))) rfl (fun _ _ _ => rfl) rfl rfl ?_
                    refine wn_ld (pc' := 129) (q := 0) (kin := 2) (v := .ref (2)) rfl (fun _ _ _ => rfl) rfl rfl ?_
                    refine wn_get (pc' := 132) (v := .int (nI (n))) rfl rfl c_2_g14 rfl ?_
                    refine wn_icmpN (t := 191) (f := 135) rfl rfl rfl (by omega) (by omega) (fun c17 => ?_) (fun c17 => ?_)
                    · have c17 : n ≤ r := c17
                      refine wn_ld (pc' := 192) (q := 0) (kin := 2) (v := .ref (2)) rfl (fun _ _ _ => rfl) rfl rfl ?_
                      refine wn_ld (pc' := 193) (q := 1) (kin := 0) (v := .int (nI (r))) rfl (fun _ _ _ => rfl) rfl rfl ?_
                      refine wn_put (pc' := 196) rfl rfl c_2_g14 (Nat.le_of_ble_eq_true rfl) ⟨rfl, rfl⟩ ?_
                      show Wn _ _ 196 _ [] (g14.set 2 (.inr (3, [.int (fk), .int (fp), .ref (lr), .ref (1), .int (nI (n)), .int (nI (2)), .int (nI (q)), .int (nI (r)), .int (nI (min (nvD t q (r - q)) 1000000))]))) _
                      have e1 : tkK t n p = 2 := by unfold tkK; rw [eF, if_pos hqn, hk]
                      have e2 : tkA t n p = r := by unfold tkA; rw [eF, if_pos hqn, hk, if_neg (by decide), if_pos rfl, ← hA]; exact rn_f (fun g => by have := g.1; omega)
                      have e3 : nbC t n p = min (nvD t q (r - q)) 1000000 := by unfold nbC tkV; rw [e1, if_pos rfl, e2, eF]
                      exact wn_vret rfl rfl ⟨rfl, (Fr.st hf_g14 (by decide)), by unfold rdS rdO; rw [e1, e2, e3, eF]; exact (gs_self c_2_g14)⟩
                    · have c17 : r < n := c17
                      refine wn_ld (pc' := 136) (q := 0) (kin := 2) (v := .ref (2)) rfl (fun _ _ _ => rfl) rfl rfl ?_
                      refine wn_get (pc' := 139) (v := .ref (1)) rfl rfl c_2_g14 rfl ?_
                      refine wn_ld (pc' := 140) (q := 1) (kin := 0) (v := .int (nI (r))) rfl (fun _ _ _ => rfl) rfl rfl ?_
                      refine wn_baldv (pc' := 141) (j := r) (v := (t r)) rfl rfl (Or.inl rfl) ((hf_g14.2 1 (by decide)).trans o1) rfl (by omega) (by decide) (o1v _ (by omega)) ?_
                      have := chK_le (t r)
                      refine wn_staI (pc' := 144) rfl rfl (by decide) rfl rfl (Nat.le_of_ble_eq_true rfl) (x_kindOf _ _ (t r)) ?_
                      refine wn_ld (pc' := 145) (q := 0) (kin := 2) (v := .ref (2)) rfl (fun _ _ _ => rfl) rfl rfl ?_
                      refine wn_get (pc' := 148) (v := .int (nI (2))) rfl rfl c_2_g14 rfl ?_
                      refine wn_icmpN (t := 191) (f := 151) rfl rfl rfl (by omega) (by omega) (fun c18 => ?_) (fun c18 => ?_)
                      · have c18 : ¬ (chK (t r)) = 2 := c18
                        refine wn_ld (pc' := 192) (q := 0) (kin := 2) (v := .ref (2)) rfl (fun _ _ _ => rfl) rfl rfl ?_
                        refine wn_ld (pc' := 193) (q := 1) (kin := 0) (v := .int (nI (r))) rfl (fun _ _ _ => rfl) rfl rfl ?_
                        refine wn_put (pc' := 196) rfl rfl c_2_g14 (Nat.le_of_ble_eq_true rfl) ⟨rfl, rfl⟩ ?_
                        show Wn _ _ 196 _ [] (g14.set 2 (.inr (3, [.int (fk), .int (fp), .ref (lr), .ref (1), .int (nI (n)), .int (nI (2)), .int (nI (q)), .int (nI (r)), .int (nI (min (nvD t q (r - q)) 1000000))]))) _
                        have e1 : tkK t n p = 2 := by unfold tkK; rw [eF, if_pos hqn, hk]
                        have e2 : tkA t n p = r := by unfold tkA; rw [eF, if_pos hqn, hk, if_neg (by decide), if_pos rfl, ← hA]; exact rn_f (fun g => c18 g.2)
                        have e3 : nbC t n p = min (nvD t q (r - q)) 1000000 := by unfold nbC tkV; rw [e1, if_pos rfl, e2, eF]
                        exact wn_vret rfl rfl ⟨rfl, (Fr.st hf_g14 (by decide)), by unfold rdS rdO; rw [e1, e2, e3, eF]; exact (gs_self c_2_g14)⟩
                      · have c18 : (chK (t r)) = 2 := c18
                        refine wn_ld (pc' := 152) (q := 0) (kin := 2) (v := .ref (2)) rfl (fun _ _ _ => rfl) rfl rfl ?_
                        refine wn_get (pc' := 155) (v := .int (nI (2))) rfl rfl c_2_g14 rfl ?_
                        refine wn_ic (pc' := 156) (w := nI 2) rfl rfl (by decide) ?_
                        refine wn_icmpN (t := 185) (f := 159) rfl rfl rfl (by omega) (by omega) (fun c19 => ?_) (fun c19 => ?_)
                        · have c19 : ¬ 2 = 2 := c19
                          exact absurd c19 (by decide)
                        · have c19 : 2 = 2 := c19
                          refine wn_ld (pc' := 160) (q := 0) (kin := 2) (v := .ref (2)) rfl (fun _ _ _ => rfl) rfl rfl ?_
                          refine wn_ld (pc' := 161) (q := 0) (kin := 2) (v := .ref (2)) rfl (fun _ _ _ => rfl) rfl rfl ?_
                          refine wn_get (pc' := 164) (v := .int (nI (min (nvD t q (r - q)) 1000000))) rfl rfl c_2_g14 rfl ?_
                          refine wn_bp (pc' := 166) (w := nI 10) rfl rfl (by decide) ?_
                          refine wn_mulN (pc' := 167) rfl rfl ?_
                          refine wn_ld (pc' := 168) (q := 0) (kin := 2) (v := .ref (2)) rfl (fun _ _ _ => rfl) rfl rfl ?_
                          refine wn_get (pc' := 171) (v := .ref (1)) rfl rfl c_2_g14 rfl ?_
                          refine wn_ld (pc' := 172) (q := 1) (kin := 0) (v := .int (nI (r))) rfl (fun _ _ _ => rfl) rfl rfl ?_
                          have := (dgt_of c18).2.2.2
                          refine wn_baldv (pc' := 173) (j := r) (v := (nI (dgt (t r) + 48))) rfl rfl (Or.inl rfl) ((hf_g14.2 1 (by decide)).trans o1) rfl (by omega) (by decide) ((o1v _ (by omega)).trans (dgt_nI c18)) ?_
                          refine wn_addN (pc' := 174) rfl rfl ?_
                          refine wn_bp (pc' := 176) (w := nI 48) rfl rfl (by decide) ?_
                          refine wn_subN (pc' := 177) rfl rfl (by omega) ?_
                          refine wn_go (pc' := 179) (lv' := [(0, .ref (2)), (1, .int (nI (r))), (2, .int (nI (1)))]) (st' := [.int (1000000), .int (nI ((((min (nvD t q (r - q)) 1000000) * 10) + (dgt (t r) + 48)) - 48)), .ref (2)]) rfl (fun _ _ _ k9 => k9) ?_
                          refine wn_top (y := nI 1000000) (show (1000000 : Int32) = nI 1000000 by decide) ?_
                          refine wn_minN (pc' := 182) rfl rfl (Nat.le_of_ble_eq_true rfl) (by omega) (by omega) ?_
                          refine wn_put (pc' := 185) rfl rfl c_2_g14 (Nat.le_of_ble_eq_true rfl) ⟨rfl, rfl⟩ ?_
                          show Wn _ _ 185 _ [] (g14.set 2 (.inr (3, [.int (fk), .int (fp), .ref (lr), .ref (1), .int (nI (n)), .int (nI (2)), .int (nI (q)), .int (nI (p)), .int (nI (min ((((min (nvD t q (r - q)) 1000000) * 10) + (dgt (t r) + 48)) - 48) 1000000))]))) _
                          refine wn_incN (n := 1) (pc' := 188) (lv' := [(0, .ref (2)), (1, .int (nI (r + 1))), (2, .int (nI (1)))]) rfl rfl rfl (Nat.le_of_ble_eq_true rfl) rfl (by decide) ?_
                          refine wn_jp (pc' := 123) rfl rfl ?_
                          refine wn_weak (lv' := [(0, .ref (2)), (1, .int (nI (r + 1))), (2, .int (nI (1)))]) (by simp) ?_
                          have z9 := ih_lp15 (g14.set 2 (.inr (3, [.int (fk), .int (fp), .ref (lr), .ref (1), .int (nI (n)), .int (nI (2)), .int (nI (q)), .int (nI (p)), .int (nI (min ((((min (nvD t q (r - q)) 1000000) * 10) + (dgt (t r) + 48)) - 48) 1000000))]))) (r + 1) (by omega) (Fr.st hf_g14 (by decide)) (by rw [← nvd_s (by omega)]; exact (gs_self c_2_g14)) (by omega) (by omega) (by rw [← hA]; exact (rn_t (p := r) (by omega) c18).symm)
                          exact z9
              refine wn_weak (lv' := [(0, .ref (2)), (1, .int (nI (q + 1))), (2, .int (nI (1)))]) (by simp) ?_
              have z9 := lp15 (n + 1) (((((h.set 2 (.inr (3, [.int (fk), .int (fp), .ref (lr), .ref (1), .int (nI (n)), .int (k0), .int (nI (q)), .int (nI (p)), .int (n0)]))).set 2 (.inr (3, [.int (fk), .int (fp), .ref (lr), .ref (1), .int (nI (n)), .int (nI (0)), .int (nI (q)), .int (nI (p)), .int (n0)]))).set 2 (.inr (3, [.int (fk), .int (fp), .ref (lr), .ref (1), .int (nI (n)), .int (nI (0)), .int (nI (q)), .int (nI (p)), .int (nI (0))]))).set 2 (.inr (3, [.int (fk), .int (fp), .ref (lr), .ref (1), .int (nI (n)), .int (nI (2)), .int (nI (q)), .int (nI (p)), .int (nI (0))]))).set 2 (.inr (3, [.int (fk), .int (fp), .ref (lr), .ref (1), .int (nI (n)), .int (nI (2)), .int (nI (q)), .int (nI (p)), .int (nI ((dgt (t q) + 48) - 48))]))) (q + 1) (by omega) (Fr.st (Fr.st (Fr.st (Fr.st (Fr.st (Fr.rfl' [2] h) (by decide)) (by decide)) (by decide)) (by decide)) (by decide)) (by rw [← nvd_0 hk]; exact (gs_self (gs_self (gs_self (gs_self (gs_self o2)))))) (by omega) (by omega) (rn_t hqn hk).symm
              exact z9
      · refine wn_ld (pc' := 65) (q := 0) (kin := 2) (v := .ref (2)) rfl (fun _ _ _ => rfl) rfl rfl ?_
        refine wn_ld (pc' := 66) (q := 0) (kin := 2) (v := .ref (2)) rfl (fun _ _ _ => rfl) rfl rfl ?_
        refine wn_get (pc' := 69) (v := .ref (1)) rfl rfl (gs_self (gs_self (gs_self o2))) rfl ?_
        refine wn_ld (pc' := 70) (q := 1) (kin := 0) (v := .int (nI (q))) rfl (fun _ _ _ => rfl) rfl rfl ?_
        refine wn_baldv (pc' := 71) (j := q) (v := (t q)) rfl rfl (Or.inl rfl) (gs_ne (by decide) (gs_ne (by decide) (gs_ne (by decide) o1))) rfl (by omega) (by decide) (o1v _ (by omega)) ?_
        refine wn_staI (pc' := 74) rfl rfl (by decide) rfl rfl (Nat.le_of_ble_eq_true rfl) (x_kindOf _ _ (t q)) ?_
        rw [hk]
        refine wn_put (pc' := 77) rfl rfl (gs_self (gs_self (gs_self o2))) (Nat.le_of_ble_eq_true rfl) ⟨rfl, rfl⟩ ?_
        show Wn _ _ 77 _ [] ((((h.set 2 (.inr (3, [.int (fk), .int (fp), .ref (lr), .ref (1), .int (nI (n)), .int (k0), .int (nI (q)), .int (nI (p)), .int (n0)]))).set 2 (.inr (3, [.int (fk), .int (fp), .ref (lr), .ref (1), .int (nI (n)), .int (nI (0)), .int (nI (q)), .int (nI (p)), .int (n0)]))).set 2 (.inr (3, [.int (fk), .int (fp), .ref (lr), .ref (1), .int (nI (n)), .int (nI (0)), .int (nI (q)), .int (nI (p)), .int (nI (0))]))).set 2 (.inr (3, [.int (fk), .int (fp), .ref (lr), .ref (1), .int (nI (n)), .int (nI (3)), .int (nI (q)), .int (nI (p)), .int (nI (0))]))) _
        refine wn_ld (pc' := 78) (q := 0) (kin := 2) (v := .ref (2)) rfl (fun _ _ _ => rfl) rfl rfl ?_
        refine wn_get (pc' := 81) (v := .int (nI (3))) rfl rfl (gs_self (gs_self (gs_self (gs_self o2)))) rfl ?_
        refine wn_ic (pc' := 82) (w := nI 1) rfl rfl (by decide) ?_
        refine wn_icmpN (t := 93) (f := 85) rfl rfl rfl (by omega) (by omega) (fun c20 => ?_) (fun c20 => ?_)
        · have c20 : 3 = 1 := c20
          exact absurd c20 (by decide)
        · have c20 : ¬ 3 = 1 := c20
          refine wn_ld (pc' := 86) (q := 0) (kin := 2) (v := .ref (2)) rfl (fun _ _ _ => rfl) rfl rfl ?_
          refine wn_get (pc' := 89) (v := .int (nI (3))) rfl rfl (gs_self (gs_self (gs_self (gs_self o2)))) rfl ?_
          refine wn_ic (pc' := 90) (w := nI 2) rfl rfl (by decide) ?_
          refine wn_icmpN (t := 97) (f := 93) rfl rfl rfl (by omega) (by omega) (fun c21 => ?_) (fun c21 => ?_)
          · have c21 : ¬ 3 = 2 := c21
            refine wn_ic (pc' := 98) (w := nI 0) rfl rfl (by decide) ?_
            refine wn_st (pc' := 99) (q := 2) (kin := 0) (lv' := [(0, .ref (2)), (1, .int (nI (q))), (2, .int (nI (0)))]) rfl (fun _ _ _ => rfl) rfl (Nat.le_of_ble_eq_true rfl) rfl ?_
            refine wn_ld (pc' := 100) (q := 0) (kin := 2) (v := .ref (2)) rfl (fun _ _ _ => rfl) rfl rfl ?_
            refine wn_get (pc' := 103) (v := .int (nI (3))) rfl rfl (gs_self (gs_self (gs_self (gs_self o2)))) rfl ?_
            refine wn_ic (pc' := 104) (w := nI 2) rfl rfl (by decide) ?_
            refine wn_icmpN (t := 120) (f := 107) rfl rfl rfl (by omega) (by omega) (fun c22 => ?_) (fun c22 => ?_)
            · have c22 : ¬ 3 = 2 := c22
              refine wn_incN (n := 1) (pc' := 123) (lv' := [(0, .ref (2)), (1, .int (nI (q + 1))), (2, .int (nI (0)))]) rfl rfl rfl (Nat.le_of_ble_eq_true rfl) rfl (by decide) ?_
              refine wn_ld (pc' := 124) (q := 2) (kin := 0) (v := .int (nI (0))) rfl (fun _ _ _ => rfl) rfl rfl ?_
              refine wn_ifN (t := 191) (f := 127) rfl rfl rfl (by omega) (fun c23 => ?_) (fun c23 => ?_)
              · have c23 : 0 = 0 := c23
                refine wn_ld (pc' := 192) (q := 0) (kin := 2) (v := .ref (2)) rfl (fun _ _ _ => rfl) rfl rfl ?_
                refine wn_ld (pc' := 193) (q := 1) (kin := 0) (v := .int (nI (q + 1))) rfl (fun _ _ _ => rfl) rfl rfl ?_
                refine wn_put (pc' := 196) rfl rfl (gs_self (gs_self (gs_self (gs_self o2)))) (Nat.le_of_ble_eq_true rfl) ⟨rfl, rfl⟩ ?_
                show Wn _ _ 196 _ [] (((((h.set 2 (.inr (3, [.int (fk), .int (fp), .ref (lr), .ref (1), .int (nI (n)), .int (k0), .int (nI (q)), .int (nI (p)), .int (n0)]))).set 2 (.inr (3, [.int (fk), .int (fp), .ref (lr), .ref (1), .int (nI (n)), .int (nI (0)), .int (nI (q)), .int (nI (p)), .int (n0)]))).set 2 (.inr (3, [.int (fk), .int (fp), .ref (lr), .ref (1), .int (nI (n)), .int (nI (0)), .int (nI (q)), .int (nI (p)), .int (nI (0))]))).set 2 (.inr (3, [.int (fk), .int (fp), .ref (lr), .ref (1), .int (nI (n)), .int (nI (3)), .int (nI (q)), .int (nI (p)), .int (nI (0))]))).set 2 (.inr (3, [.int (fk), .int (fp), .ref (lr), .ref (1), .int (nI (n)), .int (nI (3)), .int (nI (q)), .int (nI (q + 1)), .int (nI (0))]))) _
                have e1 : tkK t n p = 3 := by unfold tkK; rw [eF, if_pos hqn, hk]
                have e2 : tkA t n p = q + 1 := by unfold tkA; rw [eF, if_pos hqn, hk, if_neg (by decide), if_neg (by decide)]
                have e3 : nbC t n p = 0 := by unfold nbC; rw [e1]; rfl
                exact wn_vret rfl rfl ⟨rfl, (Fr.st (Fr.st (Fr.st (Fr.st (Fr.st (Fr.rfl' [2] h) (by decide)) (by decide)) (by decide)) (by decide)) (by decide)), by unfold rdS rdO; rw [e1, e2, e3, eF]; exact (gs_self (gs_self (gs_self (gs_self (gs_self o2)))))⟩
              · have c23 : ¬ 0 = 0 := c23
                exact absurd c23 (by decide)
            · have c22 : 3 = 2 := c22
              exact absurd c22 (by decide)
          · have c21 : 3 = 2 := c21
            exact absurd c21 (by decide)
      · refine wn_ld (pc' := 65) (q := 0) (kin := 2) (v := .ref (2)) rfl (fun _ _ _ => rfl) rfl rfl ?_
        refine wn_ld (pc' := 66) (q := 0) (kin := 2) (v := .ref (2)) rfl (fun _ _ _ => rfl) rfl rfl ?_
        refine wn_get (pc' := 69) (v := .ref (1)) rfl rfl (gs_self (gs_self (gs_self o2))) rfl ?_
        refine wn_ld (pc' := 70) (q := 1) (kin := 0) (v := .int (nI (q))) rfl (fun _ _ _ => rfl) rfl rfl ?_
        refine wn_baldv (pc' := 71) (j := q) (v := (t q)) rfl rfl (Or.inl rfl) (gs_ne (by decide) (gs_ne (by decide) (gs_ne (by decide) o1))) rfl (by omega) (by decide) (o1v _ (by omega)) ?_
        refine wn_staI (pc' := 74) rfl rfl (by decide) rfl rfl (Nat.le_of_ble_eq_true rfl) (x_kindOf _ _ (t q)) ?_
        rw [hk]
        refine wn_put (pc' := 77) rfl rfl (gs_self (gs_self (gs_self o2))) (Nat.le_of_ble_eq_true rfl) ⟨rfl, rfl⟩ ?_
        show Wn _ _ 77 _ [] ((((h.set 2 (.inr (3, [.int (fk), .int (fp), .ref (lr), .ref (1), .int (nI (n)), .int (k0), .int (nI (q)), .int (nI (p)), .int (n0)]))).set 2 (.inr (3, [.int (fk), .int (fp), .ref (lr), .ref (1), .int (nI (n)), .int (nI (0)), .int (nI (q)), .int (nI (p)), .int (n0)]))).set 2 (.inr (3, [.int (fk), .int (fp), .ref (lr), .ref (1), .int (nI (n)), .int (nI (0)), .int (nI (q)), .int (nI (p)), .int (nI (0))]))).set 2 (.inr (3, [.int (fk), .int (fp), .ref (lr), .ref (1), .int (nI (n)), .int (nI (4)), .int (nI (q)), .int (nI (p)), .int (nI (0))]))) _
        refine wn_ld (pc' := 78) (q := 0) (kin := 2) (v := .ref (2)) rfl (fun _ _ _ => rfl) rfl rfl ?_
        refine wn_get (pc' := 81) (v := .int (nI (4))) rfl rfl (gs_self (gs_self (gs_self (gs_self o2)))) rfl ?_
        refine wn_ic (pc' := 82) (w := nI 1) rfl rfl (by decide) ?_
        refine wn_icmpN (t := 93) (f := 85) rfl rfl rfl (by omega) (by omega) (fun c24 => ?_) (fun c24 => ?_)
        · have c24 : 4 = 1 := c24
          exact absurd c24 (by decide)
        · have c24 : ¬ 4 = 1 := c24
          refine wn_ld (pc' := 86) (q := 0) (kin := 2) (v := .ref (2)) rfl (fun _ _ _ => rfl) rfl rfl ?_
          refine wn_get (pc' := 89) (v := .int (nI (4))) rfl rfl (gs_self (gs_self (gs_self (gs_self o2)))) rfl ?_
          refine wn_ic (pc' := 90) (w := nI 2) rfl rfl (by decide) ?_
          refine wn_icmpN (t := 97) (f := 93) rfl rfl rfl (by omega) (by omega) (fun c25 => ?_) (fun c25 => ?_)
          · have c25 : ¬ 4 = 2 := c25
            refine wn_ic (pc' := 98) (w := nI 0) rfl rfl (by decide) ?_
            refine wn_st (pc' := 99) (q := 2) (kin := 0) (lv' := [(0, .ref (2)), (1, .int (nI (q))), (2, .int (nI (0)))]) rfl (fun _ _ _ => rfl) rfl (Nat.le_of_ble_eq_true rfl) rfl ?_
            refine wn_ld (pc' := 100) (q := 0) (kin := 2) (v := .ref (2)) rfl (fun _ _ _ => rfl) rfl rfl ?_
            refine wn_get (pc' := 103) (v := .int (nI (4))) rfl rfl (gs_self (gs_self (gs_self (gs_self o2)))) rfl ?_
            refine wn_ic (pc' := 104) (w := nI 2) rfl rfl (by decide) ?_
            refine wn_icmpN (t := 120) (f := 107) rfl rfl rfl (by omega) (by omega) (fun c26 => ?_) (fun c26 => ?_)
            · have c26 : ¬ 4 = 2 := c26
              refine wn_incN (n := 1) (pc' := 123) (lv' := [(0, .ref (2)), (1, .int (nI (q + 1))), (2, .int (nI (0)))]) rfl rfl rfl (Nat.le_of_ble_eq_true rfl) rfl (by decide) ?_
              refine wn_ld (pc' := 124) (q := 2) (kin := 0) (v := .int (nI (0))) rfl (fun _ _ _ => rfl) rfl rfl ?_
              refine wn_ifN (t := 191) (f := 127) rfl rfl rfl (by omega) (fun c27 => ?_) (fun c27 => ?_)
              · have c27 : 0 = 0 := c27
                refine wn_ld (pc' := 192) (q := 0) (kin := 2) (v := .ref (2)) rfl (fun _ _ _ => rfl) rfl rfl ?_
                refine wn_ld (pc' := 193) (q := 1) (kin := 0) (v := .int (nI (q + 1))) rfl (fun _ _ _ => rfl) rfl rfl ?_
                refine wn_put (pc' := 196) rfl rfl (gs_self (gs_self (gs_self (gs_self o2)))) (Nat.le_of_ble_eq_true rfl) ⟨rfl, rfl⟩ ?_
                show Wn _ _ 196 _ [] (((((h.set 2 (.inr (3, [.int (fk), .int (fp), .ref (lr), .ref (1), .int (nI (n)), .int (k0), .int (nI (q)), .int (nI (p)), .int (n0)]))).set 2 (.inr (3, [.int (fk), .int (fp), .ref (lr), .ref (1), .int (nI (n)), .int (nI (0)), .int (nI (q)), .int (nI (p)), .int (n0)]))).set 2 (.inr (3, [.int (fk), .int (fp), .ref (lr), .ref (1), .int (nI (n)), .int (nI (0)), .int (nI (q)), .int (nI (p)), .int (nI (0))]))).set 2 (.inr (3, [.int (fk), .int (fp), .ref (lr), .ref (1), .int (nI (n)), .int (nI (4)), .int (nI (q)), .int (nI (p)), .int (nI (0))]))).set 2 (.inr (3, [.int (fk), .int (fp), .ref (lr), .ref (1), .int (nI (n)), .int (nI (4)), .int (nI (q)), .int (nI (q + 1)), .int (nI (0))]))) _
                have e1 : tkK t n p = 4 := by unfold tkK; rw [eF, if_pos hqn, hk]
                have e2 : tkA t n p = q + 1 := by unfold tkA; rw [eF, if_pos hqn, hk, if_neg (by decide), if_neg (by decide)]
                have e3 : nbC t n p = 0 := by unfold nbC; rw [e1]; rfl
                exact wn_vret rfl rfl ⟨rfl, (Fr.st (Fr.st (Fr.st (Fr.st (Fr.st (Fr.rfl' [2] h) (by decide)) (by decide)) (by decide)) (by decide)) (by decide)), by unfold rdS rdO; rw [e1, e2, e3, eF]; exact (gs_self (gs_self (gs_self (gs_self (gs_self o2)))))⟩
              · have c27 : ¬ 0 = 0 := c27
                exact absurd c27 (by decide)
            · have c26 : 4 = 2 := c26
              exact absurd c26 (by decide)
          · have c25 : 4 = 2 := c25
            exact absurd c25 (by decide)
  have lp28 : ∀ (n_lp28 : Nat) (q : Nat), n + 1 ≤ q + n_lp28 → p ≤ q → q ≤ n → rnE (fun x => blk (t x)) n q = tkF t n p → Wn (Rn (d + 1)) 40 5 [(0, .ref (2)), (1, .int (nI (q)))] [] (h) (fun r9 h9 => r9 = none ∧ Fr [2] h h9 ∧ isO h9 2 3 (rdS t lr fk fp n p)) := by
    intro n_lp28
    induction n_lp28 with
    | zero => intro q hm_lp28 hq1 hq2 hF; exfalso; omega
    | succ n_lp28 ih_lp28 =>
      intro q hm_lp28 hq1 hq2 hF
      refine wn_ld (pc' := 6) (q := 1) (kin := 0) (v := .int (nI (q))) rfl (fun _ _ _ => rfl) rfl rfl ?_
      refine wn_ld (pc' := 7) (q := 0) (kin := 2) (v := .ref (2)) rfl (fun _ _ _ => rfl) rfl rfl ?_
      refine wn_get (pc' := 10) (v := .int (nI (n))) rfl rfl o2 rfl ?_
      refine wn_icmpN (t := 41) (f := 13) rfl rfl rfl (by omega) (by omega) (fun c29 => ?_) (fun c29 => ?_)
      · have c29 : n ≤ q := c29
        refine wn_weak (lv' := [(0, .ref (2)), (1, .int (nI (q)))]) (by simp) ?_
        have z9 := jn1 q (by omega) (by omega) (hF.symm.trans (rn_f (fun g => by have := g.1; omega)))
        exact z9
      · have c29 : q < n := c29
        refine wn_ld (pc' := 14) (q := 0) (kin := 2) (v := .ref (2)) rfl (fun _ _ _ => rfl) rfl rfl ?_
        refine wn_get (pc' := 17) (v := .ref (1)) rfl rfl o2 rfl ?_
        refine wn_ld (pc' := 18) (q := 1) (kin := 0) (v := .int (nI (q))) rfl (fun _ _ _ => rfl) rfl rfl ?_
        refine wn_baldv (pc' := 19) (j := q) (v := (t q)) rfl rfl (Or.inl rfl) o1 rfl (by omega) (by decide) (o1v _ (by omega)) ?_
        refine wn_bp (pc' := 21) (w := nI 32) rfl rfl (by decide) ?_
        refine wn_icmp (t := 35) (f := 24) rfl rfl rfl (fun c30 => ?_) (fun c30 => ?_)
        · have c30 : ((t q)) = ((nI (32))) := c30
          refine wn_incN (n := 1) (pc' := 38) (lv' := [(0, .ref (2)), (1, .int (nI (q + 1)))]) rfl rfl rfl (Nat.le_of_ble_eq_true rfl) rfl (by decide) ?_
          refine wn_jp (pc' := 5) rfl rfl ?_
          refine wn_weak (lv' := [(0, .ref (2)), (1, .int (nI (q + 1)))]) (by simp) ?_
          have z9 := ih_lp28 (q + 1) (by omega) (by omega) (by omega) (by rw [← hF]; exact (rn_t (p := q) (by omega) (Or.inl c30)).symm)
          exact z9
        · have c30 : ¬ ((t q)) = ((nI (32))) := c30
          refine wn_ld (pc' := 25) (q := 0) (kin := 2) (v := .ref (2)) rfl (fun _ _ _ => rfl) rfl rfl ?_
          refine wn_get (pc' := 28) (v := .ref (1)) rfl rfl o2 rfl ?_
          refine wn_ld (pc' := 29) (q := 1) (kin := 0) (v := .int (nI (q))) rfl (fun _ _ _ => rfl) rfl rfl ?_
          refine wn_baldv (pc' := 30) (j := q) (v := (t q)) rfl rfl (Or.inl rfl) o1 rfl (by omega) (by decide) (o1v _ (by omega)) ?_
          refine wn_bp (pc' := 32) (w := nI 10) rfl rfl (by decide) ?_
          refine wn_icmp (t := 41) (f := 35) rfl rfl rfl (fun c31 => ?_) (fun c31 => ?_)
          · have c31 : ¬ ((t q)) = ((nI (10))) := c31
            refine wn_weak (lv' := [(0, .ref (2)), (1, .int (nI (q)))]) (by simp) ?_
            have z9 := jn1 q (by omega) (by omega) (hF.symm.trans (rn_f (fun g => g.2.elim c30 c31)))
            exact z9
          · have c31 : ((t q)) = ((nI (10))) := c31
            refine wn_incN (n := 1) (pc' := 38) (lv' := [(0, .ref (2)), (1, .int (nI (q + 1)))]) rfl rfl rfl (Nat.le_of_ble_eq_true rfl) rfl (by decide) ?_
            refine wn_jp (pc' := 5) rfl rfl ?_
            refine wn_weak (lv' := [(0, .ref (2)), (1, .int (nI (q + 1)))]) (by simp) ?_
            have z9 := ih_lp28 (q + 1) (by omega) (by omega) (by omega) (by rw [← hF]; exact (rn_t (p := q) (by omega) (Or.inr c31)).symm)
            exact z9
  refine wn_weak (lv' := [(0, .ref (2)), (1, .int (nI (p)))]) (by simp) ?_
  have z9 := lp28 (n + 1) p (by omega) (by omega) (by omega) rfl
  exact z9

