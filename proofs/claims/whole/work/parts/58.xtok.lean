/-! THE CLASS'S READER: words, numbers, faults -/
theorem wn_slen {C : aC} {i pc : Nat} {lv : aL} {st : List Value} {h : aH} {Q : Option Value → aH → Prop} {ix b q pc' : Nat} (hi : ins i pc = some (.invokevirtual ix, 1004, b)) (hn : pc + 3 = pc') (hq : q < 20) (h8 : (st.map fun v => v.category).sum ≤ 8) (k : Wn C i pc' lv (.int (nI (lit q).length) :: st) h Q) : Wn C i pc lv (.retAddr q :: st) h Q := by
  subst hn
  exact wn_go hi (fun K r h1 k9 => ⟨q, st, rfl, hq, h8, k9⟩) k
theorem wn_schr {C : aC} {i pc : Nat} {lv : aL} {st : List Value} {h : aH} {Q : Option Value → aH → Prop} {ix b q j pc' : Nat} (hi : ins i pc = some (.invokevirtual ix, 1005, b)) (hn : pc + 3 = pc') (hq : q < 20) (h8 : (st.map fun v => v.category).sum ≤ 8) (hj : j < (lit q).length) (hl : (lit q).length < 2 ^ 31) (k : Wn C i pc' lv (.int ((lit q).getD j 0) :: st) h Q) : Wn C i pc lv (.int (nI j) :: .retAddr q :: st) h Q := by
  subst hn
  exact wn_go hi (fun K r h1 k9 => ⟨nI j, q, st, rfl, hq, h8, vp_in_nI hj hl, by rw [nI_clamp (by omega)]; exact k9⟩) k
theorem lit_le : ∀ q, q < 20 → (lit q).length ≤ 10 := by decide
def isWd (t : Nat → Int32) (n p q : Nat) : Prop := tkK t n p = 1 ∧ tkA t n p - tkF t n p = (lit q).length ∧ ∀ i, i < (lit q).length → t (tkF t n p + i) = (lit q).getD i 0
noncomputable def wdP (t : Nat → Int32) (n p q : Nat) : Nat := @ite Nat (isWd t n p q) (Classical.propDecidable _) (tkA t n p) p
theorem wdP_t {t : Nat → Int32} {n p q : Nat} (h : isWd t n p q) : wdP t n p q = tkA t n p := if_pos h
theorem wdP_f {t : Nat → Int32} {n p q : Nat} (h : ¬ isWd t n p q) : wdP t n p q = p := if_neg h
theorem wdP_le {t : Nat → Int32} {n p q : Nat} (h : p ≤ n) : wdP t n p q ≤ n := by
  by_cases c : isWd t n p q
  · rw [wdP_t c]; exact tkA_le h
  · rw [wdP_f c]; exact h
theorem x_tryWord (d : Nat) (h : aH) (t ct : Nat → Int32) (n p lr : Nat) (fk fp : Int32) (hn : n ≤ 1200) (hp : p ≤ n) (o1 : isB h 1 1200 ct) (o1v : ∀ x, x < 1200 → ct x = t x) (o2 : isO h 2 3 (rdS t lr fk fp n p)) (q : Nat) (hq : q < 20) : Sp (Rn (d + 3)) 37 [.ref (2), .retAddr q] h (fun r9 h9 => r9 = some (.int (bI (isWd t n p q))) ∧ Fr [2] h h9 ∧ isO h9 2 3 (rdS t lr fk fp n (wdP t n p q))) := by
  have hF := tkF_le (t := t) hp
  have hA := tkA_ge (t := t) (n := n) (p := p)
  have hA2 := tkA_le (t := t) hp
  have hK := tkK_le (t := t) (n := n) (p := p)
  have hll := lit_le q hq
  refine Sp_of (by decide) (Nat.le_of_ble_eq_true rfl) ?_
  show Wn _ _ 0 [(0, .ref (2)), (1, .retAddr q)] [] _ _
  refine wn_ld (pc' := 1) (q := 0) (kin := 2) (v := .ref (2)) rfl (fun _ _ _ => rfl) rfl rfl ?_
  refine wn_get (pc' := 4) (v := .int (nI (tkK t n p))) rfl rfl o2 rfl ?_
  refine wn_ic (pc' := 5) (w := nI 1) rfl rfl (by decide) ?_
  refine wn_icmpN (t := 24) (f := 8) rfl rfl rfl (by omega) (by omega) (fun c1 => ?_) (fun c1 => ?_)
  · have c1 : ¬ (tkK t n p) = 1 := c1
    refine wn_ic (pc' := 25) (w := nI 0) rfl rfl (by decide) ?_
    have nW : ¬ isWd t n p q := fun q => by have := q.1; have := q.2.1; omega
    exact wn_iret rfl rfl (by decide) ⟨congrArg (fun z => some (Value.int z)) (bI_f0 nW), Fr.rfl' [2] h, by rw [wdP_f nW]; exact o2⟩
  · have c1 : (tkK t n p) = 1 := c1
    refine wn_ld (pc' := 9) (q := 0) (kin := 2) (v := .ref (2)) rfl (fun _ _ _ => rfl) rfl rfl ?_
    refine wn_get (pc' := 12) (v := .int (nI (tkA t n p))) rfl rfl o2 rfl ?_
    refine wn_ld (pc' := 13) (q := 0) (kin := 2) (v := .ref (2)) rfl (fun _ _ _ => rfl) rfl rfl ?_
    refine wn_get (pc' := 16) (v := .int (nI (tkF t n p))) rfl rfl o2 rfl ?_
    refine wn_subN (pc' := 17) rfl rfl (by omega) ?_
    refine wn_ld (pc' := 18) (q := 1) (kin := 2) (v := .retAddr q) rfl (fun _ _ _ => rfl) rfl rfl ?_
    refine wn_slen (pc' := 21) rfl rfl (by omega) (Nat.le_of_ble_eq_true rfl) ?_
    refine wn_icmpN (t := 26) (f := 24) rfl rfl rfl (by omega) (by omega) (fun c2 => ?_) (fun c2 => ?_)
    · have c2 : ((tkA t n p) - (tkF t n p)) = ((lit q).length) := c2
      refine wn_ic (pc' := 27) (w := nI 0) rfl rfl (by decide) ?_
      refine wn_st (pc' := 28) (q := 2) (kin := 0) (lv' := [(0, .ref (2)), (1, .retAddr q), (2, .int (nI (0)))]) rfl (fun _ _ _ => rfl) rfl (Nat.le_of_ble_eq_true rfl) rfl ?_
      have w0 : tkK t n p = 1 ∧ tkA t n p - tkF t n p = (lit q).length := ⟨by omega, by omega⟩
      have lp3 : ∀ (n_lp3 : Nat) (i : Nat), ((lit q).length) + 1 ≤ i + n_lp3 → i ≤ (lit q).length → (∀ x, x < i → t (tkF t n p + x) = (lit q).getD x 0) → Wn (Rn (d + 2)) 37 28 [(0, .ref (2)), (1, .retAddr q), (2, .int (nI (i)))] [] (h) (fun r9 h9 => r9 = some (.int (bI (isWd t n p q))) ∧ Fr [2] h h9 ∧ isO h9 2 3 (rdS t lr fk fp n (wdP t n p q))) := by
        intro n_lp3
        induction n_lp3 with
        | zero => intro i hm_lp3 hi1 hi2; exfalso; omega
        | succ n_lp3 ih_lp3 =>
          intro i hm_lp3 hi1 hi2
          refine wn_ld (pc' := 29) (q := 2) (kin := 0) (v := .int (nI (i))) rfl (fun _ _ _ => rfl) rfl rfl ?_
          refine wn_ld (pc' := 30) (q := 1) (kin := 2) (v := .retAddr q) rfl (fun _ _ _ => rfl) rfl rfl ?_
          refine wn_slen (pc' := 33) rfl rfl (by omega) (Nat.le_of_ble_eq_true rfl) ?_
          refine wn_icmpN (t := 63) (f := 36) rfl rfl rfl (by omega) (by omega) (fun c4 => ?_) (fun c4 => ?_)
          · have c4 : ((lit q).length) ≤ i := c4
            refine wn_ld (pc' := 64) (q := 0) (kin := 2) (v := .ref (2)) rfl (fun _ _ _ => rfl) rfl rfl ?_
            refine wn_virS (pc' := 67) rfl rfl (by decide) rfl rfl o2 (Nat.le_of_ble_eq_true rfl) (x_advance _ _ t ct n (tkA t n p) lr fk fp _ _ _ hn (by omega) o1 o1v o2) (fun r9 h5 e6 => ?_)
            obtain ⟨rfl, f_h5, o_h5⟩ := e6
            show Wn _ _ 67 _ [] h5 _
            refine wn_ic (pc' := 68) (w := nI 1) rfl rfl (by decide) ?_
            have yW : isWd t n p q := ⟨w0.1, w0.2, fun x hx => hi2 x (by omega)⟩
            exact wn_iret rfl rfl (by decide) ⟨congrArg (fun z => some (Value.int z)) (bI_t1 yW), (Fr.tr (Fr.rfl' [2] h) f_h5 (fun _ q => q)), by rw [wdP_t yW]; exact o_h5⟩
          · have c4 : i < ((lit q).length) := c4
            refine wn_ld (pc' := 37) (q := 0) (kin := 2) (v := .ref (2)) rfl (fun _ _ _ => rfl) rfl rfl ?_
            refine wn_get (pc' := 40) (v := .ref (1)) rfl rfl o2 rfl ?_
            refine wn_ld (pc' := 41) (q := 0) (kin := 2) (v := .ref (2)) rfl (fun _ _ _ => rfl) rfl rfl ?_
            refine wn_get (pc' := 44) (v := .int (nI (tkF t n p))) rfl rfl o2 rfl ?_
            refine wn_ld (pc' := 45) (q := 2) (kin := 0) (v := .int (nI (i))) rfl (fun _ _ _ => rfl) rfl rfl ?_
            refine wn_addN (pc' := 46) rfl rfl ?_
            refine wn_baldv (pc' := 47) (j := (tkF t n p) + i) (v := (t ((tkF t n p) + i))) rfl rfl (Or.inl rfl) o1 rfl (by omega) (by decide) (o1v _ (by omega)) ?_
            refine wn_ld (pc' := 48) (q := 1) (kin := 2) (v := .retAddr q) rfl (fun _ _ _ => rfl) rfl rfl ?_
            refine wn_ld (pc' := 49) (q := 2) (kin := 0) (v := .int (nI (i))) rfl (fun _ _ _ => rfl) rfl rfl ?_
            refine wn_schr (pc' := 52) (j := i) rfl rfl (by omega) (Nat.le_of_ble_eq_true rfl) (by omega) (by omega) ?_
            refine wn_icmp (t := 57) (f := 55) rfl rfl rfl (fun c7 => ?_) (fun c7 => ?_)
            · have c7 : ((t ((tkF t n p) + i))) = (((lit q).getD i 0)) := c7
              refine wn_incN (n := 1) (pc' := 60) (lv' := [(0, .ref (2)), (1, .retAddr q), (2, .int (nI (i + 1)))]) rfl rfl rfl (Nat.le_of_ble_eq_true rfl) rfl (by decide) ?_
              refine wn_jp (pc' := 28) rfl rfl ?_
              refine wn_weak (lv' := [(0, .ref (2)), (1, .retAddr q), (2, .int (nI (i + 1)))]) (by simp) ?_
              have z9 := ih_lp3 (i + 1) (by omega) (by omega) (fun x hx => by by_cases e : x = i; (subst e; exact c7); exact hi2 x (by omega))
              exact z9
            · have c7 : ¬ ((t ((tkF t n p) + i))) = (((lit q).getD i 0)) := c7
              refine wn_ic (pc' := 56) (w := nI 0) rfl rfl (by decide) ?_
              have nW : ¬ isWd t n p q := fun q => c7 (q.2.2 i (by omega))
              exact wn_iret rfl rfl (by decide) ⟨congrArg (fun z => some (Value.int z)) (bI_f0 nW), Fr.rfl' [2] h, by rw [wdP_f nW]; exact o2⟩
      refine wn_weak (lv' := [(0, .ref (2)), (1, .retAddr q), (2, .int (nI (0)))]) (by simp) ?_
      have z9 := lp3 (((lit q).length) + 1) 0 (by omega) (by omega) (fun _ q => absurd q (by omega))
      exact z9
    · have c2 : ¬ ((tkA t n p) - (tkF t n p)) = ((lit q).length) := c2
      refine wn_ic (pc' := 25) (w := nI 0) rfl rfl (by decide) ?_
      have nW : ¬ isWd t n p q := fun q => by have := q.1; have := q.2.1; omega
      exact wn_iret rfl rfl (by decide) ⟨congrArg (fun z => some (Value.int z)) (bI_f0 nW), Fr.rfl' [2] h, by rw [wdP_f nW]; exact o2⟩

theorem x_refuse0 (d : Nat) (h : aH) (lr n : Nat) (fp k1 k2 k3 k4 : Int32) (o2 : isO h 2 3 [.int (nI 0), .int fp, .ref lr, .ref 1, .int (nI n), .int k1, .int k2, .int k3, .int k4]) (a s : Int32) : Sp (Rn (d + 1)) 39 [.ref (2), .int (a), .int (s)] h (fun r9 h9 => r9 = none ∧ Fr [2] h h9 ∧ isO h9 2 3 [.int a, .int s, .ref lr, .ref 1, .int (nI n), .int k1, .int k2, .int k3, .int k4]) := by
  refine Sp_of (by decide) (Nat.le_of_ble_eq_true rfl) ?_
  show Wn _ _ 0 [(0, .ref (2)), (1, .int (a)), (2, .int (s))] [] _ _
  refine wn_ld (pc' := 1) (q := 0) (kin := 2) (v := .ref (2)) rfl (fun _ _ _ => rfl) rfl rfl ?_
  refine wn_get (pc' := 4) (v := .int (nI (0))) rfl rfl o2 rfl ?_
  refine wn_ifN (t := 17) (f := 7) rfl rfl rfl (by omega) (fun c1 => ?_) (fun c1 => ?_)
  · have c1 : ¬ 0 = 0 := c1
    exact absurd c1 (by decide)
  · have c1 : 0 = 0 := c1
    refine wn_ld (pc' := 8) (q := 0) (kin := 2) (v := .ref (2)) rfl (fun _ _ _ => rfl) rfl rfl ?_
    refine wn_ld (pc' := 9) (q := 1) (kin := 0) (v := .int (a)) rfl (fun _ _ _ => rfl) rfl rfl ?_
    refine wn_put (pc' := 12) rfl rfl o2 (Nat.le_of_ble_eq_true rfl) ⟨rfl, rfl⟩ ?_
    show Wn _ _ 12 _ [] (h.set 2 (.inr (3, [.int (a), .int (fp), .ref (lr), .ref (1), .int (nI (n)), .int (k1), .int (k2), .int (k3), .int (k4)]))) _
    refine wn_ld (pc' := 13) (q := 0) (kin := 2) (v := .ref (2)) rfl (fun _ _ _ => rfl) rfl rfl ?_
    refine wn_ld (pc' := 14) (q := 2) (kin := 0) (v := .int (s)) rfl (fun _ _ _ => rfl) rfl rfl ?_
    refine wn_put (pc' := 17) rfl rfl (gs_self o2) (Nat.le_of_ble_eq_true rfl) ⟨rfl, rfl⟩ ?_
    show Wn _ _ 17 _ [] ((h.set 2 (.inr (3, [.int (a), .int (fp), .ref (lr), .ref (1), .int (nI (n)), .int (k1), .int (k2), .int (k3), .int (k4)]))).set 2 (.inr (3, [.int (a), .int (s), .ref (lr), .ref (1), .int (nI (n)), .int (k1), .int (k2), .int (k3), .int (k4)]))) _
    exact wn_vret rfl rfl ⟨rfl, (Fr.st (Fr.st (Fr.rfl' [2] h) (by decide)) (by decide)), (gs_self (gs_self o2))⟩

theorem x_refuseB (d : Nat) (h : aH) (lr n : Nat) (fk fp k1 k2 k3 k4 : Int32) (o2 : isO h 2 3 [.int fk, .int fp, .ref lr, .ref 1, .int (nI n), .int k1, .int k2, .int k3, .int k4]) (a s : Int32) (hb : ¬ fk = 0) : Sp (Rn (d + 1)) 39 [.ref (2), .int (a), .int (s)] h (fun r9 h9 => r9 = none ∧ h9 = h) := by
  refine Sp_of (by decide) (Nat.le_of_ble_eq_true rfl) ?_
  show Wn _ _ 0 [(0, .ref (2)), (1, .int (a)), (2, .int (s))] [] _ _
  refine wn_ld (pc' := 1) (q := 0) (kin := 2) (v := .ref (2)) rfl (fun _ _ _ => rfl) rfl rfl ?_
  refine wn_get (pc' := 4) (v := .int (fk)) rfl rfl o2 rfl ?_
  refine wn_ifc (t := 17) (f := 7) rfl rfl rfl (fun c1 => ?_) (fun c1 => ?_)
  · have c1 : ¬ ((fk)) = 0 := c1
    exact wn_vret rfl rfl ⟨rfl, rfl⟩
  · have c1 : ((fk)) = 0 := c1
    exact absurd c1 hb

