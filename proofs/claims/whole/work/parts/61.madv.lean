/-! THE REFERENCE'S advance -/
theorem chK_3 {b : Int32} : b = nI 59 ↔ chK b = 3 := by
  have e59 : (nI 59).toInt = 59 := by decide
  constructor
  · intro h; subst h; decide
  · intro h
    apply Int32.toInt_inj.mp
    rw [e59]
    unfold chK at h
    split at h
    · omega
    · split at h
      · omega
      · split at h
        · assumption
        · omega
theorem nm_s {t : Nat → Int32} {q r : Nat} (h : q ≤ r) : min 9999 (10 * min 9999 (nvD t q (r - q)) + (dgt (t r) + 48) - 48) = min 9999 (nvD t q (r + 1 - q)) := by
  rw [show r + 1 - q = r - q + 1 by omega]
  show _ = min 9999 (10 * nvD t q (r - q) + dgt (t (q + (r - q))))
  rw [show q + (r - q) = r by omega]
  omega
theorem nm_0 {t : Nat → Int32} {q : Nat} : 0 = min 9999 (nvD t q (q - q)) := by
  rw [Nat.sub_self]; rfl
theorem m_advance (d : Nat) (h : aH) (t : Nat → Int32) (n p : Nat) (hn : n ≤ 1200) (hp : p ≤ n) (hb : byT t) (th tl fr tk vl fk fp il : Int32) (up lo : Int64) (q0 : isO h 71 9 (MoF th tl (nI n) (nI p) fr tk vl fk fp il up lo)) (q4 : isB h 75 1200 t) : Sp (Rn (d + 2)) 158 [.ref (71)] h (fun r9 h9 => r9 = none ∧ Fr [71] h h9 ∧ ∃ vl', (tkK t n p = 2 → vl' = nI (min 9999 (tkV t n p))) ∧ isO h9 71 9 (MoF th tl (nI n) (nI (tkA t n p)) (nI (tkF t n p)) (nI (tkK t n p)) vl' fk fp il up lo)) := by
  refine Sp_of (by decide) (Nat.le_of_ble_eq_true rfl) ?_
  show Wn _ _ 0 [(0, .ref (71))] [] _ _
  have lp2 : ∀ (n_lp2 : Nat) (g1 : aH) (q : Nat), n + 1 ≤ q + n_lp2 → Fr [71] h g1 → isO g1 71 9 [.int (th), .ref (72), .ref (73), .ref (74), .ref (75), .int (tl), .ref (76), .int (nI (n)), .int (nI (q)), .int (fr), .int (tk), .int (vl), .int (fk), .int (fp), .ref (77), .int (il), .ref (78), .ref (79), .ref (80), .long (up), .long (lo), .ref (81), .ref (82), .ref (83), .ref (84)] → p ≤ q → q ≤ n → rnE (fun x => blk (t x)) n q = tkF t n p → Wn (Rn (d + 1)) 158 0 [(0, .ref (71))] [] (g1) (fun r9 h9 => r9 = none ∧ Fr [71] h h9 ∧ ∃ vl', (tkK t n p = 2 → vl' = nI (min 9999 (tkV t n p))) ∧ isO h9 71 9 (MoF th tl (nI n) (nI (tkA t n p)) (nI (tkF t n p)) (nI (tkK t n p)) vl' fk fp il up lo)) := by
    intro n_lp2
    induction n_lp2 with
    | zero => intro g1 q hm_lp2 hf_g1 c_71_g1 hq1 hq2 hF; exfalso; omega
    | succ n_lp2 ih_lp2 =>
      intro g1 q hm_lp2 hf_g1 c_71_g1 hq1 hq2 hF
      refine wn_ld (pc' := 1) (q := 0) (kin := 2) (v := .ref (71)) rfl (fun _ _ _ => rfl) rfl rfl ?_
      refine wn_ld (pc' := 2) (q := 0) (kin := 2) (v := .ref (71)) rfl (fun _ _ _ => rfl) rfl rfl ?_
      refine wn_get (pc' := 5) (v := .int (nI (q))) rfl rfl c_71_g1 rfl ?_
      refine wn_virI (pc' := 8) rfl rfl (by decide) rfl rfl c_71_g1 (Nat.le_of_ble_eq_true rfl) (m_see _ _ t n (q) hn (by omega) _ _ _ _ _ _ _ _ _ _ _ c_71_g1 ((hf_g1.2 75 (by decide)).trans q4)) ?_
      refine wn_bp (pc' := 10) (w := nI 32) rfl rfl (by decide) ?_
      refine wn_icmp (t := 26) (f := 13) rfl rfl rfl (fun c3 => ?_) (fun c3 => ?_)
      · have c3 : ((seV t n q)) = ((nI (32))) := c3
        refine wn_ld (pc' := 27) (q := 0) (kin := 2) (v := .ref (71)) rfl (fun _ _ _ => rfl) rfl rfl ?_
        refine wn_pu (pc' := 28) (st' := [.ref (71), .ref (71)]) rfl (fun _ _ _ => rfl) rfl rfl ?_
        refine wn_get (pc' := 31) (v := .int (nI (q))) rfl rfl c_71_g1 rfl ?_
        refine wn_ic (pc' := 32) (w := nI 1) rfl rfl (by decide) ?_
        refine wn_addN (pc' := 33) rfl rfl ?_
        refine wn_put (pc' := 36) rfl rfl c_71_g1 (Nat.le_of_ble_eq_true rfl) ⟨rfl, rfl⟩ ?_
        show Wn _ _ 36 _ [] (g1.set 71 (.inr (9, [.int (th), .ref (72), .ref (73), .ref (74), .ref (75), .int (tl), .ref (76), .int (nI (n)), .int (nI (q + 1)), .int (fr), .int (tk), .int (vl), .int (fk), .int (fp), .ref (77), .int (il), .ref (78), .ref (79), .ref (80), .long (up), .long (lo), .ref (81), .ref (82), .ref (83), .ref (84)]))) _
        refine wn_jp (pc' := 0) rfl rfl ?_
        refine wn_weak (lv' := [(0, .ref (71))]) (by simp) ?_
        have z9 := ih_lp2 (g1.set 71 (.inr (9, [.int (th), .ref (72), .ref (73), .ref (74), .ref (75), .int (tl), .ref (76), .int (nI (n)), .int (nI (q + 1)), .int (fr), .int (tk), .int (vl), .int (fk), .int (fp), .ref (77), .int (il), .ref (78), .ref (79), .ref (80), .long (up), .long (lo), .ref (81), .ref (82), .ref (83), .ref (84)]))) (q + 1) (by omega) (Fr.st hf_g1 (by decide)) (gs_self c_71_g1) (by omega) (by have := ((se_c (c := 32) (by omega) hb hn).mp c3).1; omega) (by rw [← hF]; exact (rn_t (p := q) ((se_c (c := 32) (by omega) hb hn).mp c3).1 (Or.inl ((se_c (c := 32) (by omega) hb hn).mp c3).2)).symm)
        exact z9
      · have c3 : ¬ ((seV t n q)) = ((nI (32))) := c3
        refine wn_ld (pc' := 14) (q := 0) (kin := 2) (v := .ref (71)) rfl (fun _ _ _ => rfl) rfl rfl ?_
        refine wn_ld (pc' := 15) (q := 0) (kin := 2) (v := .ref (71)) rfl (fun _ _ _ => rfl) rfl rfl ?_
        refine wn_get (pc' := 18) (v := .int (nI (q))) rfl rfl c_71_g1 rfl ?_
        refine wn_virI (pc' := 21) rfl rfl (by decide) rfl rfl c_71_g1 (Nat.le_of_ble_eq_true rfl) (m_see _ _ t n (q) hn (by omega) _ _ _ _ _ _ _ _ _ _ _ c_71_g1 ((hf_g1.2 75 (by decide)).trans q4)) ?_
        refine wn_bp (pc' := 23) (w := nI 10) rfl rfl (by decide) ?_
        refine wn_icmp (t := 39) (f := 26) rfl rfl rfl (fun c4 => ?_) (fun c4 => ?_)
        · have c4 : ¬ ((seV t n q)) = ((nI (10))) := c4
          have eF : tkF t n p = q := hF.symm.trans (rn_f (fun g => g.2.elim (fun e => c3 ((se_c (c := 32) (by omega) hb hn).mpr ⟨g.1, e⟩)) (fun e => c4 ((se_c (c := 10) (by omega) hb hn).mpr ⟨g.1, e⟩))))
          refine wn_ld (pc' := 40) (q := 0) (kin := 2) (v := .ref (71)) rfl (fun _ _ _ => rfl) rfl rfl ?_
          refine wn_ld (pc' := 41) (q := 0) (kin := 2) (v := .ref (71)) rfl (fun _ _ _ => rfl) rfl rfl ?_
          refine wn_get (pc' := 44) (v := .int (nI (q))) rfl rfl c_71_g1 rfl ?_
          refine wn_put (pc' := 47) rfl rfl c_71_g1 (Nat.le_of_ble_eq_true rfl) ⟨rfl, rfl⟩ ?_
          show Wn _ _ 47 _ [] (g1.set 71 (.inr (9, [.int (th), .ref (72), .ref (73), .ref (74), .ref (75), .int (tl), .ref (76), .int (nI (n)), .int (nI (q)), .int (nI (q)), .int (tk), .int (vl), .int (fk), .int (fp), .ref (77), .int (il), .ref (78), .ref (79), .ref (80), .long (up), .long (lo), .ref (81), .ref (82), .ref (83), .ref (84)]))) _
          refine wn_ld (pc' := 48) (q := 0) (kin := 2) (v := .ref (71)) rfl (fun _ _ _ => rfl) rfl rfl ?_
          refine wn_ld (pc' := 49) (q := 0) (kin := 2) (v := .ref (71)) rfl (fun _ _ _ => rfl) rfl rfl ?_
          refine wn_get (pc' := 52) (v := .int (nI (q))) rfl rfl (gs_self c_71_g1) rfl ?_
          refine wn_virI (pc' := 55) rfl rfl (by decide) rfl rfl (gs_self c_71_g1) (Nat.le_of_ble_eq_true rfl) (m_see _ _ t n (q) hn (by omega) _ _ _ _ _ _ _ _ _ _ _ (gs_self c_71_g1) (gs_ne (by decide) ((hf_g1.2 75 (by decide)).trans q4))) ?_
          refine wn_st (pc' := 56) (q := 1) (kin := 0) (lv' := [(0, .ref (71)), (1, .int (seV t n q))]) rfl (fun _ _ _ => rfl) rfl (Nat.le_of_ble_eq_true rfl) rfl ?_
          refine wn_ld (pc' := 57) (q := 1) (kin := 0) (v := .int (seV t n q)) rfl (fun _ _ _ => rfl) rfl rfl ?_
          refine wn_ic (pc' := 58) (w := -1) rfl rfl (by decide) ?_
          refine wn_icmp (t := 69) (f := 61) rfl rfl rfl (fun c5 => ?_) (fun c5 => ?_)
          · have c5 : ¬ ((seV t n q)) = ((-1)) := c5
            refine wn_ld (pc' := 70) (q := 1) (kin := 0) (v := .int (seV t n q)) rfl (fun _ _ _ => rfl) rfl rfl ?_
            refine wn_pu (pc' := 71) (st' := [.long (Int32.toInt64 (seV t n q))]) rfl (fun _ _ _ => rfl) rfl rfl ?_
            refine wn_go (pc' := 74) (lv' := [(0, .ref (71)), (1, .int (seV t n q))]) (st' := [.long ((97 : Int64)), .long (Int32.toInt64 (seV t n q))]) rfl (fun _ _ _ k9 => k9) ?_
            refine wn_go (pc' := 77) (lv' := [(0, .ref (71)), (1, .int (seV t n q))]) (st' := [.long ((122 : Int64)), .long ((97 : Int64)), .long (Int32.toInt64 (seV t n q))]) rfl (fun _ _ _ k9 => k9) ?_
            refine wn_staI (pc' := 80) rfl rfl (by decide) rfl rfl (Nat.le_of_ble_eq_true rfl) (m_in _ _ _ _ _) ?_
            refine wn_ifeqB (t := 125) (f := 83) rfl rfl rfl (fun c6 => ?_) (fun c6 => ?_)
            · have c6 : ¬ (((97 : Int64)).toInt ≤ (Int32.toInt64 (seV t n q)).toInt ∧ (Int32.toInt64 (seV t n q)).toInt ≤ ((122 : Int64)).toInt) := c6
              refine wn_ld (pc' := 126) (q := 1) (kin := 0) (v := .int (seV t n q)) rfl (fun _ _ _ => rfl) rfl rfl ?_
              refine wn_pu (pc' := 127) (st' := [.long (Int32.toInt64 (seV t n q))]) rfl (fun _ _ _ => rfl) rfl rfl ?_
              refine wn_go (pc' := 130) (lv' := [(0, .ref (71)), (1, .int (seV t n q))]) (st' := [.long ((48 : Int64)), .long (Int32.toInt64 (seV t n q))]) rfl (fun _ _ _ k9 => k9) ?_
              refine wn_go (pc' := 133) (lv' := [(0, .ref (71)), (1, .int (seV t n q))]) (st' := [.long ((57 : Int64)), .long ((48 : Int64)), .long (Int32.toInt64 (seV t n q))]) rfl (fun _ _ _ k9 => k9) ?_
              refine wn_staI (pc' := 136) rfl rfl (by decide) rfl rfl (Nat.le_of_ble_eq_true rfl) (m_in _ _ _ _ _) ?_
              refine wn_ifeqB (t := 215) (f := 139) rfl rfl rfl (fun c7 => ?_) (fun c7 => ?_)
              · have c7 : ¬ (((48 : Int64)).toInt ≤ (Int32.toInt64 (seV t n q)).toInt ∧ (Int32.toInt64 (seV t n q)).toInt ≤ ((57 : Int64)).toInt) := c7
                refine wn_ld (pc' := 216) (q := 0) (kin := 2) (v := .ref (71)) rfl (fun _ _ _ => rfl) rfl rfl ?_
                refine wn_ld (pc' := 217) (q := 1) (kin := 0) (v := .int (seV t n q)) rfl (fun _ _ _ => rfl) rfl rfl ?_
                refine wn_bp (pc' := 219) (w := nI 59) rfl rfl (by decide) ?_
                refine wn_icmp (t := 226) (f := 222) rfl rfl rfl (fun c8 => ?_) (fun c8 => ?_)
                · have c8 : ¬ ((seV t n q)) = ((nI (59))) := c8
                  refine wn_ic (pc' := 227) (w := nI 4) rfl rfl (by decide) ?_
                  refine wn_put (pc' := 230) rfl rfl (gs_self c_71_g1) (Nat.le_of_ble_eq_true rfl) ⟨rfl, rfl⟩ ?_
                  show Wn _ _ 230 _ [] ((g1.set 71 (.inr (9, [.int (th), .ref (72), .ref (73), .ref (74), .ref (75), .int (tl), .ref (76), .int (nI (n)), .int (nI (q)), .int (nI (q)), .int (tk), .int (vl), .int (fk), .int (fp), .ref (77), .int (il), .ref (78), .ref (79), .ref (80), .long (up), .long (lo), .ref (81), .ref (82), .ref (83), .ref (84)]))).set 71 (.inr (9, [.int (th), .ref (72), .ref (73), .ref (74), .ref (75), .int (tl), .ref (76), .int (nI (n)), .int (nI (q)), .int (nI (q)), .int (nI (4)), .int (vl), .int (fk), .int (fp), .ref (77), .int (il), .ref (78), .ref (79), .ref (80), .long (up), .long (lo), .ref (81), .ref (82), .ref (83), .ref (84)]))) _
                  refine wn_ld (pc' := 231) (q := 0) (kin := 2) (v := .ref (71)) rfl (fun _ _ _ => rfl) rfl rfl ?_
                  refine wn_pu (pc' := 232) (st' := [.ref (71), .ref (71)]) rfl (fun _ _ _ => rfl) rfl rfl ?_
                  refine wn_get (pc' := 235) (v := .int (nI (q))) rfl rfl (gs_self (gs_self c_71_g1)) rfl ?_
                  refine wn_ic (pc' := 236) (w := nI 1) rfl rfl (by decide) ?_
                  refine wn_addN (pc' := 237) rfl rfl ?_
                  refine wn_put (pc' := 240) rfl rfl (gs_self (gs_self c_71_g1)) (Nat.le_of_ble_eq_true rfl) ⟨rfl, rfl⟩ ?_
                  show Wn _ _ 240 _ [] (((g1.set 71 (.inr (9, [.int (th), .ref (72), .ref (73), .ref (74), .ref (75), .int (tl), .ref (76), .int (nI (n)), .int (nI (q)), .int (nI (q)), .int (tk), .int (vl), .int (fk), .int (fp), .ref (77), .int (il), .ref (78), .ref (79), .ref (80), .long (up), .long (lo), .ref (81), .ref (82), .ref (83), .ref (84)]))).set 71 (.inr (9, [.int (th), .ref (72), .ref (73), .ref (74), .ref (75), .int (tl), .ref (76), .int (nI (n)), .int (nI (q)), .int (nI (q)), .int (nI (4)), .int (vl), .int (fk), .int (fp), .ref (77), .int (il), .ref (78), .ref (79), .ref (80), .long (up), .long (lo), .ref (81), .ref (82), .ref (83), .ref (84)]))).set 71 (.inr (9, [.int (th), .ref (72), .ref (73), .ref (74), .ref (75), .int (tl), .ref (76), .int (nI (n)), .int (nI (q + 1)), .int (nI (q)), .int (nI (4)), .int (vl), .int (fk), .int (fp), .ref (77), .int (il), .ref (78), .ref (79), .ref (80), .long (up), .long (lo), .ref (81), .ref (82), .ref (83), .ref (84)]))) _
                  have hqn : q < n := Classical.byContradiction (fun g => c5 ((se_m hb hn).mpr g))
                  have k1 : ¬ chK (t q) = 1 := fun g => c6 ((se_w hb hn).mpr ⟨hqn, g⟩)
                  have k2 : ¬ chK (t q) = 2 := fun g => c7 ((se_d hb hn).mpr ⟨hqn, g⟩)
                  have k3 : ¬ chK (t q) = 3 := fun g => c8 ((se_c (c := 59) (by omega) hb hn).mpr ⟨hqn, chK_3.mpr g⟩)
                  have hk : chK (t q) = 4 := by have := chK_or (t q); omega
                  have e1 : tkK t n p = 4 := by unfold tkK; rw [eF, if_pos hqn, hk]
                  have e2 : tkA t n p = q + 1 := by unfold tkA; rw [eF, if_pos hqn, if_neg k1, if_neg k2]
                  exact wn_vret rfl rfl ⟨rfl, (Fr.st (Fr.st (Fr.st hf_g1 (by decide)) (by decide)) (by decide)), _, fun g => absurd (e1.symm.trans g) (by decide), by rw [e1, e2, eF]; exact (gs_self (gs_self (gs_self c_71_g1)))⟩
                · have c8 : ((seV t n q)) = ((nI (59))) := c8
                  refine wn_ic (pc' := 223) (w := nI 3) rfl rfl (by decide) ?_
                  refine wn_jp (pc' := 227) rfl rfl ?_
                  refine wn_put (pc' := 230) rfl rfl (gs_self c_71_g1) (Nat.le_of_ble_eq_true rfl) ⟨rfl, rfl⟩ ?_
                  show Wn _ _ 230 _ [] ((g1.set 71 (.inr (9, [.int (th), .ref (72), .ref (73), .ref (74), .ref (75), .int (tl), .ref (76), .int (nI (n)), .int (nI (q)), .int (nI (q)), .int (tk), .int (vl), .int (fk), .int (fp), .ref (77), .int (il), .ref (78), .ref (79), .ref (80), .long (up), .long (lo), .ref (81), .ref (82), .ref (83), .ref (84)]))).set 71 (.inr (9, [.int (th), .ref (72), .ref (73), .ref (74), .ref (75), .int (tl), .ref (76), .int (nI (n)), .int (nI (q)), .int (nI (q)), .int (nI (3)), .int (vl), .int (fk), .int (fp), .ref (77), .int (il), .ref (78), .ref (79), .ref (80), .long (up), .long (lo), .ref (81), .ref (82), .ref (83), .ref (84)]))) _
                  refine wn_ld (pc' := 231) (q := 0) (kin := 2) (v := .ref (71)) rfl (fun _ _ _ => rfl) rfl rfl ?_
                  refine wn_pu (pc' := 232) (st' := [.ref (71), .ref (71)]) rfl (fun _ _ _ => rfl) rfl rfl ?_
                  refine wn_get (pc' := 235) (v := .int (nI (q))) rfl rfl (gs_self (gs_self c_71_g1)) rfl ?_
                  refine wn_ic (pc' := 236) (w := nI 1) rfl rfl (by decide) ?_
                  refine wn_addN (pc' := 237) rfl rfl ?_
                  refine wn_put (pc' := 240) rfl rfl (gs_self (gs_self c_71_g1)) (Nat.le_of_ble_eq_true rfl) ⟨rfl, rfl⟩ ?_
                  show Wn _ _ 240 _ [] (((g1.set 71 (.inr (9, [.int (th), .ref (72), .ref (73), .ref (74), .ref (75), .int (tl), .ref (76), .int (nI (n)), .int (nI (q)), .int (nI (q)), .int (tk), .int (vl), .int (fk), .int (fp), .ref (77), .int (il), .ref (78), .ref (79), .ref (80), .long (up), .long (lo), .ref (81), .ref (82), .ref (83), .ref (84)]))).set 71 (.inr (9, [.int (th), .ref (72), .ref (73), .ref (74), .ref (75), .int (tl), .ref (76), .int (nI (n)), .int (nI (q)), .int (nI (q)), .int (nI (3)), .int (vl), .int (fk), .int (fp), .ref (77), .int (il), .ref (78), .ref (79), .ref (80), .long (up), .long (lo), .ref (81), .ref (82), .ref (83), .ref (84)]))).set 71 (.inr (9, [.int (th), .ref (72), .ref (73), .ref (74), .ref (75), .int (tl), .ref (76), .int (nI (n)), .int (nI (q + 1)), .int (nI (q)), .int (nI (3)), .int (vl), .int (fk), .int (fp), .ref (77), .int (il), .ref (78), .ref (79), .ref (80), .long (up), .long (lo), .ref (81), .ref (82), .ref (83), .ref (84)]))) _
                  have hqn : q < n := Classical.byContradiction (fun g => c5 ((se_m hb hn).mpr g))
                  have k1 : ¬ chK (t q) = 1 := fun g => c6 ((se_w hb hn).mpr ⟨hqn, g⟩)
                  have k2 : ¬ chK (t q) = 2 := fun g => c7 ((se_d hb hn).mpr ⟨hqn, g⟩)
                  have hk : chK (t q) = 3 := chK_3.mp ((se_c (c := 59) (by omega) hb hn).mp c8).2
                  have e1 : tkK t n p = 3 := by unfold tkK; rw [eF, if_pos hqn, hk]
                  have e2 : tkA t n p = q + 1 := by unfold tkA; rw [eF, if_pos hqn, if_neg k1, if_neg k2]
                  exact wn_vret rfl rfl ⟨rfl, (Fr.st (Fr.st (Fr.st hf_g1 (by decide)) (by decide)) (by decide)), _, fun g => absurd (e1.symm.trans g) (by decide), by rw [e1, e2, eF]; exact (gs_self (gs_self (gs_self c_71_g1)))⟩
              · have c7 : (((48 : Int64)).toInt ≤ (Int32.toInt64 (seV t n q)).toInt ∧ (Int32.toInt64 (seV t n q)).toInt ≤ ((57 : Int64)).toInt) := c7
                refine wn_ld (pc' := 140) (q := 0) (kin := 2) (v := .ref (71)) rfl (fun _ _ _ => rfl) rfl rfl ?_
                refine wn_ic (pc' := 141) (w := nI 0) rfl rfl (by decide) ?_
                refine wn_put (pc' := 144) rfl rfl (gs_self c_71_g1) (Nat.le_of_ble_eq_true rfl) ⟨rfl, rfl⟩ ?_
                show Wn _ _ 144 _ [] ((g1.set 71 (.inr (9, [.int (th), .ref (72), .ref (73), .ref (74), .ref (75), .int (tl), .ref (76), .int (nI (n)), .int (nI (q)), .int (nI (q)), .int (tk), .int (vl), .int (fk), .int (fp), .ref (77), .int (il), .ref (78), .ref (79), .ref (80), .long (up), .long (lo), .ref (81), .ref (82), .ref (83), .ref (84)]))).set 71 (.inr (9, [.int (th), .ref (72), .ref (73), .ref (74), .ref (75), .int (tl), .ref (76), .int (nI (n)), .int (nI (q)), .int (nI (q)), .int (tk), .int (nI (0)), .int (fk), .int (fp), .ref (77), .int (il), .ref (78), .ref (79), .ref (80), .long (up), .long (lo), .ref (81), .ref (82), .ref (83), .ref (84)]))) _
                obtain ⟨hqn, hk⟩ := (se_d hb hn).mp c7
                have lp10 : ∀ (n_lp10 : Nat) (g9 : aH) (r : Nat), n + 1 ≤ r + n_lp10 → Fr [71] h g9 → isO g9 71 9 [.int (th), .ref (72), .ref (73), .ref (74), .ref (75), .int (tl), .ref (76), .int (nI (n)), .int (nI (r)), .int (nI (q)), .int (tk), .int (nI (min 9999 (nvD t q (r - q)))), .int (fk), .int (fp), .ref (77), .int (il), .ref (78), .ref (79), .ref (80), .long (up), .long (lo), .ref (81), .ref (82), .ref (83), .ref (84)] → q ≤ r → r ≤ n → rnE (fun x => chK (t x) = 2) n r = rnE (fun x => chK (t x) = 2) n q → Wn (Rn (d + 1)) 158 144 [(0, .ref (71))] [] (g9) (fun r9 h9 => r9 = none ∧ Fr [71] h h9 ∧ ∃ vl', (tkK t n p = 2 → vl' = nI (min 9999 (tkV t n p))) ∧ isO h9 71 9 (MoF th tl (nI n) (nI (tkA t n p)) (nI (tkF t n p)) (nI (tkK t n p)) vl' fk fp il up lo)) := by
                  intro n_lp10
                  induction n_lp10 with
                  | zero => intro g9 r hm_lp10 hf_g9 c_71_g9 hr1 hr2 hA; exfalso; omega
                  | succ n_lp10 ih_lp10 =>
                    intro g9 r hm_lp10 hf_g9 c_71_g9 hr1 hr2 hA
                    refine wn_ld (pc' := 145) (q := 0) (kin := 2) (v := .ref (71)) rfl (fun _ _ _ => rfl) rfl rfl ?_
                    refine wn_ld (pc' := 146) (q := 0) (kin := 2) (v := .ref (71)) rfl (fun _ _ _ => rfl) rfl rfl ?_
                    refine wn_get (pc' := 149) (v := .int (nI (r))) rfl rfl c_71_g9 rfl ?_
                    refine wn_virI (pc' := 152) rfl rfl (by decide) rfl rfl c_71_g9 (Nat.le_of_ble_eq_true rfl) (m_see _ _ t n (r) hn (by omega) _ _ _ _ _ _ _ _ _ _ _ c_71_g9 ((hf_g9.2 75 (by decide)).trans q4)) ?_
                    refine wn_pu (pc' := 153) (st' := [.long (Int32.toInt64 (seV t n r))]) rfl (fun _ _ _ => rfl) rfl rfl ?_
                    refine wn_go (pc' := 156) (lv' := [(0, .ref (71))]) (st' := [.long ((48 : Int64)), .long (Int32.toInt64 (seV t n r))]) rfl (fun _ _ _ k9 => k9) ?_
                    refine wn_go (pc' := 159) (lv' := [(0, .ref (71))]) (st' := [.long ((57 : Int64)), .long ((48 : Int64)), .long (Int32.toInt64 (seV t n r))]) rfl (fun _ _ _ k9 => k9) ?_
                    refine wn_staI (pc' := 162) rfl rfl (by decide) rfl rfl (Nat.le_of_ble_eq_true rfl) (m_in _ _ _ _ _) ?_
                    refine wn_ifeqB (t := 207) (f := 165) rfl rfl rfl (fun c11 => ?_) (fun c11 => ?_)
                    · have c11 : ¬ (((48 : Int64)).toInt ≤ (Int32.toInt64 (seV t n r)).toInt ∧ (Int32.toInt64 (seV t n r)).toInt ≤ ((57 : Int64)).toInt) := c11
                      refine wn_ld (pc' := 208) (q := 0) (kin := 2) (v := .ref (71)) rfl (fun _ _ _ => rfl) rfl rfl ?_
                      refine wn_ic (pc' := 209) (w := nI 2) rfl rfl (by decide) ?_
                      refine wn_put (pc' := 212) rfl rfl c_71_g9 (Nat.le_of_ble_eq_true rfl) ⟨rfl, rfl⟩ ?_
                      show Wn _ _ 212 _ [] (g9.set 71 (.inr (9, [.int (th), .ref (72), .ref (73), .ref (74), .ref (75), .int (tl), .ref (76), .int (nI (n)), .int (nI (r)), .int (nI (q)), .int (nI (2)), .int (nI (min 9999 (nvD t q (r - q)))), .int (fk), .int (fp), .ref (77), .int (il), .ref (78), .ref (79), .ref (80), .long (up), .long (lo), .ref (81), .ref (82), .ref (83), .ref (84)]))) _
                      refine wn_jp (pc' := 240) rfl rfl ?_
                      have e1 : tkK t n p = 2 := by unfold tkK; rw [eF, if_pos hqn, hk]
                      have e2 : tkA t n p = r := by unfold tkA; rw [eF, if_pos hqn, hk, if_neg (by decide), if_pos rfl, ← hA]; exact rn_f (fun g => c11 ((se_d hb hn).mpr g))
                      exact wn_vret rfl rfl ⟨rfl, (Fr.st hf_g9 (by decide)), _, fun _ => by unfold tkV; rw [eF, e2], by rw [e1, e2, eF]; exact (gs_self c_71_g9)⟩
                    · have c11 : (((48 : Int64)).toInt ≤ (Int32.toInt64 (seV t n r)).toInt ∧ (Int32.toInt64 (seV t n r)).toInt ≤ ((57 : Int64)).toInt) := c11
                      refine wn_ld (pc' := 166) (q := 0) (kin := 2) (v := .ref (71)) rfl (fun _ _ _ => rfl) rfl rfl ?_
                      refine wn_sp (pc' := 169) (w := nI 9999) rfl rfl (by decide) ?_
                      refine wn_bp (pc' := 171) (w := nI 10) rfl rfl (by decide) ?_
                      refine wn_ld (pc' := 172) (q := 0) (kin := 2) (v := .ref (71)) rfl (fun _ _ _ => rfl) rfl rfl ?_
                      refine wn_get (pc' := 175) (v := .int (nI (min 9999 (nvD t q (r - q))))) rfl rfl c_71_g9 rfl ?_
                      refine wn_mulN (pc' := 176) rfl rfl ?_
                      refine wn_ld (pc' := 177) (q := 0) (kin := 2) (v := .ref (71)) rfl (fun _ _ _ => rfl) rfl rfl ?_
                      refine wn_ld (pc' := 178) (q := 0) (kin := 2) (v := .ref (71)) rfl (fun _ _ _ => rfl) rfl rfl ?_
                      refine wn_get (pc' := 181) (v := .int (nI (r))) rfl rfl c_71_g9 rfl ?_
                      have hd9 := (se_d hb hn).mp c11
                      have := (dgt_of hd9.2).2.2.2
                      refine wn_virI (pc' := 184) rfl rfl (by decide) rfl rfl c_71_g9 (Nat.le_of_ble_eq_true rfl) (m_see _ _ t n (r) hn (by omega) _ _ _ _ _ _ _ _ _ _ _ c_71_g9 ((hf_g9.2 75 (by decide)).trans q4)) ?_
                      rw [se_dv hb hn hd9.1 hd9.2]
                      refine wn_addN (pc' := 185) rfl rfl ?_
                      refine wn_bp (pc' := 187) (w := nI 48) rfl rfl (by decide) ?_
                      refine wn_subN (pc' := 188) rfl rfl (by omega) ?_
                      refine wn_minN (pc' := 191) rfl rfl (Nat.le_of_ble_eq_true rfl) (by omega) (by omega) ?_
                      refine wn_put (pc' := 194) rfl rfl c_71_g9 (Nat.le_of_ble_eq_true rfl) ⟨rfl, rfl⟩ ?_
                      show Wn _ _ 194 _ [] (g9.set 71 (.inr (9, [.int (th), .ref (72), .ref (73), .ref (74), .ref (75), .int (tl), .ref (76), .int (nI (n)), .int (nI (r)), .int (nI (q)), .int (tk), .int (nI (min 9999 (((10 * (min 9999 (nvD t q (r - q)))) + (dgt (t r) + 48)) - 48))), .int (fk), .int (fp), .ref (77), .int (il), .ref (78), .ref (79), .ref (80), .long (up), .long (lo), .ref (81), .ref (82), .ref (83), .ref (84)]))) _
                      refine wn_ld (pc' := 195) (q := 0) (kin := 2) (v := .ref (71)) rfl (fun _ _ _ => rfl) rfl rfl ?_
                      refine wn_pu (pc' := 196) (st' := [.ref (71), .ref (71)]) rfl (fun _ _ _ => rfl) rfl rfl ?_
                      refine wn_get (pc' := 199) (v := .int (nI (r))) rfl rfl (gs_self c_71_g9) rfl ?_
                      refine wn_ic (pc' := 200) (w := nI 1) rfl rfl (by decide) ?_
                      refine wn_addN (pc' := 201) rfl rfl ?_
                      refine wn_put (pc' := 204) rfl rfl (gs_self c_71_g9) (Nat.le_of_ble_eq_true rfl) ⟨rfl, rfl⟩ ?_
                      show Wn _ _ 204 _ [] ((g9.set 71 (.inr (9, [.int (th), .ref (72), .ref (73), .ref (74), .ref (75), .int (tl), .ref (76), .int (nI (n)), .int (nI (r)), .int (nI (q)), .int (tk), .int (nI (min 9999 (((10 * (min 9999 (nvD t q (r - q)))) + (dgt (t r) + 48)) - 48))), .int (fk), .int (fp), .ref (77), .int (il), .ref (78), .ref (79), .ref (80), .long (up), .long (lo), .ref (81), .ref (82), .ref (83), .ref (84)]))).set 71 (.inr (9, [.int (th), .ref (72), .ref (73), .ref (74), .ref (75), .int (tl), .ref (76), .int (nI (n)), .int (nI (r + 1)), .int (nI (q)), .int (tk), .int (nI (min 9999 (((10 * (min 9999 (nvD t q (r - q)))) + (dgt (t r) + 48)) - 48))), .int (fk), .int (fp), .ref (77), .int (il), .ref (78), .ref (79), .ref (80), .long (up), .long (lo), .ref (81), .ref (82), .ref (83), .ref (84)]))) _
                      refine wn_jp (pc' := 144) rfl rfl ?_
                      refine wn_weak (lv' := [(0, .ref (71))]) (by simp) ?_
                      have z9 := ih_lp10 ((g9.set 71 (.inr (9, [.int (th), .ref (72), .ref (73), .ref (74), .ref (75), .int (tl), .ref (76), .int (nI (n)), .int (nI (r)), .int (nI (q)), .int (tk), .int (nI (min 9999 (((10 * (min 9999 (nvD t q (r - q)))) + (dgt (t r) + 48)) - 48))), .int (fk), .int (fp), .ref (77), .int (il), .ref (78), .ref (79), .ref (80), .long (up), .long (lo), .ref (81), .ref (82), .ref (83), .ref (84)]))).set 71 (.inr (9, [.int (th), .ref (72), .ref (73), .ref (74), .ref (75), .int (tl), .ref (76), .int (nI (n)), .int (nI (r + 1)), .int (nI (q)), .int (tk), .int (nI (min 9999 (((10 * (min 9999 (nvD t q (r - q)))) + (dgt (t r) + 48)) - 48))), .int (fk), .int (fp), .ref (77), .int (il), .ref (78), .ref (79), .ref (80), .long (up), .long (lo), .ref (81), .ref (82), .ref (83), .ref (84)]))) (r + 1) (by omega) (Fr.st (Fr.st hf_g9 (by decide)) (by decide)) (by rw [← nm_s (by omega)]; exact (gs_self (gs_self c_71_g9))) (by omega) (by have := ((se_d hb hn).mp c11).1; omega) (by rw [← hA]; exact (rn_t (p := r) ((se_d hb hn).mp c11).1 ((se_d hb hn).mp c11).2).symm)
                      exact z9
                refine wn_weak (lv' := [(0, .ref (71))]) (by simp) ?_
                have z9 := lp10 (n + 1) ((g1.set 71 (.inr (9, [.int (th), .ref (72), .ref (73), .ref (74), .ref (75), .int (tl), .ref (76), .int (nI (n)), .int (nI (q)), .int (nI (q)), .int (tk), .int (vl), .int (fk), .int (fp), .ref (77), .int (il), .ref (78), .ref (79), .ref (80), .long (up), .long (lo), .ref (81), .ref (82), .ref (83), .ref (84)]))).set 71 (.inr (9, [.int (th), .ref (72), .ref (73), .ref (74), .ref (75), .int (tl), .ref (76), .int (nI (n)), .int (nI (q)), .int (nI (q)), .int (tk), .int (nI (0)), .int (fk), .int (fp), .ref (77), .int (il), .ref (78), .ref (79), .ref (80), .long (up), .long (lo), .ref (81), .ref (82), .ref (83), .ref (84)]))) q (by omega) (Fr.st (Fr.st hf_g1 (by decide)) (by decide)) (by rw [← nm_0]; exact (gs_self (gs_self c_71_g1))) (by omega) (by omega) rfl
                exact z9
            · have c6 : (((97 : Int64)).toInt ≤ (Int32.toInt64 (seV t n q)).toInt ∧ (Int32.toInt64 (seV t n q)).toInt ≤ ((122 : Int64)).toInt) := c6
              obtain ⟨hqn, hk⟩ := (se_w hb hn).mp c6
              have lp13 : ∀ (n_lp13 : Nat) (g12 : aH) (r : Nat), n + 1 ≤ r + n_lp13 → Fr [71] h g12 → isO g12 71 9 [.int (th), .ref (72), .ref (73), .ref (74), .ref (75), .int (tl), .ref (76), .int (nI (n)), .int (nI (r)), .int (nI (q)), .int (tk), .int (vl), .int (fk), .int (fp), .ref (77), .int (il), .ref (78), .ref (79), .ref (80), .long (up), .long (lo), .ref (81), .ref (82), .ref (83), .ref (84)] → q ≤ r → r ≤ n → rnE (fun x => chK (t x) = 1) n r = rnE (fun x => chK (t x) = 1) n q → Wn (Rn (d + 1)) 158 83 [(0, .ref (71))] [] (g12) (fun r9 h9 => r9 = none ∧ Fr [71] h h9 ∧ ∃ vl', (tkK t n p = 2 → vl' = nI (min 9999 (tkV t n p))) ∧ isO h9 71 9 (MoF th tl (nI n) (nI (tkA t n p)) (nI (tkF t n p)) (nI (tkK t n p)) vl' fk fp il up lo)) := by
                intro n_lp13
                induction n_lp13 with
                | zero => intro g12 r hm_lp13 hf_g12 c_71_g12 hr1 hr2 hA; exfalso; omega
                | succ n_lp13 ih_lp13 =>
                  intro g12 r hm_lp13 hf_g12 c_71_g12 hr1 hr2 hA
                  refine wn_ld (pc' := 84) (q := 0) (kin := 2) (v := .ref (71)) rfl (fun _ _ _ => rfl) rfl rfl ?_
                  refine wn_ld (pc' := 85) (q := 0) (kin := 2) (v := .ref (71)) rfl (fun _ _ _ => rfl) rfl rfl ?_
                  refine wn_get (pc' := 88) (v := .int (nI (r))) rfl rfl c_71_g12 rfl ?_
                  refine wn_virI (pc' := 91) rfl rfl (by decide) rfl rfl c_71_g12 (Nat.le_of_ble_eq_true rfl) (m_see _ _ t n (r) hn (by omega) _ _ _ _ _ _ _ _ _ _ _ c_71_g12 ((hf_g12.2 75 (by decide)).trans q4)) ?_
                  refine wn_pu (pc' := 92) (st' := [.long (Int32.toInt64 (seV t n r))]) rfl (fun _ _ _ => rfl) rfl rfl ?_
                  refine wn_go (pc' := 95) (lv' := [(0, .ref (71))]) (st' := [.long ((97 : Int64)), .long (Int32.toInt64 (seV t n r))]) rfl (fun _ _ _ k9 => k9) ?_
                  refine wn_go (pc' := 98) (lv' := [(0, .ref (71))]) (st' := [.long ((122 : Int64)), .long ((97 : Int64)), .long (Int32.toInt64 (seV t n r))]) rfl (fun _ _ _ k9 => k9) ?_
                  refine wn_staI (pc' := 101) rfl rfl (by decide) rfl rfl (Nat.le_of_ble_eq_true rfl) (m_in _ _ _ _ _) ?_
                  refine wn_ifeqB (t := 117) (f := 104) rfl rfl rfl (fun c14 => ?_) (fun c14 => ?_)
                  · have c14 : ¬ (((97 : Int64)).toInt ≤ (Int32.toInt64 (seV t n r)).toInt ∧ (Int32.toInt64 (seV t n r)).toInt ≤ ((122 : Int64)).toInt) := c14
                    refine wn_ld (pc' := 118) (q := 0) (kin := 2) (v := .ref (71)) rfl (fun _ _ _ => rfl) rfl rfl ?_
                    refine wn_ic (pc' := 119) (w := nI 1) rfl rfl (by decide) ?_
                    refine wn_put (pc' := 122) rfl rfl c_71_g12 (Nat.le_of_ble_eq_true rfl) ⟨rfl, rfl⟩ ?_
                    show Wn _ _ 122 _ [] (g12.set 71 (.inr (9, [.int (th), .ref (72), .ref (73), .ref (74), .ref (75), .int (tl), .ref (76), .int (nI (n)), .int (nI (r)), .int (nI (q)), .int (nI (1)), .int (vl), .int (fk), .int (fp), .ref (77), .int (il), .ref (78), .ref (79), .ref (80), .long (up), .long (lo), .ref (81), .ref (82), .ref (83), .ref (84)]))) _
                    refine wn_jp (pc' := 240) rfl rfl ?_
                    have e1 : tkK t n p = 1 := by unfold tkK; rw [eF, if_pos hqn, hk]
                    have e2 : tkA t n p = r := by unfold tkA; rw [eF, if_pos hqn, hk, if_pos rfl, ← hA]; exact rn_f (fun g => c14 ((se_w hb hn).mpr g))
                    exact wn_vret rfl rfl ⟨rfl, (Fr.st hf_g12 (by decide)), _, fun g => absurd (e1.symm.trans g) (by decide), by rw [e1, e2, eF]; exact (gs_self c_71_g12)⟩
                  · have c14 : (((97 : Int64)).toInt ≤ (Int32.toInt64 (seV t n r)).toInt ∧ (Int32.toInt64 (seV t n r)).toInt ≤ ((122 : Int64)).toInt) := c14
                    refine wn_ld (pc' := 105) (q := 0) (kin := 2) (v := .ref (71)) rfl (fun _ _ _ => rfl) rfl rfl ?_
                    refine wn_pu (pc' := 106) (st' := [.ref (71), .ref (71)]) rfl (fun _ _ _ => rfl) rfl rfl ?_
                    refine wn_get (pc' := 109) (v := .int (nI (r))) rfl rfl c_71_g12 rfl ?_
                    refine wn_ic (pc' := 110) (w := nI 1) rfl rfl (by decide) ?_
                    refine wn_addN (pc' := 111) rfl rfl ?_
                    refine wn_put (pc' := 114) rfl rfl c_71_g12 (Nat.le_of_ble_eq_true rfl) ⟨rfl, rfl⟩ ?_
                    show Wn _ _ 114 _ [] (g12.set 71 (.inr (9, [.int (th), .ref (72), .ref (73), .ref (74), .ref (75), .int (tl), .ref (76), .int (nI (n)), .int (nI (r + 1)), .int (nI (q)), .int (tk), .int (vl), .int (fk), .int (fp), .ref (77), .int (il), .ref (78), .ref (79), .ref (80), .long (up), .long (lo), .ref (81), .ref (82), .ref (83), .ref (84)]))) _
                    refine wn_jp (pc' := 83) rfl rfl ?_
                    refine wn_weak (lv' := [(0, .ref (71))]) (by simp) ?_
                    have z9 := ih_lp13 (g12.set 71 (.inr (9, [.int (th), .ref (72), .ref (73), .ref (74), .ref (75), .int (tl), .ref (76), .int (nI (n)), .int (nI (r + 1)), .int (nI (q)), .int (tk), .int (vl), .int (fk), .int (fp), .ref (77), .int (il), .ref (78), .ref (79), .ref (80), .long (up), .long (lo), .ref (81), .ref (82), .ref (83), .ref (84)]))) (r + 1) (by omega) (Fr.st hf_g12 (by decide)) (gs_self c_71_g12) (by omega) (by have := ((se_w hb hn).mp c14).1; omega) (by rw [← hA]; exact (rn_t (p := r) ((se_w hb hn).mp c14).1 ((se_w hb hn).mp c14).2).symm)
                    exact z9
              refine wn_weak (lv' := [(0, .ref (71))]) (by simp) ?_
              have z9 := lp13 (n + 1) (g1.set 71 (.inr (9, [.int (th), .ref (72), .ref (73), .ref (74), .ref (75), .int (tl), .ref (76), .int (nI (n)), .int (nI (q)), .int (nI (q)), .int (tk), .int (vl), .int (fk), .int (fp), .ref (77), .int (il), .ref (78), .ref (79), .ref (80), .long (up), .long (lo), .ref (81), .ref (82), .ref (83), .ref (84)]))) q (by omega) (Fr.st hf_g1 (by decide)) (gs_self c_71_g1) (by omega) (by omega) rfl
              exact z9
          · have c5 : ((seV t n q)) = ((-1)) := c5
            refine wn_ld (pc' := 62) (q := 0) (kin := 2) (v := .ref (71)) rfl (fun _ _ _ => rfl) rfl rfl ?_
            refine wn_ic (pc' := 63) (w := nI 0) rfl rfl (by decide) ?_
            refine wn_put (pc' := 66) rfl rfl (gs_self c_71_g1) (Nat.le_of_ble_eq_true rfl) ⟨rfl, rfl⟩ ?_
            show Wn _ _ 66 _ [] ((g1.set 71 (.inr (9, [.int (th), .ref (72), .ref (73), .ref (74), .ref (75), .int (tl), .ref (76), .int (nI (n)), .int (nI (q)), .int (nI (q)), .int (tk), .int (vl), .int (fk), .int (fp), .ref (77), .int (il), .ref (78), .ref (79), .ref (80), .long (up), .long (lo), .ref (81), .ref (82), .ref (83), .ref (84)]))).set 71 (.inr (9, [.int (th), .ref (72), .ref (73), .ref (74), .ref (75), .int (tl), .ref (76), .int (nI (n)), .int (nI (q)), .int (nI (q)), .int (nI (0)), .int (vl), .int (fk), .int (fp), .ref (77), .int (il), .ref (78), .ref (79), .ref (80), .long (up), .long (lo), .ref (81), .ref (82), .ref (83), .ref (84)]))) _
            refine wn_jp (pc' := 240) rfl rfl ?_
            have nq := (se_m hb hn).mp c5
            have e1 : tkK t n p = 0 := tkK_0.mpr (by rw [eF]; exact nq)
            have e2 : tkA t n p = q := by unfold tkA; rw [eF, if_neg nq]
            exact wn_vret rfl rfl ⟨rfl, (Fr.st (Fr.st hf_g1 (by decide)) (by decide)), _, fun g => absurd (e1.symm.trans g) (by decide), by rw [e1, e2, eF]; exact (gs_self (gs_self c_71_g1))⟩
        · have c4 : ((seV t n q)) = ((nI (10))) := c4
          refine wn_ld (pc' := 27) (q := 0) (kin := 2) (v := .ref (71)) rfl (fun _ _ _ => rfl) rfl rfl ?_
          refine wn_pu (pc' := 28) (st' := [.ref (71), .ref (71)]) rfl (fun _ _ _ => rfl) rfl rfl ?_
          refine wn_get (pc' := 31) (v := .int (nI (q))) rfl rfl c_71_g1 rfl ?_
          refine wn_ic (pc' := 32) (w := nI 1) rfl rfl (by decide) ?_
          refine wn_addN (pc' := 33) rfl rfl ?_
          refine wn_put (pc' := 36) rfl rfl c_71_g1 (Nat.le_of_ble_eq_true rfl) ⟨rfl, rfl⟩ ?_
          show Wn _ _ 36 _ [] (g1.set 71 (.inr (9, [.int (th), .ref (72), .ref (73), .ref (74), .ref (75), .int (tl), .ref (76), .int (nI (n)), .int (nI (q + 1)), .int (fr), .int (tk), .int (vl), .int (fk), .int (fp), .ref (77), .int (il), .ref (78), .ref (79), .ref (80), .long (up), .long (lo), .ref (81), .ref (82), .ref (83), .ref (84)]))) _
          refine wn_jp (pc' := 0) rfl rfl ?_
          refine wn_weak (lv' := [(0, .ref (71))]) (by simp) ?_
          have z9 := ih_lp2 (g1.set 71 (.inr (9, [.int (th), .ref (72), .ref (73), .ref (74), .ref (75), .int (tl), .ref (76), .int (nI (n)), .int (nI (q + 1)), .int (fr), .int (tk), .int (vl), .int (fk), .int (fp), .ref (77), .int (il), .ref (78), .ref (79), .ref (80), .long (up), .long (lo), .ref (81), .ref (82), .ref (83), .ref (84)]))) (q + 1) (by omega) (Fr.st hf_g1 (by decide)) (gs_self c_71_g1) (by omega) (by have := ((se_c (c := 10) (by omega) hb hn).mp c4).1; omega) (by rw [← hF]; exact (rn_t (p := q) ((se_c (c := 10) (by omega) hb hn).mp c4).1 (Or.inr ((se_c (c := 10) (by omega) hb hn).mp c4).2)).symm)
          exact z9
  refine wn_weak (lv' := [(0, .ref (71))]) (by simp) ?_
  have z9 := lp2 (n + 1) h p (by omega) (Fr.rfl' [71] h) q0 (by omega) (by omega) rfl
  exact z9

