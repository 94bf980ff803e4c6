/-! THE REFERENCE: land -/
def zrW (f : Nat → Int32) (k : Nat) : Nat → Int32 := fun p => if p < k then 0 else f p
def itW (f : Nat → Int32) (k : Nat) : Nat → Int32 := fun p => if 216 ≤ p ∧ p < 216 + k then -1 else if p < 2676 then 0 else f p
def cpW (a b : Nat → Int32) (k : Nat) : Nat → Int32 := fun p => if p < k then a p else b p
theorem zrW_s {f : Nat → Int32} {k : Nat} : upd (zrW f k) k (nI 0) = zrW f (k + 1) := funext (fun p => by
  unfold zrW
  by_cases c : p = k
  · rw [c, pk_us, if_pos (by omega)]; decide
  · rw [pk_un c]
    by_cases d : p < k
    · rw [if_pos d, if_pos (by omega)]
    · rw [if_neg d, if_neg (by omega)])
theorem itW_0 {f : Nat → Int32} : zrW f 2676 = itW f 0 := funext (fun p => by
  unfold zrW itW
  rw [if_neg (show ¬ (216 ≤ p ∧ p < 216 + 0) by omega)])
theorem itW_s {f : Nat → Int32} {k : Nat} : upd (itW f k) (216 + k) (-1) = itW f (k + 1) := funext (fun p => by
  unfold itW
  by_cases c : p = 216 + k
  · rw [c, pk_us, if_pos (by omega)]
  · rw [pk_un c]
    by_cases d : 216 ≤ p ∧ p < 216 + k
    · rw [if_pos d, if_pos (by omega)]
    · rw [if_neg d, if_neg (show ¬ (216 ≤ p ∧ p < 216 + (k + 1)) by omega)])
theorem itW_e {f : Nat → Int32} : itW f 240 = iniW f := rfl
theorem cpW_s {a b : Nat → Int32} {k : Nat} : upd (cpW a b k) k (a k) = cpW a b (k + 1) := funext (fun p => by
  unfold cpW
  by_cases c : p = k
  · rw [c, pk_us, if_pos (by omega)]
  · rw [pk_un c]
    by_cases d : p < k
    · rw [if_pos d, if_pos (by omega)]
    · rw [if_neg d, if_neg (by omega)])
theorem cpW_e {a b : Nat → Int32} {k p : Nat} (h : p < k) : cpW a b k p = a p := if_pos h
def LdMo (w : Nat → Int32) (th il : Int32) (up lo : Int64) (h h9 : aH) (r9 : Option Value) (r : PR) : Prop := match r with
  | .inl e => r9 = some (.int (-4)) ∧ Fr [71, 77] h h9 ∧ ∃ sz at9 fr tk vl f, isO h9 71 9 (MoF th (nI 0) sz at9 fr tk vl (nI e.1) (nI e.2) il up lo) ∧ isI h9 77 2676 f
  | .inr (_, w') => r9 = some (.int (w' 0)) ∧ Fr [71, 72, 77] h h9 ∧ ∃ sz at9 fr tk vl, isO h9 71 9 (MoF th (nI 0) sz at9 fr tk vl (nI 0) (-1) (nI 0) up lo) ∧ isI h9 72 2676 (cpW w' w 2676) ∧ isI h9 77 2676 w'
theorem m_land (d : Nat) (h : aH) (t : Nat → Int32) (n : Nat) (w fs : Nat → Int32) (hn : n ≤ 1200) (hb : byT t) (th sz at9 fr tk vl fk fp il : Int32) (up lo : Int64) (q0 : isO h 71 9 (MoF th (nI n) sz at9 fr tk vl fk fp il up lo)) (q1 : isI h 72 2676 w) (q4 : isB h 75 1200 t) (q6 : isI h 77 2676 fs) : Sp (Rn (d + 8)) 173 [.ref (71)] h (fun r9 h9 => ∃ r, LinR t n 0 (iniW fs) r ∧ WIr n r ∧ LdMo w th il up lo h h9 r9 r) := by
  refine Sp_of (by decide) (Nat.le_of_ble_eq_true rfl) ?_
  show Wn _ _ 0 [(0, .ref (71))] [] _ _
  refine wn_ld (pc' := 1) (q := 0) (kin := 2) (v := .ref (71)) rfl (fun _ _ _ => rfl) rfl rfl ?_
  refine wn_ld (pc' := 2) (q := 0) (kin := 2) (v := .ref (71)) rfl (fun _ _ _ => rfl) rfl rfl ?_
  refine wn_get (pc' := 5) (v := .int (nI (n))) rfl rfl q0 rfl ?_
  refine wn_put (pc' := 8) rfl rfl q0 (Nat.le_of_ble_eq_true rfl) ⟨rfl, rfl⟩ ?_
  show Wn _ _ 8 _ [] (h.set 71 (.inr (9, [.int (th), .ref (72), .ref (73), .ref (74), .ref (75), .int (nI (n)), .ref (76), .int (nI (n)), .int (at9), .int (fr), .int (tk), .int (vl), .int (fk), .int (fp), .ref (77), .int (il), .ref (78), .ref (79), .ref (80), .long (up), .long (lo), .ref (81), .ref (82), .ref (83), .ref (84)]))) _
  refine wn_ld (pc' := 9) (q := 0) (kin := 2) (v := .ref (71)) rfl (fun _ _ _ => rfl) rfl rfl ?_
  refine wn_ic (pc' := 10) (w := nI 0) rfl rfl (by decide) ?_
  refine wn_put (pc' := 13) rfl rfl (gs_self q0) (Nat.le_of_ble_eq_true rfl) ⟨rfl, rfl⟩ ?_
  show Wn _ _ 13 _ [] ((h.set 71 (.inr (9, [.int (th), .ref (72), .ref (73), .ref (74), .ref (75), .int (nI (n)), .ref (76), .int (nI (n)), .int (at9), .int (fr), .int (tk), .int (vl), .int (fk), .int (fp), .ref (77), .int (il), .ref (78), .ref (79), .ref (80), .long (up), .long (lo), .ref (81), .ref (82), .ref (83), .ref (84)]))).set 71 (.inr (9, [.int (th), .ref (72), .ref (73), .ref (74), .ref (75), .int (nI (0)), .ref (76), .int (nI (n)), .int (at9), .int (fr), .int (tk), .int (vl), .int (fk), .int (fp), .ref (77), .int (il), .ref (78), .ref (79), .ref (80), .long (up), .long (lo), .ref (81), .ref (82), .ref (83), .ref (84)]))) _
  refine wn_ld (pc' := 14) (q := 0) (kin := 2) (v := .ref (71)) rfl (fun _ _ _ => rfl) rfl rfl ?_
  refine wn_ic (pc' := 15) (w := nI 0) rfl rfl (by decide) ?_
  refine wn_put (pc' := 18) rfl rfl (gs_self (gs_self q0)) (Nat.le_of_ble_eq_true rfl) ⟨rfl, rfl⟩ ?_
  show Wn _ _ 18 _ [] (((h.set 71 (.inr (9, [.int (th), .ref (72), .ref (73), .ref (74), .ref (75), .int (nI (n)), .ref (76), .int (nI (n)), .int (at9), .int (fr), .int (tk), .int (vl), .int (fk), .int (fp), .ref (77), .int (il), .ref (78), .ref (79), .ref (80), .long (up), .long (lo), .ref (81), .ref (82), .ref (83), .ref (84)]))).set 71 (.inr (9, [.int (th), .ref (72), .ref (73), .ref (74), .ref (75), .int (nI (0)), .ref (76), .int (nI (n)), .int (at9), .int (fr), .int (tk), .int (vl), .int (fk), .int (fp), .ref (77), .int (il), .ref (78), .ref (79), .ref (80), .long (up), .long (lo), .ref (81), .ref (82), .ref (83), .ref (84)]))).set 71 (.inr (9, [.int (th), .ref (72), .ref (73), .ref (74), .ref (75), .int (nI (0)), .ref (76), .int (nI (n)), .int (nI (0)), .int (fr), .int (tk), .int (vl), .int (fk), .int (fp), .ref (77), .int (il), .ref (78), .ref (79), .ref (80), .long (up), .long (lo), .ref (81), .ref (82), .ref (83), .ref (84)]))) _
  refine wn_ld (pc' := 19) (q := 0) (kin := 2) (v := .ref (71)) rfl (fun _ _ _ => rfl) rfl rfl ?_
  refine wn_ic (pc' := 20) (w := nI 0) rfl rfl (by decide) ?_
  refine wn_put (pc' := 23) rfl rfl (gs_self (gs_self (gs_self q0))) (Nat.le_of_ble_eq_true rfl) ⟨rfl, rfl⟩ ?_
  show Wn _ _ 23 _ [] ((((h.set 71 (.inr (9, [.int (th), .ref (72), .ref (73), .ref (74), .ref (75), .int (nI (n)), .ref (76), .int (nI (n)), .int (at9), .int (fr), .int (tk), .int (vl), .int (fk), .int (fp), .ref (77), .int (il), .ref (78), .ref (79), .ref (80), .long (up), .long (lo), .ref (81), .ref (82), .ref (83), .ref (84)]))).set 71 (.inr (9, [.int (th), .ref (72), .ref (73), .ref (74), .ref (75), .int (nI (0)), .ref (76), .int (nI (n)), .int (at9), .int (fr), .int (tk), .int (vl), .int (fk), .int (fp), .ref (77), .int (il), .ref (78), .ref (79), .ref (80), .long (up), .long (lo), .ref (81), .ref (82), .ref (83), .ref (84)]))).set 71 (.inr (9, [.int (th), .ref (72), .ref (73), .ref (74), .ref (75), .int (nI (0)), .ref (76), .int (nI (n)), .int (nI (0)), .int (fr), .int (tk), .int (vl), .int (fk), .int (fp), .ref (77), .int (il), .ref (78), .ref (79), .ref (80), .long (up), .long (lo), .ref (81), .ref (82), .ref (83), .ref (84)]))).set 71 (.inr (9, [.int (th), .ref (72), .ref (73), .ref (74), .ref (75), .int (nI (0)), .ref (76), .int (nI (n)), .int (nI (0)), .int (fr), .int (tk), .int (vl), .int (nI (0)), .int (fp), .ref (77), .int (il), .ref (78), .ref (79), .ref (80), .long (up), .long (lo), .ref (81), .ref (82), .ref (83), .ref (84)]))) _
  refine wn_ld (pc' := 24) (q := 0) (kin := 2) (v := .ref (71)) rfl (fun _ _ _ => rfl) rfl rfl ?_
  refine wn_ic (pc' := 25) (w := -1) rfl rfl (by decide) ?_
  refine wn_put (pc' := 28) rfl rfl (gs_self (gs_self (gs_self (gs_self q0)))) (Nat.le_of_ble_eq_true rfl) ⟨rfl, rfl⟩ ?_
  show Wn _ _ 28 _ [] (((((h.set 71 (.inr (9, [.int (th), .ref (72), .ref (73), .ref (74), .ref (75), .int (nI (n)), .ref (76), .int (nI (n)), .int (at9), .int (fr), .int (tk), .int (vl), .int (fk), .int (fp), .ref (77), .int (il), .ref (78), .ref (79), .ref (80), .long (up), .long (lo), .ref (81), .ref (82), .ref (83), .ref (84)]))).set 71 (.inr (9, [.int (th), .ref (72), .ref (73), .ref (74), .ref (75), .int (nI (0)), .ref (76), .int (nI (n)), .int (at9), .int (fr), .int (tk), .int (vl), .int (fk), .int (fp), .ref (77), .int (il), .ref (78), .ref (79), .ref (80), .long (up), .long (lo), .ref (81), .ref (82), .ref (83), .ref (84)]))).set 71 (.inr (9, [.int (th), .ref (72), .ref (73), .ref (74), .ref (75), .int (nI (0)), .ref (76), .int (nI (n)), .int (nI (0)), .int (fr), .int (tk), .int (vl), .int (fk), .int (fp), .ref (77), .int (il), .ref (78), .ref (79), .ref (80), .long (up), .long (lo), .ref (81), .ref (82), .ref (83), .ref (84)]))).set 71 (.inr (9, [.int (th), .ref (72), .ref (73), .ref (74), .ref (75), .int (nI (0)), .ref (76), .int (nI (n)), .int (nI (0)), .int (fr), .int (tk), .int (vl), .int (nI (0)), .int (fp), .ref (77), .int (il), .ref (78), .ref (79), .ref (80), .long (up), .long (lo), .ref (81), .ref (82), .ref (83), .ref (84)]))).set 71 (.inr (9, [.int (th), .ref (72), .ref (73), .ref (74), .ref (75), .int (nI (0)), .ref (76), .int (nI (n)), .int (nI (0)), .int (fr), .int (tk), .int (vl), .int (nI (0)), .int (-1), .ref (77), .int (il), .ref (78), .ref (79), .ref (80), .long (up), .long (lo), .ref (81), .ref (82), .ref (83), .ref (84)]))) _
  refine wn_ic (pc' := 29) (w := nI 0) rfl rfl (by decide) ?_
  refine wn_st (pc' := 30) (q := 1) (kin := 0) (lv' := [(0, .ref (71)), (1, .int (nI (0)))]) rfl (fun _ _ _ => rfl) rfl (Nat.le_of_ble_eq_true rfl) rfl ?_
  have lp2 : ∀ (n_lp2 : Nat) (g1 : aH) (f1 : Nat → Int32) (k : Nat), 2676 + 1 ≤ k + n_lp2 → Fr [71, 77] h g1 → isO g1 71 9 [.int (th), .ref (72), .ref (73), .ref (74), .ref (75), .int (nI (0)), .ref (76), .int (nI (n)), .int (nI (0)), .int (fr), .int (tk), .int (vl), .int (nI (0)), .int (-1), .ref (77), .int (il), .ref (78), .ref (79), .ref (80), .long (up), .long (lo), .ref (81), .ref (82), .ref (83), .ref (84)] → isI g1 77 2676 f1 → k ≤ 2676 → f1 = zrW fs k → Wn (Rn (d + 7)) 173 30 [(0, .ref (71)), (1, .int (nI (k)))] [] (g1) (fun r9 h9 => ∃ r, LinR t n 0 (iniW fs) r ∧ WIr n r ∧ LdMo w th il up lo h h9 r9 r) := by
    intro n_lp2
    induction n_lp2 with
    | zero => intro g1 f1 k hm_lp2 hf_g1 c_71_g1 c_77_g1 hk hZ; exfalso; omega
    | succ n_lp2 ih_lp2 =>
      intro g1 f1 k hm_lp2 hf_g1 c_71_g1 c_77_g1 hk hZ
      refine wn_ld (pc' := 31) (q := 1) (kin := 0) (v := .int (nI (k))) rfl (fun _ _ _ => rfl) rfl rfl ?_
      refine wn_sp (pc' := 34) (w := nI 2676) rfl rfl (by decide) ?_
      refine wn_icmpN (t := 50) (f := 37) rfl rfl rfl (by omega) (by omega) (fun c3 => ?_) (fun c3 => ?_)
      · have c3 : 2676 ≤ k := c3
        obtain rfl : k = 2676 := by omega
        refine wn_ic (pc' := 51) (w := nI 0) rfl rfl (by decide) ?_
        refine wn_st (pc' := 52) (q := 1) (kin := 0) (lv' := [(0, .ref (71)), (1, .int (nI (0)))]) rfl (fun _ _ _ => rfl) rfl (Nat.le_of_ble_eq_true rfl) rfl ?_
        have lp5 : ∀ (n_lp5 : Nat) (g4 : aH) (f2 : Nat → Int32) (k2 : Nat), 240 + 1 ≤ k2 + n_lp5 → Fr [71, 77] h g4 → isO g4 71 9 [.int (th), .ref (72), .ref (73), .ref (74), .ref (75), .int (nI (0)), .ref (76), .int (nI (n)), .int (nI (0)), .int (fr), .int (tk), .int (vl), .int (nI (0)), .int (-1), .ref (77), .int (il), .ref (78), .ref (79), .ref (80), .long (up), .long (lo), .ref (81), .ref (82), .ref (83), .ref (84)] → isI g4 77 2676 f2 → k2 ≤ 240 → f2 = itW fs k2 → Wn (Rn (d + 7)) 173 52 [(0, .ref (71)), (1, .int (nI (k2)))] [] (g4) (fun r9 h9 => ∃ r, LinR t n 0 (iniW fs) r ∧ WIr n r ∧ LdMo w th il up lo h h9 r9 r) := by
          intro n_lp5
          induction n_lp5 with
          | zero => intro g4 f2 k2 hm_lp5 hf_g4 c_71_g4 c_77_g4 hk2 hT; exfalso; omega
          | succ n_lp5 ih_lp5 =>
            intro g4 f2 k2 hm_lp5 hf_g4 c_71_g4 c_77_g4 hk2 hT
            refine wn_ld (pc' := 53) (q := 1) (kin := 0) (v := .int (nI (k2))) rfl (fun _ _ _ => rfl) rfl rfl ?_
            refine wn_sp (pc' := 56) (w := nI 240) rfl rfl (by decide) ?_
            refine wn_icmpN (t := 76) (f := 59) rfl rfl rfl (by omega) (by omega) (fun c6 => ?_) (fun c6 => ?_)
            · have c6 : 240 ≤ k2 := c6
              obtain rfl : k2 = 240 := by omega
              refine wn_ld (pc' := 77) (q := 0) (kin := 2) (v := .ref (71)) rfl (fun _ _ _ => rfl) rfl rfl ?_
              refine wn_virS (pc' := 80) rfl rfl (by decide) rfl rfl c_71_g4 (Nat.le_of_ble_eq_true rfl) (m_advance _ _ t n 0 hn (by omega) hb th (nI 0) _ _ _ (nI 0) (-1) il up lo c_71_g4 ((hf_g4.2 75 (by decide)).trans q4)) (fun r9 h7 e8 => ?_)
              obtain ⟨rfl, f_h7, vl_h7, hv_h7, o_h7⟩ := e8
              have fA : Fr [71, 77] h h7 := Fr.tr hf_g4 (fw f_h7) (fun _ q => q)
              have q7 : isI h7 77 2676 (iniW fs) := by rw [← itW_e, ← hT]; exact (f_h7.2 77 (by decide)).trans c_77_g4
              show Wn _ _ 80 _ [] h7 _
              have lp9 : ∀ (n_lp9 : Nat) (g : aH) (m : Nat) (r : PR), 1200 + 1 ≤ m + n_lp9 → m ≤ 1200 → Fr [71, 77] h g → MTs t n th (nI 0) il up lo g r → LnI t n fs m r → Wn (Rn (d + 7)) 173 80 [(0, .ref (71))] [] g (fun r9 h9 => ∃ r, LinR t n 0 (iniW fs) r ∧ WIr n r ∧ LdMo w th il up lo h h9 r9 r) := by
                intro n_lp9
                induction n_lp9 with
                | zero => intro g m r hm hi1 hfr hC hS; exfalso; omega
                | succ n_lp9 ih =>
                  intro g m r hm hi1 hfr hC hS
                  rcases r with e0 | ⟨p2, w2⟩
                  · obtain ⟨hb_g, sz_g, at_g, fr9_g, tk_g, vl_g, o_g, f9_g, q_g⟩ := hC
                    refine wn_ld (pc' := 81) (q := 0) (kin := 2) (v := .ref (71)) rfl (fun _ _ _ => rfl) rfl rfl ?_
                    refine wn_virI (pc' := 84) rfl rfl (by decide) rfl rfl o_g (Nat.le_of_ble_eq_true rfl) (m_goodB _ _ _ _ _ _ _ _ _ _ _ _ _ _ hb_g o_g) ?_
                    refine wn_ifN (t := 101) (f := 87) rfl rfl rfl (by omega) (fun c10 => ?_) (fun c10 => ?_)
                    · have c10 : 0 = 0 := c10
                      refine wn_ld (pc' := 102) (q := 0) (kin := 2) (v := .ref (71)) rfl (fun _ _ _ => rfl) rfl rfl ?_
                      refine wn_virI (pc' := 105) rfl rfl (by decide) rfl rfl o_g (Nat.le_of_ble_eq_true rfl) (m_goodB _ _ _ _ _ _ _ _ _ _ _ _ _ _ hb_g o_g) ?_
                      refine wn_ifN (t := 111) (f := 108) rfl rfl rfl (by omega) (fun c11 => ?_) (fun c11 => ?_)
                      · have c11 : ¬ 0 = 0 := c11
                        exact absurd c11 (by decide)
                      · have c11 : 0 = 0 := c11
                        refine wn_bp (pc' := 110) (w := -4) rfl rfl (by decide) ?_
                        exact wn_iret rfl rfl rfl ⟨.inl e0, hS.1 _ rfl, trivial, rfl, hfr, _, _, _, _, _, _, o_g, q_g⟩
                    · have c10 : ¬ 0 = 0 := c10
                      exact absurd c10 (by decide)
                  · obtain ⟨hS1, ⟨J2, h52, hl2, hp2⟩, hmp⟩ := id hS
                    obtain ⟨vl_g, hv_g, o_g, q_g⟩ := hC
                    obtain ⟨e0y, e0by⟩ := wj_0 J2
                    obtain ⟨⟨e1y, e2y⟩, ⟨e3y, e4y⟩, ⟨e5y, e6y⟩⟩ := Wf_n J2.wf
                    obtain ⟨⟨e7y, e8y⟩, ⟨e9y, e10y⟩⟩ := Wf_m J2.wf
                    have := tkF_le (t := t) (p := p2) hp2
                    have := tkA_ge (t := t) (n := n) (p := p2)
                    have := tkA_le (t := t) (p := p2) hp2
                    have := tkK_le (t := t) (n := n) (p := p2)
                    have hF2 := tkF_ge (t := t) (n := n) (p := p2)
                    refine wn_ld (pc' := 81) (q := 0) (kin := 2) (v := .ref (71)) rfl (fun _ _ _ => rfl) rfl rfl ?_
                    refine wn_virI (pc' := 84) rfl rfl (by decide) rfl rfl o_g (Nat.le_of_ble_eq_true rfl) (m_good0 _ _ _ _ _ _ _ _ _ _ _ _ _ o_g) ?_
                    refine wn_ifN (t := 101) (f := 87) rfl rfl rfl (by omega) (fun c12 => ?_) (fun c12 => ?_)
                    · have c12 : 1 = 0 := c12
                      exact absurd c12 (by decide)
                    · have c12 : ¬ 1 = 0 := c12
                      refine wn_ld (pc' := 88) (q := 0) (kin := 2) (v := .ref (71)) rfl (fun _ _ _ => rfl) rfl rfl ?_
                      refine wn_get (pc' := 91) (v := .int (nI (tkK t n p2))) rfl rfl o_g rfl ?_
                      refine wn_ifN (t := 101) (f := 94) rfl rfl rfl (by omega) (fun c13 => ?_) (fun c13 => ?_)
                      · have c13 : (tkK t n p2) = 0 := c13
                        refine wn_ld (pc' := 102) (q := 0) (kin := 2) (v := .ref (71)) rfl (fun _ _ _ => rfl) rfl rfl ?_
                        refine wn_virI (pc' := 105) rfl rfl (by decide) rfl rfl o_g (Nat.le_of_ble_eq_true rfl) (m_good0 _ _ _ _ _ _ _ _ _ _ _ _ _ o_g) ?_
                        refine wn_ifN (t := 111) (f := 108) rfl rfl rfl (by omega) (fun c14 => ?_) (fun c14 => ?_)
                        · have c14 : ¬ 1 = 0 := c14
                          refine wn_ic (pc' := 112) (w := nI 0) rfl rfl (by decide) ?_
                          refine wn_st (pc' := 113) (q := 1) (kin := 0) (lv' := [(0, .ref (71)), (1, .int (nI (0)))]) rfl (fun _ _ _ => rfl) rfl (Nat.le_of_ble_eq_true rfl) rfl ?_
                          have lp16 : ∀ (n_lp16 : Nat) (g15 : aH) (w1 : Nat → Int32) (k : Nat), 2676 + 1 ≤ k + n_lp16 → Fr [71, 72] g g15 → isO g15 71 9 [.int (th), .ref (72), .ref (73), .ref (74), .ref (75), .int (nI 0), .ref (76), .int (nI (n)), .int (nI (tkA t n p2)), .int (nI (tkF t n p2)), .int (nI (tkK t n p2)), .int (vl_g), .int (nI (0)), .int (-1), .ref (77), .int (il), .ref (78), .ref (79), .ref (80), .long (up), .long (lo), .ref (81), .ref (82), .ref (83), .ref (84)] → isI g15 72 2676 w1 → k ≤ 2676 → w1 = cpW w2 w k → Wn (Rn (d + 7)) 173 113 [(0, .ref (71)), (1, .int (nI (k)))] [] (g15) (fun r9 h9 => ∃ r, LinR t n 0 (iniW fs) r ∧ WIr n r ∧ LdMo w th il up lo h h9 r9 r) := by
                            intro n_lp16
                            induction n_lp16 with
                            | zero => intro g15 w1 k hm_lp16 hf_g15 c_71_g15 c_72_g15 hk hZ1; exfalso; omega
                            | succ n_lp16 ih_lp16 =>
                              intro g15 w1 k hm_lp16 hf_g15 c_71_g15 c_72_g15 hk hZ1
                              refine wn_ld (pc' := 114) (q := 1) (kin := 0) (v := .int (nI (k))) rfl (fun _ _ _ => rfl) rfl rfl ?_
                              refine wn_sp (pc' := 117) (w := nI 2676) rfl rfl (by decide) ?_
                              refine wn_icmpN (t := 138) (f := 120) rfl rfl rfl (by omega) (by omega) (fun c17 => ?_) (fun c17 => ?_)
                              · have c17 : 2676 ≤ k := c17
                                obtain rfl : k = 2676 := by omega
                                refine wn_ld (pc' := 139) (q := 0) (kin := 2) (v := .ref (71)) rfl (fun _ _ _ => rfl) rfl rfl ?_
                                refine wn_ic (pc' := 140) (w := nI 0) rfl rfl (by decide) ?_
                                refine wn_put (pc' := 143) rfl rfl c_71_g15 (Nat.le_of_ble_eq_true rfl) ⟨rfl, rfl⟩ ?_
                                show Wn _ _ 143 _ [] (g15.set 71 (.inr (9, [.int (th), .ref (72), .ref (73), .ref (74), .ref (75), .int (nI 0), .ref (76), .int (nI (n)), .int (nI (tkA t n p2)), .int (nI (tkF t n p2)), .int (nI (tkK t n p2)), .int (vl_g), .int (nI (0)), .int (-1), .ref (77), .int (nI (0)), .ref (78), .ref (79), .ref (80), .long (up), .long (lo), .ref (81), .ref (82), .ref (83), .ref (84)]))) _
                                refine wn_ld (pc' := 144) (q := 0) (kin := 2) (v := .ref (71)) rfl (fun _ _ _ => rfl) rfl rfl ?_
                                refine wn_get (pc' := 147) (v := .ref (72)) rfl rfl (gs_self c_71_g15) rfl ?_
                                refine wn_ic (pc' := 148) (w := nI 0) rfl rfl (by decide) ?_
                                refine wn_ialdv (pc' := 149) (j := 0) (v := (w2 0)) rfl rfl (gs_ne (by decide) c_72_g15) rfl (by omega) (by decide) ((by rw [hZ1]; exact cpW_e (by omega))) ?_
                                have fB : Fr [71, 72] g (g15.set 71 (.inr (9, [.int (th), .ref (72), .ref (73), .ref (74), .ref (75), .int (nI 0), .ref (76), .int (nI (n)), .int (nI (tkA t n p2)), .int (nI (tkF t n p2)), .int (nI (tkK t n p2)), .int (vl_g), .int (nI (0)), .int (-1), .ref (77), .int (nI (0)), .ref (78), .ref (79), .ref (80), .long (up), .long (lo), .ref (81), .ref (82), .ref (83), .ref (84)]))) := (Fr.st hf_g15 (by decide))
                                have fC : Fr [71, 72, 77] h (g15.set 71 (.inr (9, [.int (th), .ref (72), .ref (73), .ref (74), .ref (75), .int (nI 0), .ref (76), .int (nI (n)), .int (nI (tkA t n p2)), .int (nI (tkF t n p2)), .int (nI (tkK t n p2)), .int (vl_g), .int (nI (0)), .int (-1), .ref (77), .int (nI (0)), .ref (78), .ref (79), .ref (80), .long (up), .long (lo), .ref (81), .ref (82), .ref (83), .ref (84)]))) := ⟨fB.1.trans hfr.1, fun k hk => (fB.2 k (fun q => hk (by simp only [List.mem_cons, List.not_mem_nil, or_false] at q ⊢; omega))).trans (hfr.2 k (fun q => hk (by simp only [List.mem_cons, List.not_mem_nil, or_false] at q ⊢; omega)))⟩
                                exact wn_iret rfl rfl rfl ⟨.inr (p2, w2), hS1 _ (Res_e c13), hS.2.1, rfl, fC, _, _, _, _, _, (gs_self c_71_g15), by rw [← hZ1]; exact (gs_ne (by decide) c_72_g15), (gs_ne (by decide) ((hf_g15.2 77 (by decide)).trans q_g))⟩
                              · have c17 : k < 2676 := c17
                                refine wn_ld (pc' := 121) (q := 0) (kin := 2) (v := .ref (71)) rfl (fun _ _ _ => rfl) rfl rfl ?_
                                refine wn_get (pc' := 124) (v := .ref (72)) rfl rfl c_71_g15 rfl ?_
                                refine wn_ld (pc' := 125) (q := 1) (kin := 0) (v := .int (nI (k))) rfl (fun _ _ _ => rfl) rfl rfl ?_
                                refine wn_ld (pc' := 126) (q := 0) (kin := 2) (v := .ref (71)) rfl (fun _ _ _ => rfl) rfl rfl ?_
                                refine wn_get (pc' := 129) (v := .ref (77)) rfl rfl c_71_g15 rfl ?_
                                refine wn_ld (pc' := 130) (q := 1) (kin := 0) (v := .int (nI (k))) rfl (fun _ _ _ => rfl) rfl rfl ?_
                                refine wn_ialdv (pc' := 131) (j := k) (v := (w2 (k))) rfl rfl ((hf_g15.2 77 (by decide)).trans q_g) rfl (by omega) (by decide) (rfl) ?_
                                refine wn_iast (pc' := 132) (j := k) rfl rfl c_72_g15 rfl (by omega) (by decide) ?_
                                refine wn_incN (n := 1) (pc' := 135) (lv' := [(0, .ref (71)), (1, .int (nI (k + 1)))]) rfl rfl rfl (Nat.le_of_ble_eq_true rfl) rfl (by decide) ?_
                                refine wn_jp (pc' := 113) rfl rfl ?_
                                refine wn_weak (lv' := [(0, .ref (71)), (1, .int (nI (k + 1)))]) (by simp) ?_
                                have z9 := ih_lp16 (g15.set 72 (.inl (0, 2676, .inl (upd w1 (k) ((w2 (k))))))) (upd w1 (k) ((w2 (k)))) (k + 1) (by omega) (Fr.st hf_g15 (by decide)) (gs_ne (by decide) c_71_g15) (gs_self c_72_g15) (by omega) (by rw [hZ1]; exact cpW_s)
                                exact z9
                          refine wn_weak (lv' := [(0, .ref (71)), (1, .int (nI (0)))]) (by simp) ?_
                          have z9 := lp16 (2676 + 1) g w 0 (by omega) (Fr.rfl' [71, 72] g) o_g ((hfr.2 72 (by decide)).trans q1) (by omega) (funext (fun p => (if_neg (by omega)).symm))
                          exact z9
                        · have c14 : 1 = 0 := c14
                          exact absurd c14 (by decide)
                      · have c13 : ¬ (tkK t n p2) = 0 := c13
                        refine wn_ld (pc' := 95) (q := 0) (kin := 2) (v := .ref (71)) rfl (fun _ _ _ => rfl) rfl rfl ?_
                        refine wn_virS (pc' := 98) rfl rfl (by decide) rfl rfl o_g (Nat.le_of_ble_eq_true rfl) (m_readLine _ _ t n p2 w2 hn hp2 hb J2 th (nI 0) _ il up lo hv_g o_g ((hfr.2 75 (by decide)).trans q4) q_g h52) (fun r9 h18 e19 => ?_)
                        obtain ⟨rfl, F_h18, r_h18, ln_h18, M_h18⟩ := e19
                        have G_h18 := Fr.tr hfr F_h18 (fun _ q => q)
                        show Wn _ _ 98 _ [] h18 _
                        refine wn_jp (pc' := 80) rfl rfl ?_
                        have hq9 := Classical.byContradiction (fun q => c13 (tkK_0.mpr q))
                        refine wn_weak (lv' := [(0, .ref (71))]) (by simp) ?_
                        exact ih h18 (m + 1) r_h18 (by omega) (by omega) G_h18 M_h18 (LnI_s hn hS c13 ln_h18)
              refine wn_weak (lv' := [(0, .ref (71))]) (by simp) ?_
              exact lp9 (1200 + 1) h7 0 (.inr (0, iniW fs)) (by omega) (by omega) fA (MT_r hv_h7 o_h7 q7) ⟨fun _ q => q, ini_wi fs n, Nat.le_refl 0⟩
            · have c6 : k2 < 240 := c6
              refine wn_ld (pc' := 60) (q := 0) (kin := 2) (v := .ref (71)) rfl (fun _ _ _ => rfl) rfl rfl ?_
              refine wn_get (pc' := 63) (v := .ref (77)) rfl rfl c_71_g4 rfl ?_
              refine wn_sp (pc' := 66) (w := nI 216) rfl rfl (by decide) ?_
              refine wn_ld (pc' := 67) (q := 1) (kin := 0) (v := .int (nI (k2))) rfl (fun _ _ _ => rfl) rfl rfl ?_
              refine wn_addN (pc' := 68) rfl rfl ?_
              refine wn_ic (pc' := 69) (w := -1) rfl rfl (by decide) ?_
              refine wn_iast (pc' := 70) (j := 216 + k2) rfl rfl c_77_g4 rfl (by omega) (by decide) ?_
              refine wn_incN (n := 1) (pc' := 73) (lv' := [(0, .ref (71)), (1, .int (nI (k2 + 1)))]) rfl rfl rfl (Nat.le_of_ble_eq_true rfl) rfl (by decide) ?_
              refine wn_jp (pc' := 52) rfl rfl ?_
              refine wn_weak (lv' := [(0, .ref (71)), (1, .int (nI (k2 + 1)))]) (by simp) ?_
              have z9 := ih_lp5 (g4.set 77 (.inl (0, 2676, .inl (upd f2 (216 + k2) ((-1)))))) (upd f2 (216 + k2) ((-1))) (k2 + 1) (by omega) (Fr.st hf_g4 (by decide)) (gs_ne (by decide) c_71_g4) (gs_self c_77_g4) (by omega) (by rw [hT]; exact itW_s)
              exact z9
        refine wn_weak (lv' := [(0, .ref (71)), (1, .int (nI (0)))]) (by simp) ?_
        have z9 := lp5 (240 + 1) g1 f1 0 (by omega) hf_g1 c_71_g1 c_77_g1 (by omega) (by rw [hZ]; exact itW_0)
        exact z9
      · have c3 : k < 2676 := c3
        refine wn_ld (pc' := 38) (q := 0) (kin := 2) (v := .ref (71)) rfl (fun _ _ _ => rfl) rfl rfl ?_
        refine wn_get (pc' := 41) (v := .ref (77)) rfl rfl c_71_g1 rfl ?_
        refine wn_ld (pc' := 42) (q := 1) (kin := 0) (v := .int (nI (k))) rfl (fun _ _ _ => rfl) rfl rfl ?_
        refine wn_ic (pc' := 43) (w := nI 0) rfl rfl (by decide) ?_
        refine wn_iast (pc' := 44) (j := k) rfl rfl c_77_g1 rfl (by omega) (by decide) ?_
        refine wn_incN (n := 1) (pc' := 47) (lv' := [(0, .ref (71)), (1, .int (nI (k + 1)))]) rfl rfl rfl (Nat.le_of_ble_eq_true rfl) rfl (by decide) ?_
        refine wn_jp (pc' := 30) rfl rfl ?_
        refine wn_weak (lv' := [(0, .ref (71)), (1, .int (nI (k + 1)))]) (by simp) ?_
        have z9 := ih_lp2 (g1.set 77 (.inl (0, 2676, .inl (upd f1 (k) ((nI (0))))))) (upd f1 (k) ((nI (0)))) (k + 1) (by omega) (Fr.st hf_g1 (by decide)) (gs_ne (by decide) c_71_g1) (gs_self c_77_g1) (by omega) (by rw [hZ]; exact zrW_s)
        exact z9
  refine wn_weak (lv' := [(0, .ref (71)), (1, .int (nI (0)))]) (by simp) ?_
  have z9 := lp2 (2676 + 1) (((((h.set 71 (.inr (9, [.int (th), .ref (72), .ref (73), .ref (74), .ref (75), .int (nI (n)), .ref (76), .int (nI (n)), .int (at9), .int (fr), .int (tk), .int (vl), .int (fk), .int (fp), .ref (77), .int (il), .ref (78), .ref (79), .ref (80), .long (up), .long (lo), .ref (81), .ref (82), .ref (83), .ref (84)]))).set 71 (.inr (9, [.int (th), .ref (72), .ref (73), .ref (74), .ref (75), .int (nI (0)), .ref (76), .int (nI (n)), .int (at9), .int (fr), .int (tk), .int (vl), .int (fk), .int (fp), .ref (77), .int (il), .ref (78), .ref (79), .ref (80), .long (up), .long (lo), .ref (81), .ref (82), .ref (83), .ref (84)]))).set 71 (.inr (9, [.int (th), .ref (72), .ref (73), .ref (74), .ref (75), .int (nI (0)), .ref (76), .int (nI (n)), .int (nI (0)), .int (fr), .int (tk), .int (vl), .int (fk), .int (fp), .ref (77), .int (il), .ref (78), .ref (79), .ref (80), .long (up), .long (lo), .ref (81), .ref (82), .ref (83), .ref (84)]))).set 71 (.inr (9, [.int (th), .ref (72), .ref (73), .ref (74), .ref (75), .int (nI (0)), .ref (76), .int (nI (n)), .int (nI (0)), .int (fr), .int (tk), .int (vl), .int (nI (0)), .int (fp), .ref (77), .int (il), .ref (78), .ref (79), .ref (80), .long (up), .long (lo), .ref (81), .ref (82), .ref (83), .ref (84)]))).set 71 (.inr (9, [.int (th), .ref (72), .ref (73), .ref (74), .ref (75), .int (nI (0)), .ref (76), .int (nI (n)), .int (nI (0)), .int (fr), .int (tk), .int (vl), .int (nI (0)), .int (-1), .ref (77), .int (il), .ref (78), .ref (79), .ref (80), .long (up), .long (lo), .ref (81), .ref (82), .ref (83), .ref (84)]))) fs 0 (by omega) (Fr.st (Fr.st (Fr.st (Fr.st (Fr.st (Fr.rfl' [71, 77] h) (by decide)) (by decide)) (by decide)) (by decide)) (by decide)) (gs_self (gs_self (gs_self (gs_self (gs_self q0))))) (gs_ne (by decide) (gs_ne (by decide) (gs_ne (by decide) (gs_ne (by decide) (gs_ne (by decide) q6))))) (by omega) (funext (fun p => (if_neg (by omega)).symm))
  exact z9

