/-! THE CLASS: land -/
def LdX (t : Nat → Int32) (n ls lr : Nat) (h h9 : aH) (r9 : Option Value) (r : PR) : Prop := match r with
  | .inl e => r9 = some (.int (-4)) ∧ h9.length = h.length ∧ (∀ k, k ≠ 0 → k ≠ 2 → k < lr ∨ lr + 20 ≤ k → h9[k]? = h[k]?) ∧ isO h9 0 8 [.ref 1, .int (nI 0), .ref 2, .ref 23, .ref 50, .ref 51, .ref 52, .ref 58, .ref 59, .ref 60, .ref 61, .ref 62] ∧ (∃ p', isO h9 2 3 (rdS t lr (nI e.1) (nI e.2) n p')) ∧ LandS h9 lr
  | .inr (_, w) => r9 = some (.int (w 0)) ∧ h9.length = h.length ∧ (∀ k, k ≠ 0 → k ≠ 2 → k ≠ 23 → k < lr ∨ lr + 20 ≤ k → k < 44 ∨ 50 ≤ k → k < 52 ∨ 55 ≤ k → h9[k]? = h[k]?) ∧ isO h9 0 8 [.ref 1, .int (nI 0), .ref 2, .ref 23, .ref 50, .ref 51, .ref 52, .ref 58, .ref 59, .ref 60, .ref 61, .ref 62] ∧ (∃ y1 y2 y3 y4 y5 : Int32, isO h9 2 3 [.int (nI 0), .int (-1), .ref ls, .ref 1, .int y1, .int y2, .int y3, .int y4, .int y5]) ∧ isO h9 23 4 [.ref lr, .ref 44, .ref 47] ∧ LandR h9 lr w ∧ LawsR h9 (lr + 9) w ∧ (isO h9 44 7 [.int (nI 0), .ref 45, .ref 46] ∧ ∃ hv1 hc1, isI h9 45 10 hv1 ∧ isZ h9 46 10 hc1 ∧ ∀ k, k < 10 → hv1 k = -1 ∧ hc1 k = 0) ∧ (isO h9 47 2 [.int (nI 0), .ref 48, .ref 49] ∧ ∃ an1 wk1, isI h9 48 1200 an1 ∧ isI h9 49 24 wk1 ∧ (∀ k, k < 1200 → an1 k = 0) ∧ ∀ k, k < 24 → wk1 k = -1) ∧ isO h9 52 6 [.ref lr, .ref 53, .ref 54, .ref 55, .ref 56, .ref 57] ∧ ∃ re1 st1, isI h9 53 10 re1 ∧ isI h9 54 10 st1 ∧ ∀ k, k < 10 → re1 k = -1 ∧ st1 k = 0
theorem x_land (d : Nat) (h : aH) (t ct : Nat → Int32) (n ls lr : Nat) (f : Nat → Int32) (hn : n ≤ 1200) (hls : (ls = 24 ∧ lr = 3) ∨ (ls = 3 ∧ lr = 24)) (b1 : isO h 0 8 [.ref 1, .int (nI n), .ref 2, .ref 23, .ref 50, .ref 51, .ref 52, .ref 58, .ref 59, .ref 60, .ref 61, .ref 62]) (b2 : isB h 1 1200 ct) (b3 : ∀ x, x < 1200 → ct x = t x) (fk fp y1 y2 y3 y4 y5 : Int32) (b4 : isO h 2 3 [.int fk, .int fp, .ref lr, .ref 1, .int y1, .int y2, .int y3, .int y4, .int y5]) (b5 : LandS h lr) (s23 : isO h 23 4 [.ref ls, .ref 44, .ref 47]) (VS : VoiceS h 44) (NS : NotesS h 47) (s0 : isO h 52 6 [.ref ls, .ref 53, .ref 54, .ref 55, .ref 56, .ref 57]) (re st : Nat → Int32) (s1 : isI h 53 10 re) (s2 : isI h 54 10 st) : Sp (Rn (d + 8)) 68 [.ref (0)] h (fun r9 h9 => ∃ r, LinR t n 0 (iniW f) r ∧ WIr n r ∧ LdX t n ls lr h h9 r9 r) := by
  obtain ⟨xv, hv, hc, v0, v1, v2⟩ := id VS
  obtain ⟨xn, an, wk, n0, n1, n2⟩ := id NS
  refine Sp_of (by decide) (Nat.le_of_ble_eq_true rfl) ?_
  show Wn _ _ 0 [(0, .ref (0))] [] _ _
  refine wn_ld (pc' := 1) (q := 0) (kin := 2) (v := .ref (0)) rfl (fun _ _ _ => rfl) rfl rfl ?_
  refine wn_get (pc' := 4) (v := .ref (2)) rfl rfl b1 rfl ?_
  refine wn_ld (pc' := 5) (q := 0) (kin := 2) (v := .ref (0)) rfl (fun _ _ _ => rfl) rfl rfl ?_
  refine wn_get (pc' := 8) (v := .int (nI (n))) rfl rfl b1 rfl ?_
  refine wn_virS (pc' := 11) rfl rfl (by decide) rfl rfl b4 (Nat.le_of_ble_eq_true rfl) (x_readTape _ _ t ct n lr f hn (by omega) b2 b3 _ _ _ _ _ _ _ b4 b5) (fun r9 h1 e2 => ?_)
  obtain ⟨fl_h1, r_h1, ln_h1, wi_h1, cs_h1, rfl⟩ := e2
  rcases r_h1 with e0 | ⟨p9, w9⟩
  · obtain ⟨hb_h1, p_h1, hp_h1, o_h1, S_h1⟩ := cs_h1
    show Wn _ _ 11 _ [.int (nI (0))] h1 _
    refine wn_st (pc' := 12) (q := 1) (kin := 0) (lv' := [(0, .ref (0)), (1, .int (nI (0)))]) rfl (fun _ _ _ => rfl) rfl (Nat.le_of_ble_eq_true rfl) rfl ?_
    refine wn_ld (pc' := 13) (q := 0) (kin := 2) (v := .ref (0)) rfl (fun _ _ _ => rfl) rfl rfl ?_
    refine wn_ic (pc' := 14) (w := nI 0) rfl rfl (by decide) ?_
    refine wn_put (pc' := 17) rfl rfl ((fl_h1.2 0 (by decide) (by omega)).trans b1) (Nat.le_of_ble_eq_true rfl) ⟨rfl, rfl⟩ ?_
    show Wn _ _ 17 _ [] (h1.set 0 (.inr (8, [.ref (1), .int (nI (0)), .ref (2), .ref (23), .ref (50), .ref (51), .ref (52), .ref (58), .ref (59), .ref (60), .ref (61), .ref (62)]))) _
    refine wn_ld (pc' := 18) (q := 1) (kin := 0) (v := .int (nI (0))) rfl (fun _ _ _ => rfl) rfl rfl ?_
    refine wn_ifN (t := 24) (f := 21) rfl rfl rfl (by omega) (fun c3 => ?_) (fun c3 => ?_)
    · have c3 : ¬ 0 = 0 := c3
      exact absurd c3 (by decide)
    · have c3 : 0 = 0 := c3
      refine wn_bp (pc' := 23) (w := -4) rfl rfl (by decide) ?_
      have fr : Fr [0] h1 (h1.set 0 (.inr (8, [.ref (1), .int (nI (0)), .ref (2), .ref (23), .ref (50), .ref (51), .ref (52), .ref (58), .ref (59), .ref (60), .ref (61), .ref (62)]))) := (Fr.st (Fr.rfl' [0] h1) (by decide))
      exact wn_iret rfl rfl rfl ⟨.inl e0, ln_h1, wi_h1, rfl, fr.1.trans fl_h1.1, fun k a b c => (fr.2 k (by simp only [List.mem_cons, List.not_mem_nil, or_false]; omega)).trans (fl_h1.2 k b c), (gs_self ((fl_h1.2 0 (by decide) (by omega)).trans b1)), ⟨_, (gs_ne (by decide) o_h1)⟩, S_h1.kp (fun k p1 p2 => fr.2 k (by simp only [List.mem_cons, List.not_mem_nil, or_false]; omega))⟩
  · obtain ⟨o_h1, R1_h1, R2_h1⟩ := cs_h1
    obtain ⟨_, _, _, _, _, _, _, _, l0_h1, _⟩ := id R1_h1
    show Wn _ _ 11 _ [.int (nI (1))] h1 _
    refine wn_st (pc' := 12) (q := 1) (kin := 0) (lv' := [(0, .ref (0)), (1, .int (nI (1)))]) rfl (fun _ _ _ => rfl) rfl (Nat.le_of_ble_eq_true rfl) rfl ?_
    refine wn_ld (pc' := 13) (q := 0) (kin := 2) (v := .ref (0)) rfl (fun _ _ _ => rfl) rfl rfl ?_
    refine wn_ic (pc' := 14) (w := nI 0) rfl rfl (by decide) ?_
    refine wn_put (pc' := 17) rfl rfl ((fl_h1.2 0 (by decide) (by omega)).trans b1) (Nat.le_of_ble_eq_true rfl) ⟨rfl, rfl⟩ ?_
    show Wn _ _ 17 _ [] (h1.set 0 (.inr (8, [.ref (1), .int (nI (0)), .ref (2), .ref (23), .ref (50), .ref (51), .ref (52), .ref (58), .ref (59), .ref (60), .ref (61), .ref (62)]))) _
    refine wn_ld (pc' := 18) (q := 1) (kin := 0) (v := .int (nI (1))) rfl (fun _ _ _ => rfl) rfl rfl ?_
    refine wn_ifN (t := 24) (f := 21) rfl rfl rfl (by omega) (fun c4 => ?_) (fun c4 => ?_)
    · have c4 : ¬ 1 = 0 := c4
      refine wn_ld (pc' := 25) (q := 0) (kin := 2) (v := .ref (0)) rfl (fun _ _ _ => rfl) rfl rfl ?_
      refine wn_get (pc' := 28) (v := .ref (23)) rfl rfl (gs_self ((fl_h1.2 0 (by decide) (by omega)).trans b1)) rfl ?_
      refine wn_get (pc' := 31) (v := .ref (ls)) rfl rfl (gs_ne (by decide) ((fl_h1.2 23 (by decide) (by omega)).trans s23)) rfl ?_
      refine wn_st (pc' := 32) (q := 2) (kin := 2) (lv' := [(0, .ref (0)), (1, .int (nI (1))), (2, .ref (ls))]) rfl (fun _ _ _ => rfl) rfl (Nat.le_of_ble_eq_true rfl) rfl ?_
      refine wn_ld (pc' := 33) (q := 0) (kin := 2) (v := .ref (0)) rfl (fun _ _ _ => rfl) rfl rfl ?_
      refine wn_get (pc' := 36) (v := .ref (23)) rfl rfl (gs_self ((fl_h1.2 0 (by decide) (by omega)).trans b1)) rfl ?_
      refine wn_ld (pc' := 37) (q := 0) (kin := 2) (v := .ref (0)) rfl (fun _ _ _ => rfl) rfl rfl ?_
      refine wn_get (pc' := 40) (v := .ref (2)) rfl rfl (gs_self ((fl_h1.2 0 (by decide) (by omega)).trans b1)) rfl ?_
      refine wn_get (pc' := 43) (v := .ref (lr)) rfl rfl (gs_ne (by decide) o_h1) rfl ?_
      refine wn_put (pc' := 46) rfl rfl (gs_ne (by decide) ((fl_h1.2 23 (by decide) (by omega)).trans s23)) (Nat.le_of_ble_eq_true rfl) ⟨rfl, rfl⟩ ?_
      show Wn _ _ 46 _ [] ((h1.set 0 (.inr (8, [.ref (1), .int (nI (0)), .ref (2), .ref (23), .ref (50), .ref (51), .ref (52), .ref (58), .ref (59), .ref (60), .ref (61), .ref (62)]))).set 23 (.inr (4, [.ref (lr), .ref (44), .ref (47)]))) _
      refine wn_ld (pc' := 47) (q := 0) (kin := 2) (v := .ref (0)) rfl (fun _ _ _ => rfl) rfl rfl ?_
      refine wn_get (pc' := 50) (v := .ref (2)) rfl rfl (gs_ne (by decide) (gs_self ((fl_h1.2 0 (by decide) (by omega)).trans b1))) rfl ?_
      refine wn_ld (pc' := 51) (q := 2) (kin := 2) (v := .ref (ls)) rfl (fun _ _ _ => rfl) rfl rfl ?_
      refine wn_put (pc' := 54) rfl rfl (gs_ne (by decide) (gs_ne (by decide) o_h1)) (Nat.le_of_ble_eq_true rfl) ⟨rfl, rfl⟩ ?_
      show Wn _ _ 54 _ [] (((h1.set 0 (.inr (8, [.ref (1), .int (nI (0)), .ref (2), .ref (23), .ref (50), .ref (51), .ref (52), .ref (58), .ref (59), .ref (60), .ref (61), .ref (62)]))).set 23 (.inr (4, [.ref (lr), .ref (44), .ref (47)]))).set 2 (.inr (3, [.int (nI (0)), .int (-1), .ref (ls), .ref (1), .int (nI (n)), .int (nI (tkK t n p9)), .int (nI (tkF t n p9)), .int (nI (tkA t n p9)), .int (nI (nbC t n p9))]))) _
      refine wn_ld (pc' := 55) (q := 0) (kin := 2) (v := .ref (0)) rfl (fun _ _ _ => rfl) rfl rfl ?_
      refine wn_get (pc' := 58) (v := .ref (23)) rfl rfl (gs_ne (by decide) (gs_ne (by decide) (gs_self ((fl_h1.2 0 (by decide) (by omega)).trans b1)))) rfl ?_
      refine wn_get (pc' := 61) (v := .ref (44)) rfl rfl (gs_ne (by decide) (gs_self (gs_ne (by decide) ((fl_h1.2 23 (by decide) (by omega)).trans s23)))) rfl ?_
      refine wn_virS (pc' := 64) rfl rfl (by decide) rfl rfl (gs_ne (by decide) (gs_ne (by decide) (gs_ne (by decide) ((fl_h1.2 44 (by decide) (by omega)).trans v0)))) (Nat.le_of_ble_eq_true rfl) (x_forgetV _ _ 44 _ _ _ (gs_ne (by decide) (gs_ne (by decide) (gs_ne (by decide) ((fl_h1.2 44 (by decide) (by omega)).trans v0)))) (gs_ne (by decide) (gs_ne (by decide) (gs_ne (by decide) ((fl_h1.2 45 (by decide) (by omega)).trans v1)))) (gs_ne (by decide) (gs_ne (by decide) (gs_ne (by decide) ((fl_h1.2 46 (by decide) (by omega)).trans v2))))) (fun r9 h5 e6 => ?_)
      obtain ⟨rfl, f_h5, o_h5, hv_h5, hc_h5, i1_h5, i2_h5, hz_h5⟩ := e6
      show Wn _ _ 64 _ [] h5 _
      refine wn_ld (pc' := 65) (q := 0) (kin := 2) (v := .ref (0)) rfl (fun _ _ _ => rfl) rfl rfl ?_
      refine wn_get (pc' := 68) (v := .ref (23)) rfl rfl ((f_h5.2 0 (by decide)).trans (gs_ne (by decide) (gs_ne (by decide) (gs_self ((fl_h1.2 0 (by decide) (by omega)).trans b1))))) rfl ?_
      refine wn_get (pc' := 71) (v := .ref (47)) rfl rfl ((f_h5.2 23 (by decide)).trans (gs_ne (by decide) (gs_self (gs_ne (by decide) ((fl_h1.2 23 (by decide) (by omega)).trans s23))))) rfl ?_
      refine wn_virS (pc' := 74) rfl rfl (by decide) rfl rfl ((f_h5.2 47 (by decide)).trans (gs_ne (by decide) (gs_ne (by decide) (gs_ne (by decide) ((fl_h1.2 47 (by decide) (by omega)).trans n0))))) (Nat.le_of_ble_eq_true rfl) (x_forgetN _ _ 47 _ _ _ ((f_h5.2 47 (by decide)).trans (gs_ne (by decide) (gs_ne (by decide) (gs_ne (by decide) ((fl_h1.2 47 (by decide) (by omega)).trans n0))))) ((f_h5.2 48 (by decide)).trans (gs_ne (by decide) (gs_ne (by decide) (gs_ne (by decide) ((fl_h1.2 48 (by decide) (by omega)).trans n1))))) ((f_h5.2 49 (by decide)).trans (gs_ne (by decide) (gs_ne (by decide) (gs_ne (by decide) ((fl_h1.2 49 (by decide) (by omega)).trans n2)))))) (fun r9 h7 e8 => ?_)
      obtain ⟨rfl, f_h7, o_h7, an_h7, wk_h7, i1_h7, i2_h7, na_h7, nw_h7⟩ := e8
      show Wn _ _ 74 _ [] h7 _
      refine wn_ld (pc' := 75) (q := 0) (kin := 2) (v := .ref (0)) rfl (fun _ _ _ => rfl) rfl rfl ?_
      refine wn_get (pc' := 78) (v := .ref (52)) rfl rfl ((f_h7.2 0 (by decide)).trans ((f_h5.2 0 (by decide)).trans (gs_ne (by decide) (gs_ne (by decide) (gs_self ((fl_h1.2 0 (by decide) (by omega)).trans b1)))))) rfl ?_
      refine wn_ld (pc' := 79) (q := 0) (kin := 2) (v := .ref (0)) rfl (fun _ _ _ => rfl) rfl rfl ?_
      refine wn_get (pc' := 82) (v := .ref (23)) rfl rfl ((f_h7.2 0 (by decide)).trans ((f_h5.2 0 (by decide)).trans (gs_ne (by decide) (gs_ne (by decide) (gs_self ((fl_h1.2 0 (by decide) (by omega)).trans b1)))))) rfl ?_
      refine wn_get (pc' := 85) (v := .ref (lr)) rfl rfl ((f_h7.2 23 (by decide)).trans ((f_h5.2 23 (by decide)).trans (gs_ne (by decide) (gs_self (gs_ne (by decide) ((fl_h1.2 23 (by decide) (by omega)).trans s23)))))) rfl ?_
      refine wn_virS (pc' := 88) rfl rfl (by decide) rfl rfl ((f_h7.2 52 (by decide)).trans ((f_h5.2 52 (by decide)).trans (gs_ne (by decide) (gs_ne (by decide) (gs_ne (by decide) ((fl_h1.2 52 (by decide) (by omega)).trans s0)))))) (Nat.le_of_ble_eq_true rfl) (x_startWith _ _ ls lr _ _ ((f_h7.2 52 (by decide)).trans ((f_h5.2 52 (by decide)).trans (gs_ne (by decide) (gs_ne (by decide) (gs_ne (by decide) ((fl_h1.2 52 (by decide) (by omega)).trans s0)))))) ((f_h7.2 53 (by decide)).trans ((f_h5.2 53 (by decide)).trans (gs_ne (by decide) (gs_ne (by decide) (gs_ne (by decide) ((fl_h1.2 53 (by decide) (by omega)).trans s1)))))) ((f_h7.2 54 (by decide)).trans ((f_h5.2 54 (by decide)).trans (gs_ne (by decide) (gs_ne (by decide) (gs_ne (by decide) ((fl_h1.2 54 (by decide) (by omega)).trans s2))))))) (fun r9 h9 e10 => ?_)
      obtain ⟨rfl, f_h9, o_h9, re_h9, st_h9, i1_h9, i2_h9, hz_h9⟩ := e10
      show Wn _ _ 88 _ [] h9 _
      refine wn_ld (pc' := 89) (q := 0) (kin := 2) (v := .ref (0)) rfl (fun _ _ _ => rfl) rfl rfl ?_
      refine wn_get (pc' := 92) (v := .ref (23)) rfl rfl ((f_h9.2 0 (by decide)).trans ((f_h7.2 0 (by decide)).trans ((f_h5.2 0 (by decide)).trans (gs_ne (by decide) (gs_ne (by decide) (gs_self ((fl_h1.2 0 (by decide) (by omega)).trans b1))))))) rfl ?_
      refine wn_get (pc' := 95) (v := .ref (lr)) rfl rfl ((f_h9.2 23 (by decide)).trans ((f_h7.2 23 (by decide)).trans ((f_h5.2 23 (by decide)).trans (gs_ne (by decide) (gs_self (gs_ne (by decide) ((fl_h1.2 23 (by decide) (by omega)).trans s23))))))) rfl ?_
      refine wn_get (pc' := 98) (v := .int (w9 0)) rfl rfl ((f_h9.2 lr (by simp only [List.mem_cons, List.not_mem_nil, or_false]; omega)).trans ((f_h7.2 lr (by simp only [List.mem_cons, List.not_mem_nil, or_false]; omega)).trans ((f_h5.2 lr (by simp only [List.mem_cons, List.not_mem_nil, or_false]; omega)).trans (gs_ne (by omega) (gs_ne (by omega) (gs_ne (by omega) l0_h1)))))) rfl ?_
      have fr : Fr [0, 2, 23, 44, 45, 46, 47, 48, 49, 52, 53, 54] h1 (h9) := (Fr.tr (Fr.tr (Fr.tr (Fr.st (Fr.st (Fr.st (Fr.rfl' [0, 2, 23, 44, 45, 46, 47, 48, 49, 52, 53, 54] h1) (by decide)) (by decide)) (by decide)) f_h5 (fun x q => by simp only [List.mem_cons, List.not_mem_nil, or_false] at q ⊢; omega)) f_h7 (fun x q => by simp only [List.mem_cons, List.not_mem_nil, or_false] at q ⊢; omega)) f_h9 (fun x q => by simp only [List.mem_cons, List.not_mem_nil, or_false] at q ⊢; omega))
      have hk : ∀ k, k ≠ 0 → k ≠ 2 → k ≠ 23 → k < 44 ∨ 50 ≤ k → k < 52 ∨ 55 ≤ k → (h9)[k]? = h1[k]? := fun k a b c d e => fr.2 k (by simp only [List.mem_cons, List.not_mem_nil, or_false]; omega)
      exact wn_iret rfl rfl rfl ⟨.inr (p9, w9), ln_h1, wi_h1, rfl, fr.1.trans fl_h1.1, fun k a b c d e f => (hk k a b c e f).trans (fl_h1.2 k b d), ((f_h9.2 0 (by decide)).trans ((f_h7.2 0 (by decide)).trans ((f_h5.2 0 (by decide)).trans (gs_ne (by decide) (gs_ne (by decide) (gs_self ((fl_h1.2 0 (by decide) (by omega)).trans b1))))))), ⟨_, _, _, _, _, ((f_h9.2 2 (by decide)).trans ((f_h7.2 2 (by decide)).trans ((f_h5.2 2 (by decide)).trans (gs_self (gs_ne (by decide) (gs_ne (by decide) o_h1))))))⟩, ((f_h9.2 23 (by decide)).trans ((f_h7.2 23 (by decide)).trans ((f_h5.2 23 (by decide)).trans (gs_ne (by decide) (gs_self (gs_ne (by decide) ((fl_h1.2 23 (by decide) (by omega)).trans s23))))))), R1_h1.kp (fun k p1 p2 => hk k (by omega) (by omega) (by omega) (by omega) (by omega)), R2_h1.kp (fun k p1 p2 => hk k (by omega) (by omega) (by omega) (by omega) (by omega)), ⟨((f_h9.2 44 (by decide)).trans ((f_h7.2 44 (by decide)).trans o_h5)), _, _, ((f_h9.2 45 (by decide)).trans ((f_h7.2 45 (by decide)).trans i1_h5)), ((f_h9.2 46 (by decide)).trans ((f_h7.2 46 (by decide)).trans i2_h5)), hz_h5⟩, ⟨((f_h9.2 47 (by decide)).trans o_h7), _, _, ((f_h9.2 48 (by decide)).trans i1_h7), ((f_h9.2 49 (by decide)).trans i2_h7), na_h7, nw_h7⟩, o_h9, _, _, i1_h9, i2_h9, hz_h9⟩
    · have c4 : 1 = 0 := c4
      exact absurd c4 (by decide)

