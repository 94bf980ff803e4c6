/-! KEEP -/
noncomputable def kpA (a : Int32) : Int32 := qI (iin a 3) (nI 0) (-2)
def kpP (im w : Nat → Int32) (a k : Nat) : Nat → Int32 := fun p => if 2676 * a ≤ p ∧ p < 2676 * a + k then w (p - 2676 * a) else im p
theorem kpP_s {im w : Nat → Int32} {a k : Nat} : upd (kpP im w a k) (2676 * a + k) (w k) = kpP im w a (k + 1) := funext (fun p => by
  unfold kpP
  by_cases c : p = 2676 * a + k
  · rw [c, pk_us, if_pos (by omega), show 2676 * a + k - 2676 * a = k by omega]
  · rw [pk_un c]
    by_cases d : 2676 * a ≤ p ∧ p < 2676 * a + k
    · rw [if_pos d, if_pos (by omega)]
    · rw [if_neg d, if_neg (by omega)])
theorem kp_a {im w : Nat → Int32} {a : Nat} : ∀ p, p < 2676 → kpP im w a 2676 (2676 * a + p) = w p := fun p hp => by
  unfold kpP
  rw [if_pos (by omega), show 2676 * a + p - 2676 * a = p by omega]
theorem kp_o {im w : Nat → Int32} {a k : Nat} (h : k ≠ a) : ∀ p, p < 2676 → kpP im w a 2676 (2676 * k + p) = im (2676 * k + p) := fun p hp => if_neg (by omega)
theorem ImP.put {h h1 : aH} {im hi w : Nat → Int32} {ig ig' : Nat → Option Nat} {a q : Nat} (H : ImP h im hi ig) (hWf : WfW w) (hk : ∀ k' q', k' < 3 → k' ≠ a → ig k' = some q' → ∀ k, q' ≤ k → k < q' + 27 → h1[k]? = h[k]?) (hq : 85 ≤ q) (S : SceneR h1 q (q + 1) (q + 21) (q + 24) w) (e1 : ig' a = some q) (e2 : ∀ k, k ≠ a → ig' k = ig k) : ImP h1 (kpP im w a 2676) (upd hi a 1) ig' := by
  intro k hk3
  by_cases e : k = a
  · subst e
    exact Or.inr ⟨pk_us, q, e1, hq, SceneR.cg (w := w) (w' := fun p => kpP im w k 2676 (2676 * k + p)) kp_a hWf S, cg_wf (w := w) (w' := fun p => kpP im w k 2676 (2676 * k + p)) kp_a hWf⟩
  · rw [pk_un e, e2 k e]
    rcases H k hk3 with c | ⟨d1, q', d2, d3, d4, d5⟩
    · exact Or.inl c
    · have hh := hk k q' hk3 e d2
      have d6 := d4.kp (h' := h1) (hh _ (by omega) (by omega)) (fun k p1 p2 => hh k (by omega) (by omega)) (fun k p1 p2 => hh k (by omega) (by omega)) (fun k p1 p2 => hh k (by omega) (by omega))
      exact Or.inr ⟨d1, q', d2, d3, SceneR.cg (w := fun p => im (2676 * k + p)) (w' := fun p => kpP im w a 2676 (2676 * k + p)) (kp_o e) d5 d6, cg_wf (w := fun p => im (2676 * k + p)) (w' := fun p => kpP im w a 2676 (2676 * k + p)) (kp_o e) d5⟩
theorem kp_8 {im hi w : Nat → Int32} {a : Nat} {h : aH} {ig : Nat → Option Nat} (H : ImP h im hi ig) (hWf : WfW w) (h8 : Hd8 w) (g9 : ∀ k, k < 3 → hi k = 1 → Hd8 (fun p => im (2676 * k + p))) : ∀ k, k < 3 → upd hi a 1 k = 1 → Hd8 (fun p => kpP im w a 2676 (2676 * k + p)) := by
  intro k hk3 e1
  by_cases e : k = a
  · subst e; exact cg_8 (w := w) (w' := fun p => kpP im w k 2676 (2676 * k + p)) kp_a hWf h8
  · rw [pk_un e] at e1
    rcases H k hk3 with ⟨c, _⟩ | ⟨d1, q', d2, d3, d4, d5⟩
    · rw [c] at e1; exact absurd e1 (by decide)
    · exact cg_8 (w := fun p => im (2676 * k + p)) (w' := fun p => kpP im w a 2676 (2676 * k + p)) (kp_o e) d5 (g9 k hk3 e1)
theorem x_keepO (d : Nat) (h : aH) (ls : Nat) (w : Nat → Int32) (hWf : WfW w) (V : XV h ls w) (ig : Nat → Option Nat) (b13 : isA h 4 50 3 ig) (a : Int32) (hg : iin a 3 → ∀ k, a.toNatClampNeg = k → ∃ q, ig k = some q ∧ 85 ≤ q ∧ isO h q 4 [.ref (q + 1), .ref (q + 21), .ref (q + 24)] ∧ LandS h (q + 1) ∧ VoiceS h (q + 21) ∧ NotesS h (q + 24)) : Sp (Rn (d + 4)) 128 [.ref (0), .int (a)] h (fun r9 h9 => r9 = some (.int (kpA a)) ∧ (¬ iin a 3 → h9 = h) ∧ (iin a 3 → ∃ q, ig a.toNatClampNeg = some q ∧ 85 ≤ q ∧ h9.length = h.length ∧ (∀ k, k < q ∨ q + 27 ≤ k → h9[k]? = h[k]?) ∧ SceneR h9 q (q + 1) (q + 21) (q + 24) w)) := by
  obtain ⟨v0, ⟨x9, v1⟩, SN, v3⟩ := id V
  have v2 := SN.1
  refine Sp_of (by decide) (Nat.le_of_ble_eq_true rfl) ?_
  show Wn _ _ 0 [(0, .ref (0)), (1, .int (a))] [] _ _
  refine wn_ld (pc' := 1) (q := 1) (kin := 0) (v := .int (a)) rfl (fun _ _ _ => rfl) rfl rfl ?_
  refine wn_ifc (t := 9) (f := 4) rfl rfl rfl (fun c1 => ?_) (fun c1 => ?_)
  · have c1 : ((a)) < 0 := c1
    refine wn_bp (pc' := 11) (w := -2) rfl rfl (by decide) ?_
    simp only [Int32.lt_iff_toInt_lt, Int32.le_iff_toInt_le, i2l_int, Int32.toInt_zero, iin] at c1
    have en3 : (nI 3).toInt = 3 := by decide
    have nx : ¬ iin a 3 := fun q => by simp only [iin] at q; omega
    exact wn_iret rfl rfl rfl ⟨congrArg (fun z => some (Value.int z)) (qI_f nx).symm, fun _ => rfl, fun q => absurd q nx⟩
  · have c1 : 0 ≤ ((a)) := c1
    refine wn_ld (pc' := 5) (q := 1) (kin := 0) (v := .int (a)) rfl (fun _ _ _ => rfl) rfl rfl ?_
    refine wn_ic (pc' := 6) (w := nI 3) rfl rfl (by decide) ?_
    refine wn_icmp (t := 12) (f := 9) rfl rfl rfl (fun c2 => ?_) (fun c2 => ?_)
    · have c2 : ((a)) < ((nI (3))) := c2
      simp only [Int32.lt_iff_toInt_lt, Int32.le_iff_toInt_le, i2l_int, Int32.toInt_zero, iin] at c1
      simp only [Int32.lt_iff_toInt_lt, Int32.le_iff_toInt_le, i2l_int, Int32.toInt_zero, iin] at c2
      have en3 : (nI 3).toInt = 3 := by decide
      have ai : iin a 3 := ⟨by omega, by omega⟩
      obtain ⟨a9, ha9, rfl⟩ := iin_of ai
      have ti_a := nI_toInt (n := a9) (show a9 < 2 ^ 31 by omega)
      have cl_a := nI_clamp (n := a9) (show a9 < 2 ^ 31 by omega)
      obtain ⟨q, z2, z3, z4, S1, S2, S3⟩ := hg ai a9 cl_a
      refine wn_ld (pc' := 13) (q := 0) (kin := 2) (v := .ref (0)) rfl (fun _ _ _ => rfl) rfl rfl ?_
      refine wn_get (pc' := 16) (v := .ref (50)) rfl rfl v1 rfl ?_
      refine wn_ld (pc' := 17) (q := 1) (kin := 0) (v := .int (nI (a9))) rfl (fun _ _ _ => rfl) rfl rfl ?_
      refine wn_aaldv (pc' := 18) (j := a9) (v := .ref (q)) rfl rfl (Or.inl rfl) b13 rfl (by omega) (by decide) ((congrArg va_rf z2)) ?_
      refine wn_st (pc' := 19) (q := 2) (kin := 2) (lv' := [(0, .ref (0)), (1, .int (nI (a9))), (2, .ref (q))]) rfl (fun _ _ _ => rfl) rfl (Nat.le_of_ble_eq_true rfl) rfl ?_
      refine wn_ld (pc' := 20) (q := 2) (kin := 2) (v := .ref (q)) rfl (fun _ _ _ => rfl) rfl rfl ?_
      refine wn_nnR (t := 38) rfl rfl ?_
      refine wn_ld (pc' := 39) (q := 2) (kin := 2) (v := .ref (q)) rfl (fun _ _ _ => rfl) rfl rfl ?_
      refine wn_ld (pc' := 40) (q := 0) (kin := 2) (v := .ref (0)) rfl (fun _ _ _ => rfl) rfl rfl ?_
      refine wn_get (pc' := 43) (v := .ref (23)) rfl rfl v1 rfl ?_
      refine wn_virS (pc' := 46) rfl rfl (by decide) rfl rfl z4 (Nat.le_of_ble_eq_true rfl) (x_cpScene _ _ q (q + 1) (q + 21) (q + 24) 23 ls 44 47 w hWf (Or.inr ⟨rfl, v0, rfl, rfl, z3, rfl, rfl, rfl⟩) z4 S1 S2 S3 SN) (fun r9 h3 e4 => ?_)
      obtain ⟨rfl, l_h3, k_h3, R_h3⟩ := e4
      show Wn _ _ 46 _ [] h3 _
      refine wn_ic (pc' := 47) (w := nI 0) rfl rfl (by decide) ?_
      have i3 : iin (nI a9) 3 := iin_nI (by omega) (by omega)
      exact wn_iret rfl rfl rfl ⟨congrArg (fun z => some (Value.int z)) (qI_t i3).symm, fun q => absurd i3 q, fun _ => ⟨q, by rw [cl_a]; exact z2, z3, l_h3, fun k hk => k_h3 k (by omega) (by omega) (by omega), R_h3⟩⟩
    · have c2 : ((nI (3))) ≤ ((a)) := c2
      refine wn_bp (pc' := 11) (w := -2) rfl rfl (by decide) ?_
      simp only [Int32.lt_iff_toInt_lt, Int32.le_iff_toInt_le, i2l_int, Int32.toInt_zero, iin] at c1
      simp only [Int32.lt_iff_toInt_lt, Int32.le_iff_toInt_le, i2l_int, Int32.toInt_zero, iin] at c2
      have en3 : (nI 3).toInt = 3 := by decide
      have nx : ¬ iin a 3 := fun q => by simp only [iin] at q; omega
      exact wn_iret rfl rfl rfl ⟨congrArg (fun z => some (Value.int z)) (qI_f nx).symm, fun _ => rfl, fun q => absurd q nx⟩

theorem x_keepN (d : Nat) (h : aH) (ls n a9 : Nat) (w : Nat → Int32) (hWf : WfW w) (V : XV h ls w) (ig : Nat → Option Nat) (b13 : isA h 4 50 3 ig) (ha : a9 < 3) (z2 : ig a9 = none) (hl : h.length = n) (hn : 85 ≤ n) : ∃ h1, Rn (d + 4) 128 [.ref (0), .int (nI (a9))] h (some (.int (nI 0))) h1 27 2582 ∧ h1.length = n + 27 ∧ (∀ k, k < n → k ≠ 50 → h1[k]? = h[k]?) ∧ isA h1 4 50 3 (va_up ig a9 (some n)) ∧ SceneR h1 n (n + 1) (n + 21) (n + 24) w := by
  obtain ⟨v0, ⟨x9, v1⟩, SN, v3⟩ := id V
  have v2 := SN.1
  refine Rc_ofS (P := fun h1 => h1.length = n + 27 ∧ (∀ k, k < n → k ≠ 50 → h1[k]? = h[k]?) ∧ isA h1 4 50 3 (va_up ig a9 (some n)) ∧ SceneR h1 n (n + 1) (n + 21) (n + 24) w) (by decide) (Nat.le_of_ble_eq_true rfl) ?_
  show Wc _ _ 0 [(0, .ref (0)), (1, .int (nI (a9)))] [] _ _ _ _ _
  refine wc_ld (pc' := 1) (q := 1) (kin := 0) (v := .int (nI (a9))) rfl (fun _ _ _ _ => rfl) rfl rfl ?_
  refine wc_ifN (t := 9) (f := 4) rfl rfl rfl (by omega) (fun c1 => ?_) (fun c1 => ?_)
  · have c1 : a9 < 0 := c1; exfalso; omega
  refine wc_ld (pc' := 5) (q := 1) (kin := 0) (v := .int (nI (a9))) rfl (fun _ _ _ _ => rfl) rfl rfl ?_
  refine wc_ic (pc' := 6) (w := nI 3) rfl rfl (by decide) ?_
  refine wc_icmpN (t := 12) (f := 9) rfl rfl rfl (by omega) (by omega) (fun c2 => ?_) (fun c2 => ?_)
  rotate_left; · have c2 : 3 ≤ a9 := c2; exfalso; omega
  refine wc_ld (pc' := 13) (q := 0) (kin := 2) (v := .ref (0)) rfl (fun _ _ _ _ => rfl) rfl rfl ?_
  refine wc_get (pc' := 16) (v := .ref (50)) rfl rfl v1 rfl ?_
  refine wc_ld (pc' := 17) (q := 1) (kin := 0) (v := .int (nI (a9))) rfl (fun _ _ _ _ => rfl) rfl rfl ?_
  refine wc_aaldv (pc' := 18) (j := a9) (v := .null) rfl rfl (Or.inl rfl) b13 rfl (by omega) (by decide) ((congrArg va_rf z2)) ?_
  refine wc_st (pc' := 19) (q := 2) (kin := 2) (lv' := [(0, .ref (0)), (1, .int (nI (a9))), (2, .null)]) rfl (fun _ _ _ _ => rfl) rfl (Nat.le_of_ble_eq_true rfl) rfl ?_
  refine wc_ld (pc' := 20) (q := 2) (kin := 2) (v := .null) rfl (fun _ _ _ _ => rfl) rfl rfl ?_
  refine wc_nn0 (f := 23) rfl rfl ?_
  refine wc_newE (pc' := 26) (k := n) (c2 := 1) (s2 := 3) rfl rfl (by decide) (by decide) hl rfl rfl ?_
  refine wc_pu (pc' := 27) (st' := [.ref (n), .ref (n)]) rfl (fun _ _ _ _ => rfl) rfl rfl ?_
  refine wc_speS (pc' := 30) (c2 := 27) (s2 := 2582) rfl rfl (by decide) rfl rfl (Nat.le_of_ble_eq_true rfl) (c_Scene _ _ n (ln_app hl) (ap_new hl)) rfl rfl (by decide) (fun h3 e4 => ?_)
  obtain ⟨hv_h3, hc_h3, an_h3, wk_h3, l_h3, k_h3, a0_h3, a1_h3, a2_h3, a3_h3, a4_h3, a5_h3, a6_h3, a7_h3, a8_h3, a9_h3, a10_h3, a11_h3, a12_h3, a13_h3, a14_h3, a15_h3, a16_h3, a17_h3, a18_h3, a19_h3, a20_h3, a21_h3, a22_h3, a23_h3, a24_h3, a25_h3, a26_h3, vz_h3, na_h3, nw_h3⟩ := e4
  show Wc _ _ 30 _ [.ref (n)] h3 _ _ _ _
  refine wc_st (pc' := 31) (q := 2) (kin := 2) (lv' := [(0, .ref (0)), (1, .int (nI (a9))), (2, .ref (n))]) rfl (fun _ _ _ _ => rfl) rfl (Nat.le_of_ble_eq_true rfl) rfl ?_
  refine wc_ld (pc' := 32) (q := 0) (kin := 2) (v := .ref (0)) rfl (fun _ _ _ _ => rfl) rfl rfl ?_
  refine wc_get (pc' := 35) (v := .ref (50)) rfl rfl ((k_h3 0 (by omega)).trans (ap_old v1)) rfl ?_
  refine wc_ld (pc' := 36) (q := 1) (kin := 0) (v := .int (nI (a9))) rfl (fun _ _ _ _ => rfl) rfl rfl ?_
  refine wc_ld (pc' := 37) (q := 2) (kin := 2) (v := .ref (n)) rfl (fun _ _ _ _ => rfl) rfl rfl ?_
  refine wc_aast (pc' := 38) (j := a9) rfl rfl (Or.inl rfl) ((k_h3 50 (by omega)).trans (ap_old b13)) a0_h3 rfl (by omega) (by decide) ?_
  have FR : ∀ k, k < n → k ≠ 50 → (h3.set 50 (.inl (4, 3, .inr (.inr (.inr (.inr (va_up ig a9 (some n))))))))[k]? = h[k]? := fun k p1 p2 => (List.getElem?_set_ne (by omega)).trans ((fun j hj => (k_h3 j (by omega)).trans ((fq_app (fun _ _ => rfl) hl (by omega)) j hj)) k p1)
  refine wc_ld (pc' := 39) (q := 2) (kin := 2) (v := .ref (n)) rfl (fun _ _ _ _ => rfl) rfl rfl ?_
  refine wc_ld (pc' := 40) (q := 0) (kin := 2) (v := .ref (0)) rfl (fun _ _ _ _ => rfl) rfl rfl ?_
  refine wc_get (pc' := 43) (v := .ref (23)) rfl rfl (gs_ne (by decide) ((k_h3 0 (by omega)).trans (ap_old v1))) rfl ?_
  refine wc_virS (pc' := 46) rfl rfl (by decide) rfl rfl (gs_ne (by omega) a0_h3) (Nat.le_of_ble_eq_true rfl) (x_cpScene _ _ n (n + 1) (n + 21) (n + 24) 23 ls 44 47 w hWf (Or.inr ⟨rfl, v0, rfl, rfl, hn, rfl, rfl, rfl⟩) (gs_ne (by omega) a0_h3) ⟨_, _, _, _, _, _, _, _, _, _, _, _, _, _, _, _, _, _, _, _, _, _, _, _, (gs_ne (by omega) a1_h3), (gs_ne (by omega) a2_h3), (gs_ne (by omega) a3_h3), (gs_ne (by omega) a4_h3), (gs_ne (by omega) a5_h3), (gs_ne (by omega) a6_h3), (gs_ne (by omega) a7_h3), (gs_ne (by omega) a8_h3), (gs_ne (by omega) a9_h3), (fun r hr => ⟨Or.inl rfl, Or.inl rfl⟩), (gs_ne (by omega) a10_h3), (gs_ne (by omega) a11_h3), (gs_ne (by omega) a12_h3), (gs_ne (by omega) a13_h3), (gs_ne (by omega) a14_h3), (gs_ne (by omega) a15_h3), (gs_ne (by omega) a16_h3), (gs_ne (by omega) a17_h3), (gs_ne (by omega) a18_h3), (gs_ne (by omega) a19_h3), (gs_ne (by omega) a20_h3)⟩ ⟨_, _, _, (gs_ne (by omega) a21_h3), (gs_ne (by omega) a22_h3), (gs_ne (by omega) a23_h3)⟩ ⟨_, _, _, (gs_ne (by omega) a24_h3), (gs_ne (by omega) a25_h3), (gs_ne (by omega) a26_h3)⟩ (SN.kp (FR _ (by omega) (by decide)) (fun k p1 p2 => FR k (by omega) (by omega)) (fun k p1 p2 => FR k (by omega) (by omega)) (fun k p1 p2 => FR k (by omega) (by omega)))) (by decide) (fun r9 h5 e6 => ?_)
  obtain ⟨rfl, l_h5, k_h5, R_h5⟩ := e6
  show Wc _ _ 46 _ [] h5 _ _ _ _
  refine wc_ic (pc' := 47) (w := nI 0) rfl rfl (by decide) ?_
  exact wc_iret rfl rfl rfl ⟨rfl, rfl, (l_h5.trans (ln_set l_h3)), fun k p1 p2 => (k_h5 k (by omega) (by omega) (by omega)).trans (FR k p1 p2), ((k_h5 50 (by omega) (by omega) (by omega)).trans (gs_self ((k_h3 50 (by omega)).trans (ap_old b13)))), R_h5⟩

theorem m_keep (d : Nat) (h : aH) (w tp : Nat → Int32) (tl : Nat) (im hi : Nat → Int32) (fk fp : Int32) (mn wd : Nat → Int32) (nu : Nat → Int64) (HM : RepM h w tp tl im hi fk fp mn wd nu) (a : Int32) : Sp (Rn (d + 2)) 145 [.ref (71), .int (a)] h (fun r9 h9 => r9 = some (.int (kpA a)) ∧ (¬ iin a 3 → h9 = h) ∧ (iin a 3 → h9.length = h.length ∧ (∀ k, k ≠ 73 → k ≠ 74 → h9[k]? = h[k]?) ∧ isI h9 73 8028 (kpP im w a.toNatClampNeg 2676) ∧ isZ h9 74 3 (upd hi a.toNatClampNeg 1))) := by
  obtain ⟨th, sz, at9, fr, tk, vl, il, up, lo, fv, fs, sa9, tn, le, mv, q0, q1, q2, q3, q4, q5, q6, q7, q8, q9, q10, q11, q12, q13, q14⟩ := id HM
  refine Sp_of (by decide) (Nat.le_of_ble_eq_true rfl) ?_
  show Wn _ _ 0 [(0, .ref (71)), (1, .int (a))] [] _ _
  refine wn_ld (pc' := 1) (q := 1) (kin := 0) (v := .int (a)) rfl (fun _ _ _ => rfl) rfl rfl ?_
  refine wn_pu (pc' := 2) (st' := [.long (Int32.toInt64 (a))]) rfl (fun _ _ _ => rfl) rfl rfl ?_
  refine wn_pu (pc' := 3) (st' := .long (lN 0) :: [.long (Int32.toInt64 (a))]) rfl (fun _ _ _ => rfl) rfl rfl ?_
  refine wn_go (pc' := 6) (lv' := [(0, .ref (71)), (1, .int (a))]) (st' := [.long ((2 : Int64)), .long (lN 0), .long (Int32.toInt64 (a))]) rfl (fun _ _ _ k9 => k9) ?_
  refine wn_staI (pc' := 9) rfl rfl (by decide) rfl rfl (Nat.le_of_ble_eq_true rfl) (m_inK _ _ a 2 ((2 : Int64)) (by decide)) ?_
  refine wn_ifneB (t := 15) (f := 12) rfl rfl rfl (fun c1 => ?_) (fun c1 => ?_)
  · have c1 : (iin a 3) := c1
    obtain ⟨a9, ha9, rfl⟩ := iin_of c1
    have ti_a := nI_toInt (n := a9) (show a9 < 2 ^ 31 by omega)
    have cl_a := nI_clamp (n := a9) (show a9 < 2 ^ 31 by omega)
    refine wn_ic (pc' := 16) (w := nI 0) rfl rfl (by decide) ?_
    refine wn_st (pc' := 17) (q := 2) (kin := 0) (lv' := [(0, .ref (71)), (1, .int (nI (a9))), (2, .int (nI (0)))]) rfl (fun _ _ _ => rfl) rfl (Nat.le_of_ble_eq_true rfl) rfl ?_
    have lp3 : ∀ (n_lp3 : Nat) (g2 : aH) (im1 : Nat → Int32) (k : Nat), 2676 + 1 ≤ k + n_lp3 → Fr [73, 74] h g2 → isI g2 73 8028 im1 → isZ g2 74 3 hi → k ≤ 2676 → im1 = kpP im w a9 k → Wn (Rn (d + 1)) 145 17 [(0, .ref (71)), (1, .int (nI (a9))), (2, .int (nI (k)))] [] (g2) (fun r9 h9 => r9 = some (.int (kpA (nI a9))) ∧ (¬ iin (nI a9) 3 → h9 = h) ∧ (iin (nI a9) 3 → h9.length = h.length ∧ (∀ k, k ≠ 73 → k ≠ 74 → h9[k]? = h[k]?) ∧ isI h9 73 8028 (kpP im w (nI a9).toNatClampNeg 2676) ∧ isZ h9 74 3 (upd hi (nI a9).toNatClampNeg 1))) := by
      intro n_lp3
      induction n_lp3 with
      | zero => intro g2 im1 k hm_lp3 hf_g2 c_73_g2 c_74_g2 hk hZ; exfalso; omega
      | succ n_lp3 ih_lp3 =>
        intro g2 im1 k hm_lp3 hf_g2 c_73_g2 c_74_g2 hk hZ
        refine wn_ld (pc' := 18) (q := 2) (kin := 0) (v := .int (nI (k))) rfl (fun _ _ _ => rfl) rfl rfl ?_
        refine wn_sp (pc' := 21) (w := nI 2676) rfl rfl (by decide) ?_
        refine wn_icmpN (t := 48) (f := 24) rfl rfl rfl (by omega) (by omega) (fun c4 => ?_) (fun c4 => ?_)
        · have c4 : 2676 ≤ k := c4
          obtain rfl : k = 2676 := by omega
          refine wn_ld (pc' := 49) (q := 0) (kin := 2) (v := .ref (71)) rfl (fun _ _ _ => rfl) rfl rfl ?_
          refine wn_get (pc' := 52) (v := .ref (74)) rfl rfl ((hf_g2.2 71 (by decide)).trans q0) rfl ?_
          refine wn_ld (pc' := 53) (q := 1) (kin := 0) (v := .int (nI (a9))) rfl (fun _ _ _ => rfl) rfl rfl ?_
          refine wn_ic (pc' := 54) (w := nI 1) rfl rfl (by decide) ?_
          refine wn_bastZ (pc' := 55) (j := a9) rfl rfl c_74_g2 rfl (by omega) (by decide) ?_
          refine wn_ic (pc' := 56) (w := nI 0) rfl rfl (by decide) ?_
          have i3 : iin (nI a9) 3 := iin_nI (by omega) (by omega)
          refine wn_iret rfl rfl rfl ⟨congrArg (fun z => some (Value.int z)) (qI_t i3).symm, fun q => absurd i3 q, fun _ => ⟨(Fr.st hf_g2 (by decide)).1, fun k p1 p2 => (Fr.st hf_g2 (by decide)).2 k (by simp only [List.mem_cons, List.not_mem_nil, or_false]; omega), ?_, ?_⟩⟩
          · rw [cl_a, ← hZ]; exact (gs_ne (by decide) c_73_g2)
          · rw [cl_a, show (1 : Int32) = vp_nar .boolean (nI 1) by decide]; exact (gs_self c_74_g2)
        · have c4 : k < 2676 := c4
          refine wn_ld (pc' := 25) (q := 0) (kin := 2) (v := .ref (71)) rfl (fun _ _ _ => rfl) rfl rfl ?_
          refine wn_get (pc' := 28) (v := .ref (73)) rfl rfl ((hf_g2.2 71 (by decide)).trans q0) rfl ?_
          refine wn_sp (pc' := 31) (w := nI 2676) rfl rfl (by decide) ?_
          refine wn_ld (pc' := 32) (q := 1) (kin := 0) (v := .int (nI (a9))) rfl (fun _ _ _ => rfl) rfl rfl ?_
          refine wn_mulN (pc' := 33) rfl rfl ?_
          refine wn_ld (pc' := 34) (q := 2) (kin := 0) (v := .int (nI (k))) rfl (fun _ _ _ => rfl) rfl rfl ?_
          refine wn_addN (pc' := 35) rfl rfl ?_
          refine wn_ld (pc' := 36) (q := 0) (kin := 2) (v := .ref (71)) rfl (fun _ _ _ => rfl) rfl rfl ?_
          refine wn_get (pc' := 39) (v := .ref (72)) rfl rfl ((hf_g2.2 71 (by decide)).trans q0) rfl ?_
          refine wn_ld (pc' := 40) (q := 2) (kin := 0) (v := .int (nI (k))) rfl (fun _ _ _ => rfl) rfl rfl ?_
          refine wn_ialdv (pc' := 41) (j := k) (v := (w (k))) rfl rfl ((hf_g2.2 72 (by decide)).trans q1) rfl (by omega) (by decide) (rfl) ?_
          refine wn_iast (pc' := 42) (j := (2676 * a9) + k) rfl rfl c_73_g2 rfl (by omega) (by decide) ?_
          refine wn_incN (n := 1) (pc' := 45) (lv' := [(0, .ref (71)), (1, .int (nI (a9))), (2, .int (nI (k + 1)))]) rfl rfl rfl (Nat.le_of_ble_eq_true rfl) rfl (by decide) ?_
          refine wn_jp (pc' := 17) rfl rfl ?_
          refine wn_weak (lv' := [(0, .ref (71)), (1, .int (nI (a9))), (2, .int (nI (k + 1)))]) (by simp) ?_
          have z9 := ih_lp3 (g2.set 73 (.inl (0, 8028, .inl (upd im1 ((2676 * a9) + k) ((w (k))))))) (upd im1 ((2676 * a9) + k) ((w (k)))) (k + 1) (by omega) (Fr.st hf_g2 (by decide)) (gs_self c_73_g2) (gs_ne (by decide) c_74_g2) (by omega) (by rw [hZ]; exact kpP_s)
          exact z9
    refine wn_weak (lv' := [(0, .ref (71)), (1, .int (nI (a9))), (2, .int (nI (0)))]) (by simp) ?_
    have z9 := lp3 (2676 + 1) h im 0 (by omega) (Fr.rfl' [73, 74] h) q2 q3 (by omega) (funext (fun p => (if_neg (by omega)).symm))
    exact z9
  · have c1 : ¬ (iin a 3) := c1
    refine wn_bp (pc' := 14) (w := -2) rfl rfl (by decide) ?_
    exact wn_iret rfl rfl rfl ⟨congrArg (fun z => some (Value.int z)) (qI_f c1).symm, fun _ => rfl, fun q => absurd q c1⟩

theorem isLt {h : aH} {k : Nat} {x : aE} (e : h[k]? = some x) : k < h.length := (List.getElem?_eq_some_iff.mp e).1
theorem SceneR.lt {h : aH} {q : Nat} {w : Nat → Int32} (S : SceneR h q (q + 1) (q + 21) (q + 24) w) : q + 27 ≤ h.length := by
  obtain ⟨_, _, _, _, an, wk, _, _, e, _⟩ := S
  have := isLt e
  omega
theorem kase_39 (a : Int32) : CaseI Rq 128 145 [.int a] := by
  intro h hR
  obtain ⟨w, tp, tl, im, hi, fk, fp, mn, wd, nu, ⟨g1, g8, g9⟩, g2, HM, HC⟩ := id hR
  obtain ⟨ls, lr, ct, bu, lb, ft, ta, un, ln, k9, s9, a9, n9, ig, sg, b0, b1, b2, b3, b4, b5, b6, b7, b8, b9, b10, b11, b12, b13, b14, b15, b16, b17⟩ := id HC
  obtain ⟨re, stl, vr, ne, ms, s0, s1, s2, s3, s4, s5, s6⟩ := id b7
  have V : XV h ls w := ⟨by omega, ⟨_, b1⟩, b6, s0⟩
  have b14 : ImP h im hi ig := b14
  have main : ∀ (h1 : aH) (cc ss : Nat), cc ≤ 27 → ss ≤ 2582 → Rn 700 128 [.ref 0, .int a] h (some (.int (kpA a))) h1 cc ss → (∀ k, 71 ≤ k → k < 85 → h1[k]? = h[k]?) → (iin a 3 → RepC h1 w tp tl (kpP im w a.toNatClampNeg 2676) (upd hi a.toNatClampNeg 1) fk fp mn wd nu) → (¬ iin a 3 → h1 = h) → ∃ (r : Int32) (h1 h2 : aH) (cc ss : Nat) (f0 f1 : List Value), cc ≤ 27 ∧ ss ≤ 2582 ∧ h[0]? = some (.inr (8, f0)) ∧ Rn 700 128 [.ref 0, .int a] h (some (.int r)) h1 cc ss ∧ h1[71]? = some (.inr (9, f1)) ∧ Rn 700 145 [.ref 71, .int a] h1 (some (.int r)) h2 0 0 ∧ Rq h2 := by
    intro h1 cc ss c1 c2 x1 fr1 hc1 hn1
    have HM1 := HM.kp (h' := h1) fr1
    obtain ⟨r2, h2, x2, rfl, n2, y2⟩ := m_keep 698 h1 w tp tl im hi fk fp mn wd nu HM1 a
    obtain ⟨th, sz, at9, fr, tk, vl, il, up, lo, fv, fs, sa9, tn, le, mv, q0, q1, q2, q3, q4, q5, q6, q7, q8, q9, q10, q11, q12, q13, q14⟩ := id HM1
    by_cases c : iin a 3
    · obtain ⟨l2, k2, I2, Z2⟩ := y2 c
      have HM2 : RepM h2 w tp tl (kpP im w a.toNatClampNeg 2676) (upd hi a.toNatClampNeg 1) fk fp mn wd nu := ⟨th, sz, at9, fr, tk, vl, il, up, lo, fv, fs, sa9, tn, le, mv, q0.kp (k2 _ (by decide) (by decide)), q1.kp (k2 _ (by decide) (by decide)), I2, Z2, q4.kp (k2 _ (by decide) (by decide)), q5.kp (k2 _ (by decide) (by decide)), q6.kp (k2 _ (by decide) (by decide)), q7.kp (k2 _ (by decide) (by decide)), q8.kp (k2 _ (by decide) (by decide)), q9.kp (k2 _ (by decide) (by decide)), q10.kp (k2 _ (by decide) (by decide)), q11.kp (k2 _ (by decide) (by decide)), q12.kp (k2 _ (by decide) (by decide)), q13.kp (k2 _ (by decide) (by decide)), q14⟩
      have HC2 := (hc1 c).kp (h' := h2) (fun k p => k2 k (by omega) (by omega))
      exact ⟨_, h1, h2, cc, ss, _, _, c1, c2, b1, x1, q0, x2, w, tp, tl, _, _, fk, fp, mn, wd, nu, ⟨g1, g8, kp_8 b14 g1 g8 g9⟩, g2, HM2, HC2⟩
    · obtain rfl := n2 c
      obtain rfl := hn1 c
      exact ⟨_, h2, h2, cc, ss, _, _, c1, c2, b1, x1, q0, x2, hR⟩
  by_cases c : iin a 3
  · obtain ⟨a8, ha8, rfl⟩ := iin_of c
    have cl := nI_clamp (n := a8) (show a8 < 2 ^ 31 by omega)
    rcases b14 a8 ha8 with ⟨z1, z2⟩ | ⟨z1, q, z2, z3, z4, z5⟩
    · have hn : 85 ≤ h.length := by
        obtain ⟨_, _, _, _, _, _, _, _, _, _, _, _, _, _, _, _, _, _, _, _, _, _, _, _, _, _, _, _, q13, _⟩ := id HM
        have := isLt q13
        omega
      obtain ⟨h1, x1, l1, k1, A1, S1⟩ := x_keepN 696 h ls h.length a8 w g1 V ig b13 ha8 z2 rfl hn
      refine main h1 27 2582 (by decide) (by decide) (by rw [show kpA (nI a8) = nI 0 from qI_t c]; exact x1) (fun k p1 p2 => k1 k (by omega) (by omega)) (fun _ => ?_) (fun q => absurd c q)
      rw [cl]
      refine ⟨ls, lr, ct, bu, lb, ft, ta, un, ln, k9, s9, a9, n9, va_up ig a8 (some h.length), sg, b0, b1.kp (k1 _ (by omega) (by omega)), b2.kp (k1 _ (by omega) (by omega)), b3, b4.kp (k1 _ (by omega) (by omega)), b5.kp (fun k p1 p2 => (k1 k (by omega) (by omega))), b6.kp (k1 _ (by omega) (by omega)) (fun k p1 p2 => (k1 k (by omega) (by omega))) (fun k p1 p2 => (k1 k (by omega) (by omega))) (fun k p1 p2 => (k1 k (by omega) (by omega))), b7.kp (fun k p1 p2 => (k1 k (by omega) (by omega))), b8.kp (k1 _ (by omega) (by omega)), b9.kp (k1 _ (by omega) (by omega)), b10.kp (k1 _ (by omega) (by omega)), b11.kp (k1 _ (by omega) (by omega)), b12.kp (k1 _ (by omega) (by omega)), A1, ImP.put b14 g1 (fun k' q' p1 p2 p3 k p4 p5 => ?_) hn S1 (if_pos rfl) (fun k e => if_neg e), fun k k' q q' p1 p2 p3 p4 p5 => ?_, b16.kp (k1 _ (by omega) (by omega)), fun k p1 => ?_⟩
      · rcases b14 k' p1 with ⟨e1, e2⟩ | ⟨d1, q, d2, d3, d4, d5⟩
        · rw [p3] at e2; cases e2
        · rw [p3] at d2
          cases d2
          have := d4.lt
          exact k1 k (by omega) (by omega)
      · have old : ∀ k q, k < 3 → ig k = some q → q + 27 ≤ h.length := fun k q p1 p2 => by
          rcases b14 k p1 with ⟨e1, e2⟩ | ⟨d1, q', d2, d3, d4, d5⟩
          · rw [p2] at e2; cases e2
          · rw [p2] at d2
            cases d2
            exact d4.lt
        by_cases e : k = a8
        · subst e
          have e1 : some h.length = some q := (show va_up ig k (some h.length) k = some h.length from if_pos rfl).symm.trans p4
          cases e1
          have e2 : ig k' = some q' := (show va_up ig k (some h.length) k' = ig k' from if_neg (fun e => p3 e.symm)).symm.trans p5
          exact Or.inr (old k' q' p2 e2)
        · have e1 : ig k = some q := (show va_up ig a8 (some h.length) k = ig k from if_neg e).symm.trans p4
          by_cases e' : k' = a8
          · subst e'
            have e2 : some h.length = some q' := (show va_up ig k' (some h.length) k' = some h.length from if_pos rfl).symm.trans p5
            cases e2
            exact Or.inl (old k q p1 e1)
          · have e2 : ig k' = some q' := (show va_up ig a8 (some h.length) k' = ig k' from if_neg e').symm.trans p5
            exact b15 k k' q q' p1 p2 p3 e1 e2
      · obtain ⟨d1, d2, nm, d3, d4⟩ := b17 k p1
        exact ⟨d1, d2.kp (k1 _ (by omega) (by omega)), nm, d3.kp (k1 _ (by omega) (by omega)), d4⟩
    · obtain ⟨r1, h1, x1, rfl, n1, y1⟩ := x_keepO 696 h ls w g1 V ig b13 (nI a8) (fun _ k e => by rw [cl] at e; subst e; exact ⟨q, z2, z3, z4.1, z4.2.1.s z4.2.2.1, z4.2.2.2.1.s, z4.2.2.2.2.s⟩)
      obtain ⟨q2, e2, e3, l1, k1, S1⟩ := y1 c
      rw [cl] at e2
      rw [z2] at e2
      cases e2
      refine main h1 0 0 (by decide) (by decide) x1 (fun k p1 p2 => k1 k (by omega)) (fun _ => ?_) (fun q => absurd c q)
      rw [cl]
      refine ⟨ls, lr, ct, bu, lb, ft, ta, un, ln, k9, s9, a9, n9, ig, sg, b0, b1.kp (k1 _ (by omega)), b2.kp (k1 _ (by omega)), b3, b4.kp (k1 _ (by omega)), b5.kp (fun k p1 p2 => (k1 k (by omega))), b6.kp (k1 _ (by omega)) (fun k p1 p2 => (k1 k (by omega))) (fun k p1 p2 => (k1 k (by omega))) (fun k p1 p2 => (k1 k (by omega))), b7.kp (fun k p1 p2 => (k1 k (by omega))), b8.kp (k1 _ (by omega)), b9.kp (k1 _ (by omega)), b10.kp (k1 _ (by omega)), b11.kp (k1 _ (by omega)), b12.kp (k1 _ (by omega)), b13.kp (k1 _ (by omega)), ImP.put b14 g1 (fun k' q' p1 p2 p3 k p4 p5 => ?_) z3 S1 z2 (fun _ _ => rfl), b15, b16.kp (k1 _ (by omega)), fun k p1 => ?_⟩
      · have := b15 k' a8 q' q p1 ha8 p2 p3 z2
        exact k1 k (by omega)
      · obtain ⟨d1, d2, nm, d3, d4⟩ := b17 k p1
        exact ⟨d1, d2.kp (k1 _ (by omega)), nm, d3.kp (k1 _ (by omega)), d4⟩
  · obtain ⟨r1, h1, x1, rfl, n1, y1⟩ := x_keepO 696 h ls w g1 V ig b13 a (fun q => absurd q c)
    exact main h1 0 0 (by decide) (by decide) x1 (fun k p1 p2 => by rw [n1 c]) (fun q => absurd q c) n1
