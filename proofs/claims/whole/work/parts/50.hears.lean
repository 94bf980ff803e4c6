/-! HEARS -/
theorem wn_top {C : aC} {i pc : Nat} {lv : aL} {st : List Value} {h : aH} {Q : Option Value → aH → Prop} {x y : Int32} (e : x = y) (k : Wn C i pc lv (.int y :: st) h Q) : Wn C i pc lv (.int x :: st) h Q := by subst e; exact k
theorem XV.wr {h h' : aH} {ls : Nat} {w w' : Nat → Int32} (V : XV h ls w) (hWf : WfW w) (A : AgW w w') (hk : ∀ k, k < 44 ∨ 50 ≤ k → h'[k]? = h[k]?) (V' : VoiceR h' 44 w') (N' : NotesR h' 47 w') : XV h' ls w' := by
  obtain ⟨a0, ⟨x, a1⟩, ⟨c0, c1, c2, c3, c4⟩, a3⟩ := V
  exact ⟨a0, ⟨x, a1.kp (hk _ (by omega))⟩, ⟨c0.kp (hk _ (by omega)), (c1.kp (fun k p1 p2 => hk k (by omega))).ag hWf A, (c2.kp (fun k p1 p2 => hk k (by omega))).ag hWf A, V', N'⟩, a3.kp (hk _ (by omega))⟩
theorem hdN_pos {w : Nat → Int32} {i n : Nat} (hi : i < n) (h : ¬ w (178 + 4 * i) = -1) : 1 ≤ hdN w n := by
  induction n with
  | zero => omega
  | succ n ih =>
    by_cases c : i = n
    · subst c; rw [hdN_t h]; omega
    · have := ih (by omega)
      show 1 ≤ hdN w n + _
      omega
theorem hear_ok {w : Nat → Int32} {i a : Int32} (hWf : WfW w) (h : hearC w i a ∧ ¬ hearF w i.toNatClampNeg) : 1 ≤ (hearA w i a).toInt := by
  obtain ⟨c0, c3⟩ := h
  have b2 := hWf.1.2.2.2.1.2
  obtain ⟨i9, q1, rfl⟩ := iin_of c0.1
  have hl := hdN_le w (ntW w)
  unfold hearA
  rw [qI_t c0, qI_f c3, nI_clamp (by omega)]
  by_cases d : w (178 + 4 * i9) = -1
  · rw [if_pos d, nI_toInt (by omega)]; omega
  · rw [if_neg d, nI_toInt (by omega)]
    have := hdN_pos q1 d
    omega
theorem hear_no {w : Nat → Int32} {i a : Int32} (h : ¬ (hearC w i a ∧ ¬ hearF w i.toNatClampNeg)) : (hearA w i a).toInt < 0 := by
  unfold hearA
  by_cases c : hearC w i a
  · rw [qI_t c, qI_t (Classical.not_not.mp (fun q => h ⟨c, q⟩))]; decide
  · rw [qI_f c]; decide
def hsO (w : Nat → Int32) (a v : Int64) : Prop := (0 ≤ a.toInt ∧ a.toInt < 10 ∧ 0 ≤ v.toInt ∧ v.toInt < 5) ∧ hearC w (Int64.toInt32 a) (Int64.toInt32 v) ∧ ¬ hearF w (Int64.toInt32 a).toNatClampNeg
noncomputable def hsW (w : Nat → Int32) (a v : Int64) : Nat → Int32 := qW (hsO w a v) (hearW w (Int64.toInt32 a) (Int64.toInt32 v) False) w
noncomputable def hsA (w : Nat → Int32) (a v : Int64) : Nat := @ite Nat (hsO w a v) (Classical.propDecidable _) 1 0
noncomputable def hsS (nu : Nat → Int64) (b : Nat) (w : Nat → Int32) : Nat → Nat → Int32
  | 0 => w
  | y + 1 => hsW (hsS nu b w y) (nu (b + (2 * y))) (nu (b + (2 * y + 1)))
noncomputable def hsN (nu : Nat → Int64) (b : Nat) (w : Nat → Int32) : Nat → Nat
  | 0 => 0
  | y + 1 => hsN nu b w y + hsA (hsS nu b w y) (nu (b + (2 * y))) (nu (b + (2 * y + 1)))
section HS
variable {nu : Nat → Int64} {b y : Nat} {w : Nat → Int32}
theorem hs_s0 (h : ¬ hsO (hsS nu b w y) (nu (b + (2 * y))) (nu (b + (2 * y + 1)))) : hsS nu b w (y + 1) = hsS nu b w y := qW_f h
theorem hs_s1 (h : hsO (hsS nu b w y) (nu (b + (2 * y))) (nu (b + (2 * y + 1)))) : hsS nu b w (y + 1) = hearW (hsS nu b w y) (Int64.toInt32 (nu (b + (2 * y)))) (Int64.toInt32 (nu (b + (2 * y + 1)))) False := qW_t h
theorem hs_n0 (h : ¬ hsO (hsS nu b w y) (nu (b + (2 * y))) (nu (b + (2 * y + 1)))) : hsN nu b w (y + 1) = hsN nu b w y := by
  show hsN nu b w y + hsA _ _ _ = _
  unfold hsA
  rw [if_neg h]; rfl
theorem hs_n1 (h : hsO (hsS nu b w y) (nu (b + (2 * y))) (nu (b + (2 * y + 1)))) : hsN nu b w (y + 1) = hsN nu b w y + 1 := by
  show hsN nu b w y + hsA _ _ _ = _
  unfold hsA
  rw [if_pos h]
theorem hs_le : hsN nu b w y ≤ y := by
  induction y with
  | zero => exact Nat.le_refl _
  | succ y ih =>
    by_cases h : hsO (hsS nu b w y) (nu (b + (2 * y))) (nu (b + (2 * y + 1)))
    · rw [hs_n1 h]; omega
    · rw [hs_n0 h]; omega
theorem hs_f (hWf : WfW w) (h8 : Hd8 w) : ∀ y, WfW (hsS nu b w y) ∧ Hd8 (hsS nu b w y) ∧ AgW w (hsS nu b w y) := fun y => by
  induction y with
  | zero => exact ⟨hWf, h8, AgW.rfl'⟩
  | succ y ih =>
    obtain ⟨i1, i2, i3⟩ := ih
    by_cases h : hsO (hsS nu b w y) (nu (b + (2 * y))) (nu (b + (2 * y + 1)))
    · rw [hs_s1 h]
      obtain ⟨j1, j2, j3⟩ := hear_w (Int64.toInt32 (nu (b + (2 * y)))) (Int64.toInt32 (nu (b + (2 * y + 1)))) False i1 i2
      exact ⟨j1, j2, AgW.tr i3 j3⟩
    · rw [hs_s0 h]; exact ⟨i1, i2, i3⟩
end HS
theorem l2i_s {a : Int64} (h1 : 0 ≤ a.toInt) (h2 : a.toInt < 100) : (Int64.toInt32 a).toInt = a.toInt := by
  rw [Int64.toInt_toInt32]
  exact Int.bmod_eq_of_le (by omega) (by omega)
theorem hs_yes {w : Nat → Int32} {a v : Int64} (hWf : WfW w) (h1 : 0 ≤ a.toInt) (h2 : a.toInt ≤ 10) (h3 : 0 ≤ v.toInt) (h4 : v.toInt ≤ 5) (h : hearC w (Int64.toInt32 a) (Int64.toInt32 v) ∧ ¬ hearF w (Int64.toInt32 a).toNatClampNeg) : hsO w a v := by
  refine ⟨?_, h⟩
  obtain ⟨⟨⟨c1, c2⟩, c3, c4⟩, _⟩ := h
  have b2 := hWf.1.2.2.2.1.2
  have e1 := l2i_s h1 (by omega)
  have e2 := l2i_s h3 (by omega)
  obtain ⟨i9, q1, e⟩ := iin_of (x := Int64.toInt32 a) ⟨c1, c2⟩
  rw [e, nI_clamp (by omega)] at c4
  have := wf_vab hWf q1
  omega
noncomputable def hearsA (s : Int32) (w mn : Nat → Int32) (nu : Nat → Int64) : Int32 := qI (iin s 4) (qI (mn s.toNatClampNeg = -1) (-6) (nI (hsN nu (60 * s.toNatClampNeg) w ((mn s.toNatClampNeg).toNatClampNeg / 2)))) (-2)
noncomputable def hearsW (s : Int32) (w mn : Nat → Int32) (nu : Nat → Int64) : Nat → Int32 := qW (iin s 4 ∧ ¬ mn s.toNatClampNeg = -1) (hsS nu (60 * s.toNatClampNeg) w ((mn s.toNatClampNeg).toNatClampNeg / 2)) w
theorem hears_w (s : Int32) {w mn : Nat → Int32} {nu : Nat → Int64} (hWf : WfW w) (h8 : Hd8 w) : WfW (hearsW s w mn nu) ∧ Hd8 (hearsW s w mn nu) ∧ AgW w (hearsW s w mn nu) := by
  unfold hearsW
  by_cases c : iin s 4 ∧ ¬ mn s.toNatClampNeg = -1
  · rw [qW_t c]; exact hs_f hWf h8 _
  · rw [qW_f c]; exact ⟨hWf, h8, AgW.rfl'⟩
theorem kase_h {jx jm : Nat} {As : List Value} (fA : (Nat → Int32) → (Nat → Int32) → (Nat → Int64) → Int32) (fW : (Nat → Int32) → (Nat → Int32) → (Nat → Int64) → Nat → Int32) (hW : ∀ w mn nu, WfW w → Hd8 w → WfW (fW w mn nu) ∧ Hd8 (fW w mn nu) ∧ AgW w (fW w mn nu)) (hx : ∀ h ls w tp tl mn wd nu, WfW w → Hd8 w → WfS tp tl mn wd → XV h ls w → SlV h mn wd nu → Sp (Rn 700) jx (.ref 0 :: As) h (fun r9 h' => r9 = some (.int (fA w mn nu)) ∧ h'.length = h.length ∧ (∀ k, k < 44 ∨ 50 ≤ k → h'[k]? = h[k]?) ∧ VoiceR h' 44 (fW w mn nu) ∧ NotesR h' 47 (fW w mn nu))) (hm : ∀ h1 w tp tl mn wd nu, WfW w → Hd8 w → WfS tp tl mn wd → MH h1 w → MtV h1 tp tl mn wd nu → Sp (Rn 700) jm (.ref 71 :: As) h1 (fun r9 h' => r9 = some (.int (fA w mn nu)) ∧ h'.length = h1.length ∧ (∀ k, k ≠ 72 → h'[k]? = h1[k]?) ∧ isI h' 72 2676 (fW w mn nu))) : CaseI Rq jx jm As := by
  intro h hR
  obtain ⟨w, tp, tl, im, hi, fk, fp, mn, wd, nu, ⟨g1, g8, g9⟩, g2, HM, HC⟩ := id hR
  obtain ⟨ls, V, R⟩ := HC.xv
  obtain ⟨w1, w2, w3⟩ := hW w mn nu g1 g8
  obtain ⟨r1, h1, x1, rfl, l1, k1, V1, N1⟩ := hx h ls w tp tl mn wd nu g1 g8 g2 V HC.sl
  obtain ⟨HC1, F1⟩ := HC.wr g1 w3 l1 k1 V1 N1
  have HM1 := HM.kp (h' := h1) (fun k p1 p2 => F1.2 k p1 p2)
  obtain ⟨r2, h2, x2, rfl, l2, k2, W2⟩ := hm h1 w tp tl mn wd nu g1 g8 g2 HM1.mq.mh HM1.mt
  obtain ⟨HM2, F2⟩ := HM1.wr g1 w3 l2 k2 W2
  have HC2 := HC1.kp (h' := h2) F2.2
  obtain ⟨a0, ⟨x, a1⟩, a2, a3⟩ := V
  obtain ⟨th, tp9, sz, at9, fr, tk, vl, fk9, fp9, il, up, lo, q0, q1⟩ := HM1.mq.mh
  exact ⟨_, h1, h2, 0, 0, _, _, by decide, by decide, a1, x1, q0, x2, fW w mn nu, tp, tl, im, hi, fk, fp, mn, wd, nu, ⟨w1, w2, g9⟩, g2, HM2, HC2⟩
theorem BI0 : nI 0 = bI False := by rw [bI_f (fun q => q)]; rfl
theorem x_hears (d : Nat) (h : aH) (ls : Nat) (w tp : Nat → Int32) (tl : Nat) (mn wd : Nat → Int32) (nu : Nat → Int64) (hWf : WfW w) (h8 : Hd8 w) (hS : WfS tp tl mn wd) (V : XV h ls w) (SL : SlV h mn wd nu) (s : Int32) : Sp (Rn (d + 4)) 94 [.ref (0), .int (s)] h (fun r9 h9 => r9 = some (.int (hearsA s w mn nu)) ∧ h9.length = h.length ∧ (∀ k, k < 44 ∨ 50 ≤ k → h9[k]? = h[k]?) ∧ VoiceR h9 44 (hearsW s w mn nu) ∧ NotesR h9 47 (hearsW s w mn nu)) := by
  obtain ⟨sg, sl1, sl2⟩ := id SL
  obtain ⟨v0, ⟨x9, v1⟩, _⟩ := id V
  refine Sp_of (by decide) (Nat.le_of_ble_eq_true rfl) ?_
  show Wn _ _ 0 [(0, .ref (0)), (1, .int (s))] [] _ _
  refine wn_ld (pc' := 1) (q := 1) (kin := 0) (v := .int (s)) rfl (fun _ _ _ => rfl) rfl rfl ?_
  refine wn_staI (pc' := 4) rfl rfl (by decide) rfl rfl (Nat.le_of_ble_eq_true rfl) (x_isSlot _ _ _) ?_
  refine wn_ifneB (t := 10) (f := 7) rfl rfl rfl (fun c1 => ?_) (fun c1 => ?_)
  · have c1 : (iin s 4) := c1
    obtain ⟨s9, hs9, rfl⟩ := iin_of c1
    have ti_s := nI_toInt (n := s9) (show s9 < 2 ^ 31 by omega)
    have cl_s := nI_clamp (n := s9) (show s9 < 2 ^ 31 by omega)
    obtain ⟨nm_s9, nj_s9, nv_s9⟩ := (sl2 s9 (by omega)).2.2
    refine wn_ld (pc' := 11) (q := 0) (kin := 2) (v := .ref (0)) rfl (fun _ _ _ => rfl) rfl rfl ?_
    refine wn_get (pc' := 14) (v := .ref (51)) rfl rfl v1 rfl ?_
    refine wn_ld (pc' := 15) (q := 1) (kin := 0) (v := .int (nI (s9))) rfl (fun _ _ _ => rfl) rfl rfl ?_
    refine wn_aaldv (pc' := 16) (j := s9) (v := .ref (63 + 2 * s9)) rfl rfl (Or.inr rfl) sl1 rfl (by omega) (by decide) ((congrArg va_rf (sl2 s9 (by omega)).1)) ?_
    refine wn_st (pc' := 17) (q := 2) (kin := 2) (lv' := [(0, .ref (0)), (1, .int (nI (s9))), (2, .ref (63 + 2 * s9))]) rfl (fun _ _ _ => rfl) rfl (Nat.le_of_ble_eq_true rfl) rfl ?_
    refine wn_ld (pc' := 18) (q := 2) (kin := 2) (v := .ref (63 + 2 * s9)) rfl (fun _ _ _ => rfl) rfl rfl ?_
    refine wn_get (pc' := 21) (v := .int (mn s9)) rfl rfl (sl2 s9 (by omega)).2.1 rfl ?_
    refine wn_ic (pc' := 22) (w := -1) rfl rfl (by decide) ?_
    refine wn_icmp (t := 28) (f := 25) rfl rfl rfl (fun c2 => ?_) (fun c2 => ?_)
    · have c2 : ¬ ((mn s9)) = ((-1)) := c2
      obtain ⟨m_s9, hm_s9, em_s9⟩ := (hS.2.2 s9 (by omega)).1.resolve_left c2
      have tm_s9 : (mn s9).toInt = (m_s9 : Int) := by rw [em_s9]; exact nI_toInt (by omega)
      have hsf := hs_f (nu := nu) (b := 60 * s9) hWf h8
      have so : isO h (63 + 2 * s9) 5 [.int (wd s9), .int (nI m_s9), .ref (64 + 2 * s9)] := by rw [← em_s9]; exact (sl2 s9 (by omega)).2.1
      refine wn_ic (pc' := 29) (w := nI 0) rfl rfl (by decide) ?_
      refine wn_st (pc' := 30) (q := 3) (kin := 0) (lv' := [(0, .ref (0)), (1, .int (nI (s9))), (2, .ref (63 + 2 * s9)), (3, .int (nI (0)))]) rfl (fun _ _ _ => rfl) rfl (Nat.le_of_ble_eq_true rfl) rfl ?_
      refine wn_ic (pc' := 31) (w := nI 0) rfl rfl (by decide) ?_
      refine wn_st (pc' := 33) (q := 4) (kin := 0) (lv' := [(0, .ref (0)), (1, .int (nI (s9))), (2, .ref (63 + 2 * s9)), (3, .int (nI (0))), (4, .int (nI (0)))]) rfl (fun _ _ _ => rfl) rfl (Nat.le_of_ble_eq_true rfl) rfl ?_
      have lp4 : ∀ (n_lp4 : Nat) (g3 : aH) (y : Nat), 31 + 1 ≤ y + n_lp4 → g3.length = h.length → (∀ k, k < 44 ∨ 50 ≤ k → g3[k]? = h[k]?) → XV g3 ls (hsS nu (60 * s9) w y) → 2 * y ≤ m_s9 → Wn (Rn (d + 3)) 94 33 [(0, .ref (0)), (1, .int (nI (s9))), (2, .ref (63 + 2 * s9)), (3, .int (nI (hsN nu (60 * s9) w y))), (4, .int (nI (2 * y)))] [] (g3) (fun r9 h9 => r9 = some (.int (hearsA (nI s9) w mn nu)) ∧ h9.length = h.length ∧ (∀ k, k < 44 ∨ 50 ≤ k → h9[k]? = h[k]?) ∧ VoiceR h9 44 (hearsW (nI s9) w mn nu) ∧ NotesR h9 47 (hearsW (nI s9) w mn nu)) := by
        intro n_lp4
        induction n_lp4 with
        | zero => intro g3 y hm_lp4 ln_g3 kf_g3 V_g3 hy; exfalso; omega
        | succ n_lp4 ih_lp4 =>
          intro g3 y hm_lp4 ln_g3 kf_g3 V_g3 hy
          obtain ⟨_, ⟨x9_g3, v1_g3⟩, _⟩ := id V_g3
          have := hs_le (nu := nu) (b := 60 * s9) (w := w) (y := y)
          have i0J : (lN 0).toInt = 0 := by decide
          have i5J : (5 : Int64).toInt = 5 := by decide
          have i10J : (10 : Int64).toInt = 10 := by decide
          refine wn_ld (pc' := 35) (q := 4) (kin := 0) (v := .int (nI (2 * y))) rfl (fun _ _ _ => rfl) rfl rfl ?_
          refine wn_ic (pc' := 36) (w := nI 1) rfl rfl (by decide) ?_
          refine wn_addN (pc' := 37) rfl rfl ?_
          refine wn_ld (pc' := 38) (q := 2) (kin := 2) (v := .ref (63 + 2 * s9)) rfl (fun _ _ _ => rfl) rfl rfl ?_
          refine wn_get (pc' := 41) (v := .int (nI (m_s9))) rfl rfl ((kf_g3 (63 + 2 * s9) (by omega)).trans so) rfl ?_
          refine wn_icmpN (t := 131) (f := 44) rfl rfl rfl (by omega) (by omega) (fun c5 => ?_) (fun c5 => ?_)
          · have c5 : m_s9 ≤ ((2 * y) + 1) := c5
            obtain rfl : y = m_s9 / 2 := by omega
            refine wn_ld (pc' := 132) (q := 3) (kin := 0) (v := .int (nI (hsN nu (60 * s9) w (m_s9 / 2)))) rfl (fun _ _ _ => rfl) rfl rfl ?_
            have eW : hearsW (nI s9) w mn nu = hsS nu (60 * s9) w (m_s9 / 2) := by unfold hearsW; rw [cl_s, qW_t ⟨iin_nI (by omega) (by omega), c2⟩, em_s9, nI_clamp (by omega)]
            refine wn_iret rfl rfl rfl ⟨congrArg (fun z => some (Value.int z)) ?_, ln_g3, kf_g3, ?_, ?_⟩
            · unfold hearsA; rw [qI_t (iin_nI (by omega) (by omega)), cl_s, qI_f c2, em_s9, nI_clamp (by omega)]
            · rw [eW]; exact V_g3.vo
            · rw [eW]; exact V_g3.no
          · have c5 : ((2 * y) + 1) < m_s9 := c5
            refine wn_ld (pc' := 45) (q := 2) (kin := 2) (v := .ref (63 + 2 * s9)) rfl (fun _ _ _ => rfl) rfl rfl ?_
            refine wn_get (pc' := 48) (v := .ref (64 + 2 * s9)) rfl rfl ((kf_g3 (63 + 2 * s9) (by omega)).trans so) rfl ?_
            refine wn_ld (pc' := 50) (q := 4) (kin := 0) (v := .int (nI (2 * y))) rfl (fun _ _ _ => rfl) rfl rfl ?_
            refine wn_laldv (pc' := 51) (j := 2 * y) (v := (nu (60 * s9 + (2 * y)))) rfl rfl ((kf_g3 (64 + 2 * s9) (by omega)).trans nj_s9) rfl (by omega) (by decide) (nv_s9 (2 * y) (by omega)) ?_
            refine wn_st (pc' := 53) (q := 5) (kin := 1) (lv' := [(0, .ref (0)), (1, .int (nI (s9))), (2, .ref (63 + 2 * s9)), (3, .int (nI (hsN nu (60 * s9) w y))), (4, .int (nI (2 * y))), (5, .long (nu (60 * s9 + (2 * y))))]) rfl (fun _ _ _ => rfl) rfl (Nat.le_of_ble_eq_true rfl) rfl ?_
            refine wn_ld (pc' := 54) (q := 2) (kin := 2) (v := .ref (63 + 2 * s9)) rfl (fun _ _ _ => rfl) rfl rfl ?_
            refine wn_get (pc' := 57) (v := .ref (64 + 2 * s9)) rfl rfl ((kf_g3 (63 + 2 * s9) (by omega)).trans so) rfl ?_
            refine wn_ld (pc' := 59) (q := 4) (kin := 0) (v := .int (nI (2 * y))) rfl (fun _ _ _ => rfl) rfl rfl ?_
            refine wn_ic (pc' := 60) (w := nI 1) rfl rfl (by decide) ?_
            refine wn_addN (pc' := 61) rfl rfl ?_
            refine wn_laldv (pc' := 62) (j := (2 * y) + 1) (v := (nu (60 * s9 + ((2 * y) + 1)))) rfl rfl ((kf_g3 (64 + 2 * s9) (by omega)).trans nj_s9) rfl (by omega) (by decide) (nv_s9 ((2 * y) + 1) (by omega)) ?_
            refine wn_st (pc' := 64) (q := 7) (kin := 1) (lv' := [(0, .ref (0)), (1, .int (nI (s9))), (2, .ref (63 + 2 * s9)), (3, .int (nI (hsN nu (60 * s9) w y))), (4, .int (nI (2 * y))), (5, .long (nu (60 * s9 + (2 * y)))), (7, .long (nu (60 * s9 + ((2 * y) + 1))))]) rfl (fun _ _ _ => rfl) rfl (Nat.le_of_ble_eq_true rfl) rfl ?_
            refine wn_ld (pc' := 66) (q := 5) (kin := 1) (v := .long (nu (60 * s9 + (2 * y)))) rfl (fun _ _ _ => rfl) rfl rfl ?_
            refine wn_pu (pc' := 67) (st' := .long (lN 0) :: [.long (nu (60 * s9 + (2 * y)))]) rfl (fun _ _ _ => rfl) rfl rfl ?_
            refine wn_pu (pc' := 68) (st' := [.int (lg_cmp (nu (60 * s9 + (2 * y))) (lN 0))]) rfl (fun _ _ _ => rfl) rfl rfl ?_
            refine wn_lc (t := 100) (f := 71) rfl rfl rfl (fun c6 => ?_) (fun c6 => ?_)
            · have c6 : (nu (60 * s9 + (2 * y))).toInt < (lN 0).toInt := c6
              refine wn_ic (pc' := 101) (w := nI 0) rfl rfl (by decide) ?_
              refine wn_st (pc' := 103) (q := 9) (kin := 0) (lv' := [(0, .ref (0)), (1, .int (nI (s9))), (2, .ref (63 + 2 * s9)), (3, .int (nI (hsN nu (60 * s9) w y))), (4, .int (nI (2 * y))), (5, .long (nu (60 * s9 + (2 * y)))), (7, .long (nu (60 * s9 + ((2 * y) + 1)))), (9, .int (nI (0)))]) rfl (fun _ _ _ => rfl) rfl (Nat.le_of_ble_eq_true rfl) rfl ?_
              refine wn_ld (pc' := 105) (q := 9) (kin := 0) (v := .int (nI (0))) rfl (fun _ _ _ => rfl) rfl rfl ?_
              refine wn_ifN (t := 125) (f := 108) rfl rfl rfl (by omega) (fun c7 => ?_) (fun c7 => ?_)
              · have c7 : 0 = 0 := c7
                refine wn_incN (n := 2) (pc' := 128) (lv' := [(0, .ref (0)), (1, .int (nI (s9))), (2, .ref (63 + 2 * s9)), (3, .int (nI (hsN nu (60 * s9) w y))), (4, .int (nI (2 * y + 2))), (5, .long (nu (60 * s9 + (2 * y)))), (7, .long (nu (60 * s9 + ((2 * y) + 1)))), (9, .int (nI (0)))]) rfl rfl rfl (Nat.le_of_ble_eq_true rfl) rfl (by decide) ?_
                refine wn_jp (pc' := 33) rfl rfl ?_
                have nO : ¬ hsO (hsS nu (60 * s9) w y) (nu (60 * s9 + (2 * y))) (nu (60 * s9 + (2 * y + 1))) := fun q => by obtain ⟨⟨q1, q2, q3, q4⟩, q5⟩ := q; omega
                refine wn_weak (lv' := [(0, .ref (0)), (1, .int (nI (s9))), (2, .ref (63 + 2 * s9)), (3, .int (nI (hsN nu (60 * s9) w y))), (4, .int (nI (2 * y + 2)))]) (by simp) ?_
                have z9 := ih_lp4 g3 (y + 1) (by omega) ln_g3 kf_g3 (by rw [hs_s0 nO]; exact V_g3) (by omega)
                rw [show (nI (hsN nu (60 * s9) w (y + 1))) = (nI (hsN nu (60 * s9) w y)) from (by exact congrArg nI (hs_n0 nO))] at z9
                rw [show (nI (2 * (y + 1))) = (nI (2 * y + 2)) from (by rfl)] at z9
                exact z9
              · have c7 : ¬ 0 = 0 := c7
                exact absurd c7 (by decide)
            · have c6 : ¬ ((nu (60 * s9 + (2 * y))).toInt < (lN 0).toInt) := c6
              refine wn_ld (pc' := 73) (q := 5) (kin := 1) (v := .long (nu (60 * s9 + (2 * y)))) rfl (fun _ _ _ => rfl) rfl rfl ?_
              refine wn_go (pc' := 76) (lv' := [(0, .ref (0)), (1, .int (nI (s9))), (2, .ref (63 + 2 * s9)), (3, .int (nI (hsN nu (60 * s9) w y))), (4, .int (nI (2 * y))), (5, .long (nu (60 * s9 + (2 * y)))), (7, .long (nu (60 * s9 + ((2 * y) + 1))))]) (st' := [.long ((10 : Int64)), .long (nu (60 * s9 + (2 * y)))]) rfl (fun _ _ _ k9 => k9) ?_
              refine wn_pu (pc' := 77) (st' := [.int (lg_cmp (nu (60 * s9 + (2 * y))) ((10 : Int64)))]) rfl (fun _ _ _ => rfl) rfl rfl ?_
              refine wn_lc (t := 100) (f := 80) rfl rfl rfl (fun c8 => ?_) (fun c8 => ?_)
              · have c8 : (nu (60 * s9 + (2 * y))).toInt ≥ ((10 : Int64)).toInt := c8
                refine wn_ic (pc' := 101) (w := nI 0) rfl rfl (by decide) ?_
                refine wn_st (pc' := 103) (q := 9) (kin := 0) (lv' := [(0, .ref (0)), (1, .int (nI (s9))), (2, .ref (63 + 2 * s9)), (3, .int (nI (hsN nu (60 * s9) w y))), (4, .int (nI (2 * y))), (5, .long (nu (60 * s9 + (2 * y)))), (7, .long (nu (60 * s9 + ((2 * y) + 1)))), (9, .int (nI (0)))]) rfl (fun _ _ _ => rfl) rfl (Nat.le_of_ble_eq_true rfl) rfl ?_
                refine wn_ld (pc' := 105) (q := 9) (kin := 0) (v := .int (nI (0))) rfl (fun _ _ _ => rfl) rfl rfl ?_
                refine wn_ifN (t := 125) (f := 108) rfl rfl rfl (by omega) (fun c9 => ?_) (fun c9 => ?_)
                · have c9 : 0 = 0 := c9
                  refine wn_incN (n := 2) (pc' := 128) (lv' := [(0, .ref (0)), (1, .int (nI (s9))), (2, .ref (63 + 2 * s9)), (3, .int (nI (hsN nu (60 * s9) w y))), (4, .int (nI (2 * y + 2))), (5, .long (nu (60 * s9 + (2 * y)))), (7, .long (nu (60 * s9 + ((2 * y) + 1)))), (9, .int (nI (0)))]) rfl rfl rfl (Nat.le_of_ble_eq_true rfl) rfl (by decide) ?_
                  refine wn_jp (pc' := 33) rfl rfl ?_
                  have nO : ¬ hsO (hsS nu (60 * s9) w y) (nu (60 * s9 + (2 * y))) (nu (60 * s9 + (2 * y + 1))) := fun q => by obtain ⟨⟨q1, q2, q3, q4⟩, q5⟩ := q; omega
                  refine wn_weak (lv' := [(0, .ref (0)), (1, .int (nI (s9))), (2, .ref (63 + 2 * s9)), (3, .int (nI (hsN nu (60 * s9) w y))), (4, .int (nI (2 * y + 2)))]) (by simp) ?_
                  have z9 := ih_lp4 g3 (y + 1) (by omega) ln_g3 kf_g3 (by rw [hs_s0 nO]; exact V_g3) (by omega)
                  rw [show (nI (hsN nu (60 * s9) w (y + 1))) = (nI (hsN nu (60 * s9) w y)) from (by exact congrArg nI (hs_n0 nO))] at z9
                  rw [show (nI (2 * (y + 1))) = (nI (2 * y + 2)) from (by rfl)] at z9
                  exact z9
                · have c9 : ¬ 0 = 0 := c9
                  exact absurd c9 (by decide)
              · have c8 : ¬ ((nu (60 * s9 + (2 * y))).toInt ≥ ((10 : Int64)).toInt) := c8
                refine wn_ld (pc' := 82) (q := 7) (kin := 1) (v := .long (nu (60 * s9 + ((2 * y) + 1)))) rfl (fun _ _ _ => rfl) rfl rfl ?_
                refine wn_pu (pc' := 83) (st' := .long (lN 0) :: [.long (nu (60 * s9 + ((2 * y) + 1)))]) rfl (fun _ _ _ => rfl) rfl rfl ?_
                refine wn_pu (pc' := 84) (st' := [.int (lg_cmp (nu (60 * s9 + ((2 * y) + 1))) (lN 0))]) rfl (fun _ _ _ => rfl) rfl rfl ?_
                refine wn_lc (t := 100) (f := 87) rfl rfl rfl (fun c10 => ?_) (fun c10 => ?_)
                · have c10 : (nu (60 * s9 + ((2 * y) + 1))).toInt < (lN 0).toInt := c10
                  refine wn_ic (pc' := 101) (w := nI 0) rfl rfl (by decide) ?_
                  refine wn_st (pc' := 103) (q := 9) (kin := 0) (lv' := [(0, .ref (0)), (1, .int (nI (s9))), (2, .ref (63 + 2 * s9)), (3, .int (nI (hsN nu (60 * s9) w y))), (4, .int (nI (2 * y))), (5, .long (nu (60 * s9 + (2 * y)))), (7, .long (nu (60 * s9 + ((2 * y) + 1)))), (9, .int (nI (0)))]) rfl (fun _ _ _ => rfl) rfl (Nat.le_of_ble_eq_true rfl) rfl ?_
                  refine wn_ld (pc' := 105) (q := 9) (kin := 0) (v := .int (nI (0))) rfl (fun _ _ _ => rfl) rfl rfl ?_
                  refine wn_ifN (t := 125) (f := 108) rfl rfl rfl (by omega) (fun c11 => ?_) (fun c11 => ?_)
                  · have c11 : 0 = 0 := c11
                    refine wn_incN (n := 2) (pc' := 128) (lv' := [(0, .ref (0)), (1, .int (nI (s9))), (2, .ref (63 + 2 * s9)), (3, .int (nI (hsN nu (60 * s9) w y))), (4, .int (nI (2 * y + 2))), (5, .long (nu (60 * s9 + (2 * y)))), (7, .long (nu (60 * s9 + ((2 * y) + 1)))), (9, .int (nI (0)))]) rfl rfl rfl (Nat.le_of_ble_eq_true rfl) rfl (by decide) ?_
                    refine wn_jp (pc' := 33) rfl rfl ?_
                    have nO : ¬ hsO (hsS nu (60 * s9) w y) (nu (60 * s9 + (2 * y))) (nu (60 * s9 + (2 * y + 1))) := fun q => by obtain ⟨⟨q1, q2, q3, q4⟩, q5⟩ := q; omega
                    refine wn_weak (lv' := [(0, .ref (0)), (1, .int (nI (s9))), (2, .ref (63 + 2 * s9)), (3, .int (nI (hsN nu (60 * s9) w y))), (4, .int (nI (2 * y + 2)))]) (by simp) ?_
                    have z9 := ih_lp4 g3 (y + 1) (by omega) ln_g3 kf_g3 (by rw [hs_s0 nO]; exact V_g3) (by omega)
                    rw [show (nI (hsN nu (60 * s9) w (y + 1))) = (nI (hsN nu (60 * s9) w y)) from (by exact congrArg nI (hs_n0 nO))] at z9
                    rw [show (nI (2 * (y + 1))) = (nI (2 * y + 2)) from (by rfl)] at z9
                    exact z9
                  · have c11 : ¬ 0 = 0 := c11
                    exact absurd c11 (by decide)
                · have c10 : ¬ ((nu (60 * s9 + ((2 * y) + 1))).toInt < (lN 0).toInt) := c10
                  refine wn_ld (pc' := 89) (q := 7) (kin := 1) (v := .long (nu (60 * s9 + ((2 * y) + 1)))) rfl (fun _ _ _ => rfl) rfl rfl ?_
                  refine wn_go (pc' := 92) (lv' := [(0, .ref (0)), (1, .int (nI (s9))), (2, .ref (63 + 2 * s9)), (3, .int (nI (hsN nu (60 * s9) w y))), (4, .int (nI (2 * y))), (5, .long (nu (60 * s9 + (2 * y)))), (7, .long (nu (60 * s9 + ((2 * y) + 1))))]) (st' := [.long ((5 : Int64)), .long (nu (60 * s9 + ((2 * y) + 1)))]) rfl (fun _ _ _ k9 => k9) ?_
                  refine wn_pu (pc' := 93) (st' := [.int (lg_cmp (nu (60 * s9 + ((2 * y) + 1))) ((5 : Int64)))]) rfl (fun _ _ _ => rfl) rfl rfl ?_
                  refine wn_lc (t := 100) (f := 96) rfl rfl rfl (fun c12 => ?_) (fun c12 => ?_)
                  · have c12 : (nu (60 * s9 + ((2 * y) + 1))).toInt ≥ ((5 : Int64)).toInt := c12
                    refine wn_ic (pc' := 101) (w := nI 0) rfl rfl (by decide) ?_
                    refine wn_st (pc' := 103) (q := 9) (kin := 0) (lv' := [(0, .ref (0)), (1, .int (nI (s9))), (2, .ref (63 + 2 * s9)), (3, .int (nI (hsN nu (60 * s9) w y))), (4, .int (nI (2 * y))), (5, .long (nu (60 * s9 + (2 * y)))), (7, .long (nu (60 * s9 + ((2 * y) + 1)))), (9, .int (nI (0)))]) rfl (fun _ _ _ => rfl) rfl (Nat.le_of_ble_eq_true rfl) rfl ?_
                    refine wn_ld (pc' := 105) (q := 9) (kin := 0) (v := .int (nI (0))) rfl (fun _ _ _ => rfl) rfl rfl ?_
                    refine wn_ifN (t := 125) (f := 108) rfl rfl rfl (by omega) (fun c13 => ?_) (fun c13 => ?_)
                    · have c13 : 0 = 0 := c13
                      refine wn_incN (n := 2) (pc' := 128) (lv' := [(0, .ref (0)), (1, .int (nI (s9))), (2, .ref (63 + 2 * s9)), (3, .int (nI (hsN nu (60 * s9) w y))), (4, .int (nI (2 * y + 2))), (5, .long (nu (60 * s9 + (2 * y)))), (7, .long (nu (60 * s9 + ((2 * y) + 1)))), (9, .int (nI (0)))]) rfl rfl rfl (Nat.le_of_ble_eq_true rfl) rfl (by decide) ?_
                      refine wn_jp (pc' := 33) rfl rfl ?_
                      have nO : ¬ hsO (hsS nu (60 * s9) w y) (nu (60 * s9 + (2 * y))) (nu (60 * s9 + (2 * y + 1))) := fun q => by obtain ⟨⟨q1, q2, q3, q4⟩, q5⟩ := q; omega
                      refine wn_weak (lv' := [(0, .ref (0)), (1, .int (nI (s9))), (2, .ref (63 + 2 * s9)), (3, .int (nI (hsN nu (60 * s9) w y))), (4, .int (nI (2 * y + 2)))]) (by simp) ?_
                      have z9 := ih_lp4 g3 (y + 1) (by omega) ln_g3 kf_g3 (by rw [hs_s0 nO]; exact V_g3) (by omega)
                      rw [show (nI (hsN nu (60 * s9) w (y + 1))) = (nI (hsN nu (60 * s9) w y)) from (by exact congrArg nI (hs_n0 nO))] at z9
                      rw [show (nI (2 * (y + 1))) = (nI (2 * y + 2)) from (by rfl)] at z9
                      exact z9
                    · have c13 : ¬ 0 = 0 := c13
                      exact absurd c13 (by decide)
                  · have c12 : ¬ ((nu (60 * s9 + ((2 * y) + 1))).toInt ≥ ((5 : Int64)).toInt) := c12
                    refine wn_ic (pc' := 97) (w := nI 1) rfl rfl (by decide) ?_
                    refine wn_jp (pc' := 101) rfl rfl ?_
                    refine wn_st (pc' := 103) (q := 9) (kin := 0) (lv' := [(0, .ref (0)), (1, .int (nI (s9))), (2, .ref (63 + 2 * s9)), (3, .int (nI (hsN nu (60 * s9) w y))), (4, .int (nI (2 * y))), (5, .long (nu (60 * s9 + (2 * y)))), (7, .long (nu (60 * s9 + ((2 * y) + 1)))), (9, .int (nI (1)))]) rfl (fun _ _ _ => rfl) rfl (Nat.le_of_ble_eq_true rfl) rfl ?_
                    refine wn_ld (pc' := 105) (q := 9) (kin := 0) (v := .int (nI (1))) rfl (fun _ _ _ => rfl) rfl rfl ?_
                    refine wn_ifN (t := 125) (f := 108) rfl rfl rfl (by omega) (fun c14 => ?_) (fun c14 => ?_)
                    · have c14 : 1 = 0 := c14
                      exact absurd c14 (by decide)
                    · have c14 : ¬ 1 = 0 := c14
                      refine wn_ld (pc' := 109) (q := 0) (kin := 2) (v := .ref (0)) rfl (fun _ _ _ => rfl) rfl rfl ?_
                      refine wn_ld (pc' := 111) (q := 5) (kin := 1) (v := .long (nu (60 * s9 + (2 * y)))) rfl (fun _ _ _ => rfl) rfl rfl ?_
                      refine wn_pu (pc' := 112) (st' := [.int (Int64.toInt32 (nu (60 * s9 + (2 * y)))), .ref (0)]) rfl (fun _ _ _ => rfl) rfl rfl ?_
                      refine wn_ld (pc' := 114) (q := 7) (kin := 1) (v := .long (nu (60 * s9 + ((2 * y) + 1)))) rfl (fun _ _ _ => rfl) rfl rfl ?_
                      refine wn_pu (pc' := 115) (st' := [.int (Int64.toInt32 (nu (60 * s9 + ((2 * y) + 1)))), .int (Int64.toInt32 (nu (60 * s9 + (2 * y)))), .ref (0)]) rfl (fun _ _ _ => rfl) rfl rfl ?_
                      refine wn_ic (pc' := 116) (w := nI 0) rfl rfl (by decide) ?_
                      refine wn_top (y := bI False) (show nI 0 = bI False from BI0) ?_
                      refine wn_virS (pc' := 119) rfl rfl (by decide) rfl rfl v1_g3 (Nat.le_of_ble_eq_true rfl) (x_listen _ _ ls (hsS nu (60 * s9) w y) (hsf y).1 V_g3 (hsf y).2.1 (Int64.toInt32 (nu (60 * s9 + (2 * y)))) (Int64.toInt32 (nu (60 * s9 + (2 * y + 1)))) False) (fun r9 h15 e16 => ?_)
                      obtain ⟨rfl, l_h15, k_h15, V_h15, N_h15⟩ := e16
                      show Wn _ _ 119 _ [.int (hearA (hsS nu (60 * s9) w y) (Int64.toInt32 (nu (60 * s9 + (2 * y)))) (Int64.toInt32 (nu (60 * s9 + (2 * y + 1)))))] h15 _
                      refine wn_ifc (t := 125) (f := 122) rfl rfl rfl (fun c17 => ?_) (fun c17 => ?_)
                      · have c17 : ((hearA (hsS nu (60 * s9) w y) (Int64.toInt32 (nu (60 * s9 + (2 * y)))) (Int64.toInt32 (nu (60 * s9 + (2 * y + 1)))))) < 0 := c17
                        refine wn_incN (n := 2) (pc' := 128) (lv' := [(0, .ref (0)), (1, .int (nI (s9))), (2, .ref (63 + 2 * s9)), (3, .int (nI (hsN nu (60 * s9) w y))), (4, .int (nI (2 * y + 2))), (5, .long (nu (60 * s9 + (2 * y)))), (7, .long (nu (60 * s9 + ((2 * y) + 1)))), (9, .int (nI (1)))]) rfl rfl rfl (Nat.le_of_ble_eq_true rfl) rfl (by decide) ?_
                        refine wn_jp (pc' := 33) rfl rfl ?_
                        simp only [Int32.lt_iff_toInt_lt, Int32.le_iff_toInt_le, i2l_int, Int32.toInt_zero, iin] at c17
                        have nC : ¬ (hearC (hsS nu (60 * s9) w y) (Int64.toInt32 (nu (60 * s9 + (2 * y)))) (Int64.toInt32 (nu (60 * s9 + (2 * y + 1)))) ∧ ¬ hearF (hsS nu (60 * s9) w y) (Int64.toInt32 (nu (60 * s9 + (2 * y)))).toNatClampNeg) := fun q => by have := hear_ok (hsf y).1 q; omega
                        have nO : ¬ hsO (hsS nu (60 * s9) w y) (nu (60 * s9 + (2 * y))) (nu (60 * s9 + (2 * y + 1))) := fun q => nC q.2
                        have eW : hearW (hsS nu (60 * s9) w y) (Int64.toInt32 (nu (60 * s9 + (2 * y)))) (Int64.toInt32 (nu (60 * s9 + (2 * y + 1)))) False = hsS nu (60 * s9) w y := qW_f nC
                        have V9 := XV.wr V_g3 (hsf y).1 (hear_w (Int64.toInt32 (nu (60 * s9 + (2 * y)))) (Int64.toInt32 (nu (60 * s9 + (2 * y + 1)))) False (hsf y).1 (hsf y).2.1).2.2 k_h15 V_h15 N_h15
                        rw [eW] at V9
                        refine wn_weak (lv' := [(0, .ref (0)), (1, .int (nI (s9))), (2, .ref (63 + 2 * s9)), (3, .int (nI (hsN nu (60 * s9) w y))), (4, .int (nI (2 * y + 2)))]) (by simp) ?_
                        have z9 := ih_lp4 h15 (y + 1) (by omega) (l_h15.trans ln_g3) (fun k q => (k_h15 k q).trans (kf_g3 k q)) (by rw [hs_s0 nO]; exact V9) (by omega)
                        rw [show (nI (hsN nu (60 * s9) w (y + 1))) = (nI (hsN nu (60 * s9) w y)) from (by exact congrArg nI (hs_n0 nO))] at z9
                        rw [show (nI (2 * (y + 1))) = (nI (2 * y + 2)) from (by rfl)] at z9
                        exact z9
                      · have c17 : 0 ≤ ((hearA (hsS nu (60 * s9) w y) (Int64.toInt32 (nu (60 * s9 + (2 * y)))) (Int64.toInt32 (nu (60 * s9 + (2 * y + 1)))))) := c17
                        refine wn_incN (n := 1) (pc' := 125) (lv' := [(0, .ref (0)), (1, .int (nI (s9))), (2, .ref (63 + 2 * s9)), (3, .int (nI (hsN nu (60 * s9) w y + 1))), (4, .int (nI (2 * y))), (5, .long (nu (60 * s9 + (2 * y)))), (7, .long (nu (60 * s9 + ((2 * y) + 1)))), (9, .int (nI (1)))]) rfl rfl rfl (Nat.le_of_ble_eq_true rfl) rfl (by decide) ?_
                        refine wn_incN (n := 2) (pc' := 128) (lv' := [(0, .ref (0)), (1, .int (nI (s9))), (2, .ref (63 + 2 * s9)), (3, .int (nI (hsN nu (60 * s9) w y + 1))), (4, .int (nI (2 * y + 2))), (5, .long (nu (60 * s9 + (2 * y)))), (7, .long (nu (60 * s9 + ((2 * y) + 1)))), (9, .int (nI (1)))]) rfl rfl rfl (Nat.le_of_ble_eq_true rfl) rfl (by decide) ?_
                        refine wn_jp (pc' := 33) rfl rfl ?_
                        simp only [Int32.lt_iff_toInt_lt, Int32.le_iff_toInt_le, i2l_int, Int32.toInt_zero, iin] at c17
                        have yC : hearC (hsS nu (60 * s9) w y) (Int64.toInt32 (nu (60 * s9 + (2 * y)))) (Int64.toInt32 (nu (60 * s9 + (2 * y + 1)))) ∧ ¬ hearF (hsS nu (60 * s9) w y) (Int64.toInt32 (nu (60 * s9 + (2 * y)))).toNatClampNeg := Classical.not_not.mp (fun q => by have := hear_no q; omega)
                        have yO : hsO (hsS nu (60 * s9) w y) (nu (60 * s9 + (2 * y))) (nu (60 * s9 + (2 * y + 1))) := hs_yes (hsf y).1 (by omega) (by omega) (by omega) (by omega) yC
                        have V9 := XV.wr V_g3 (hsf y).1 (hear_w (Int64.toInt32 (nu (60 * s9 + (2 * y)))) (Int64.toInt32 (nu (60 * s9 + (2 * y + 1)))) False (hsf y).1 (hsf y).2.1).2.2 k_h15 V_h15 N_h15
                        refine wn_weak (lv' := [(0, .ref (0)), (1, .int (nI (s9))), (2, .ref (63 + 2 * s9)), (3, .int (nI (hsN nu (60 * s9) w y + 1))), (4, .int (nI (2 * y + 2)))]) (by simp) ?_
                        have z9 := ih_lp4 h15 (y + 1) (by omega) (l_h15.trans ln_g3) (fun k q => (k_h15 k q).trans (kf_g3 k q)) (by rw [hs_s1 yO]; exact V9) (by omega)
                        rw [show (nI (hsN nu (60 * s9) w (y + 1))) = (nI (hsN nu (60 * s9) w y + 1)) from (by exact congrArg nI (hs_n1 yO))] at z9
                        rw [show (nI (2 * (y + 1))) = (nI (2 * y + 2)) from (by rfl)] at z9
                        exact z9
      refine wn_weak (lv' := [(0, .ref (0)), (1, .int (nI (s9))), (2, .ref (63 + 2 * s9)), (3, .int (nI (0))), (4, .int (nI (0)))]) (by simp) ?_
      have z9 := lp4 (31 + 1) h 0 (by omega) rfl (fun _ _ => rfl) V (by omega)
      rw [show (nI (hsN nu (60 * s9) w 0)) = (nI (0)) from (by rfl)] at z9
      rw [show (nI (2 * 0)) = (nI (0)) from (by rfl)] at z9
      exact z9
    · have c2 : ((mn s9)) = ((-1)) := c2
      refine wn_bp (pc' := 27) (w := -6) rfl rfl (by decide) ?_
      refine wn_iret rfl rfl rfl ⟨congrArg (fun z => some (Value.int z)) ?_, rfl, fun _ _ => rfl, ?_, ?_⟩
      · unfold hearsA; rw [qI_t (iin_nI (by omega) (by omega)), cl_s, qI_t c2]
      · rw [show hearsW (nI s9) w mn nu = w from qW_f (fun q => by have q2 := q.2; rw [cl_s] at q2; exact q2 c2)]; exact V.vo
      · rw [show hearsW (nI s9) w mn nu = w from qW_f (fun q => by have q2 := q.2; rw [cl_s] at q2; exact q2 c2)]; exact V.no
  · have c1 : ¬ (iin s 4) := c1
    refine wn_bp (pc' := 9) (w := -2) rfl rfl (by decide) ?_
    refine wn_iret rfl rfl rfl ⟨congrArg (fun z => some (Value.int z)) ?_, rfl, fun _ _ => rfl, ?_, ?_⟩
    · exact (qI_f c1).symm
    · rw [show hearsW s w mn nu = w from qW_f (fun q => c1 q.1)]; exact V.vo
    · rw [show hearsW s w mn nu = w from qW_f (fun q => c1 q.1)]; exact V.no

theorem m_hears (d : Nat) (h : aH) (w tp : Nat → Int32) (tl : Nat) (mn wd : Nat → Int32) (nu : Nat → Int64) (hWf : WfW w) (h8 : Hd8 w) (hS : WfS tp tl mn wd) (HM : MH h w) (MT : MtV h tp tl mn wd nu) (s : Int32) : Sp (Rn (d + 5)) 206 [.ref (71), .int (s)] h (fun r9 h9 => r9 = some (.int (hearsA s w mn nu)) ∧ h9.length = h.length ∧ (∀ k, k ≠ 72 → h9[k]? = h[k]?) ∧ isI h9 72 2676 (hearsW s w mn nu)) := by
  have hW : isI h 72 2676 w := by obtain ⟨_, _, _, _, _, _, _, _, _, _, _, _, _, q⟩ := HM; exact q
  obtain ⟨th, sz, at9, fr, tk, vl, fk, fp, il, up, lo, fv, mv, q0, q1, q2, q3, q4, q5, q6⟩ := id MT
  refine Sp_of (by decide) (Nat.le_of_ble_eq_true rfl) ?_
  show Wn _ _ 0 [(0, .ref (71)), (1, .int (s))] [] _ _
  refine wn_ld (pc' := 1) (q := 1) (kin := 0) (v := .int (s)) rfl (fun _ _ _ => rfl) rfl rfl ?_
  refine wn_staI (pc' := 4) rfl rfl (by decide) rfl rfl (Nat.le_of_ble_eq_true rfl) (m_isSlot _ _ _) ?_
  refine wn_ifneB (t := 10) (f := 7) rfl rfl rfl (fun c1 => ?_) (fun c1 => ?_)
  · have c1 : (iin s 4) := c1
    obtain ⟨s9, hs9, rfl⟩ := iin_of c1
    have ti_s := nI_toInt (n := s9) (show s9 < 2 ^ 31 by omega)
    have cl_s := nI_clamp (n := s9) (show s9 < 2 ^ 31 by omega)
    refine wn_ld (pc' := 11) (q := 0) (kin := 2) (v := .ref (71)) rfl (fun _ _ _ => rfl) rfl rfl ?_
    refine wn_get (pc' := 14) (v := .ref (81)) rfl rfl q0 rfl ?_
    refine wn_ld (pc' := 15) (q := 1) (kin := 0) (v := .int (nI (s9))) rfl (fun _ _ _ => rfl) rfl rfl ?_
    refine wn_ialdv (pc' := 16) (j := s9) (v := (mn (s9))) rfl rfl q3 rfl (by omega) (by decide) (rfl) ?_
    refine wn_ic (pc' := 17) (w := -1) rfl rfl (by decide) ?_
    refine wn_icmp (t := 23) (f := 20) rfl rfl rfl (fun c2 => ?_) (fun c2 => ?_)
    · have c2 : ¬ ((mn (s9))) = ((-1)) := c2
      obtain ⟨m_s9, hm_s9, em_s9⟩ := (hS.2.2 s9 (by omega)).1.resolve_left c2
      have tm_s9 : (mn s9).toInt = (m_s9 : Int) := by rw [em_s9]; exact nI_toInt (by omega)
      have hsf := hs_f (nu := nu) (b := 60 * s9) hWf h8
      refine wn_ic (pc' := 24) (w := nI 0) rfl rfl (by decide) ?_
      refine wn_st (pc' := 25) (q := 2) (kin := 0) (lv' := [(0, .ref (71)), (1, .int (nI (s9))), (2, .int (nI (0)))]) rfl (fun _ _ _ => rfl) rfl (Nat.le_of_ble_eq_true rfl) rfl ?_
      refine wn_ic (pc' := 26) (w := nI 0) rfl rfl (by decide) ?_
      refine wn_st (pc' := 27) (q := 3) (kin := 0) (lv' := [(0, .ref (71)), (1, .int (nI (s9))), (2, .int (nI (0))), (3, .int (nI (0)))]) rfl (fun _ _ _ => rfl) rfl (Nat.le_of_ble_eq_true rfl) rfl ?_
      have lp4 : ∀ (n_lp4 : Nat) (g3 : aH) (y : Nat), 31 + 1 ≤ y + n_lp4 → g3.length = h.length → (∀ k, k ≠ 72 → g3[k]? = h[k]?) → isI g3 72 2676 (hsS nu (60 * s9) w y) → 2 * y ≤ m_s9 → Wn (Rn (d + 4)) 206 27 [(0, .ref (71)), (1, .int (nI (s9))), (2, .int (nI (hsN nu (60 * s9) w y))), (3, .int (nI (2 * y)))] [] (g3) (fun r9 h9 => r9 = some (.int (hearsA (nI s9) w mn nu)) ∧ h9.length = h.length ∧ (∀ k, k ≠ 72 → h9[k]? = h[k]?) ∧ isI h9 72 2676 (hearsW (nI s9) w mn nu)) := by
        intro n_lp4
        induction n_lp4 with
        | zero => intro g3 y hm_lp4 ln_g3 kf_g3 hW_g3 hy; exfalso; omega
        | succ n_lp4 ih_lp4 =>
          intro g3 y hm_lp4 ln_g3 kf_g3 hW_g3 hy
          have := hs_le (nu := nu) (b := 60 * s9) (w := w) (y := y)
          have i0J : (lN 0).toInt = 0 := by decide
          have i5J : (5 : Int64).toInt = 5 := by decide
          have i10J : (10 : Int64).toInt = 10 := by decide
          refine wn_ld (pc' := 28) (q := 3) (kin := 0) (v := .int (nI (2 * y))) rfl (fun _ _ _ => rfl) rfl rfl ?_
          refine wn_ic (pc' := 29) (w := nI 1) rfl rfl (by decide) ?_
          refine wn_addN (pc' := 30) rfl rfl ?_
          refine wn_ld (pc' := 31) (q := 0) (kin := 2) (v := .ref (71)) rfl (fun _ _ _ => rfl) rfl rfl ?_
          refine wn_get (pc' := 34) (v := .ref (81)) rfl rfl ((kf_g3 71 (by decide)).trans q0) rfl ?_
          refine wn_ld (pc' := 35) (q := 1) (kin := 0) (v := .int (nI (s9))) rfl (fun _ _ _ => rfl) rfl rfl ?_
          refine wn_ialdv (pc' := 36) (j := s9) (v := (nI (m_s9))) rfl rfl ((kf_g3 81 (by decide)).trans q3) rfl (by omega) (by decide) (em_s9) ?_
          refine wn_icmpN (t := 114) (f := 39) rfl rfl rfl (by omega) (by omega) (fun c5 => ?_) (fun c5 => ?_)
          · have c5 : m_s9 ≤ ((2 * y) + 1) := c5
            obtain rfl : y = m_s9 / 2 := by omega
            refine wn_ld (pc' := 115) (q := 2) (kin := 0) (v := .int (nI (hsN nu (60 * s9) w (m_s9 / 2)))) rfl (fun _ _ _ => rfl) rfl rfl ?_
            have eW : hearsW (nI s9) w mn nu = hsS nu (60 * s9) w (m_s9 / 2) := by unfold hearsW; rw [cl_s, qW_t ⟨iin_nI (by omega) (by omega), c2⟩, em_s9, nI_clamp (by omega)]
            refine wn_iret rfl rfl rfl ⟨congrArg (fun z => some (Value.int z)) ?_, ln_g3, kf_g3, ?_⟩
            · unfold hearsA; rw [qI_t (iin_nI (by omega) (by omega)), cl_s, qI_f c2, em_s9, nI_clamp (by omega)]
            · rw [eW]; exact hW_g3
          · have c5 : ((2 * y) + 1) < m_s9 := c5
            refine wn_ld (pc' := 40) (q := 0) (kin := 2) (v := .ref (71)) rfl (fun _ _ _ => rfl) rfl rfl ?_
            refine wn_get (pc' := 43) (v := .ref (83)) rfl rfl ((kf_g3 71 (by decide)).trans q0) rfl ?_
            refine wn_bp (pc' := 45) (w := nI 60) rfl rfl (by decide) ?_
            refine wn_ld (pc' := 46) (q := 1) (kin := 0) (v := .int (nI (s9))) rfl (fun _ _ _ => rfl) rfl rfl ?_
            refine wn_mulN (pc' := 47) rfl rfl ?_
            refine wn_ld (pc' := 48) (q := 3) (kin := 0) (v := .int (nI (2 * y))) rfl (fun _ _ _ => rfl) rfl rfl ?_
            refine wn_addN (pc' := 49) rfl rfl ?_
            refine wn_laldv (pc' := 50) (j := (60 * s9) + (2 * y)) (v := (nu (60 * s9 + (2 * y)))) rfl rfl ((kf_g3 83 (by decide)).trans q5) rfl (by omega) (by decide) (rfl) ?_
            refine wn_st (pc' := 52) (q := 4) (kin := 1) (lv' := [(0, .ref (71)), (1, .int (nI (s9))), (2, .int (nI (hsN nu (60 * s9) w y))), (3, .int (nI (2 * y))), (4, .long (nu (60 * s9 + (2 * y))))]) rfl (fun _ _ _ => rfl) rfl (Nat.le_of_ble_eq_true rfl) rfl ?_
            refine wn_ld (pc' := 53) (q := 0) (kin := 2) (v := .ref (71)) rfl (fun _ _ _ => rfl) rfl rfl ?_
            refine wn_get (pc' := 56) (v := .ref (83)) rfl rfl ((kf_g3 71 (by decide)).trans q0) rfl ?_
            refine wn_bp (pc' := 58) (w := nI 60) rfl rfl (by decide) ?_
            refine wn_ld (pc' := 59) (q := 1) (kin := 0) (v := .int (nI (s9))) rfl (fun _ _ _ => rfl) rfl rfl ?_
            refine wn_mulN (pc' := 60) rfl rfl ?_
            refine wn_ld (pc' := 61) (q := 3) (kin := 0) (v := .int (nI (2 * y))) rfl (fun _ _ _ => rfl) rfl rfl ?_
            refine wn_addN (pc' := 62) rfl rfl ?_
            refine wn_ic (pc' := 63) (w := nI 1) rfl rfl (by decide) ?_
            refine wn_addN (pc' := 64) rfl rfl ?_
            refine wn_laldv (pc' := 65) (j := ((60 * s9) + (2 * y)) + 1) (v := (nu (60 * s9 + (2 * y + 1)))) rfl rfl ((kf_g3 83 (by decide)).trans q5) rfl (by omega) (by decide) (rfl) ?_
            refine wn_st (pc' := 67) (q := 6) (kin := 1) (lv' := [(0, .ref (71)), (1, .int (nI (s9))), (2, .int (nI (hsN nu (60 * s9) w y))), (3, .int (nI (2 * y))), (4, .long (nu (60 * s9 + (2 * y)))), (6, .long (nu (60 * s9 + (2 * y + 1))))]) rfl (fun _ _ _ => rfl) rfl (Nat.le_of_ble_eq_true rfl) rfl ?_
            refine wn_ld (pc' := 69) (q := 4) (kin := 1) (v := .long (nu (60 * s9 + (2 * y)))) rfl (fun _ _ _ => rfl) rfl rfl ?_
            refine wn_pu (pc' := 70) (st' := .long (lN 0) :: [.long (nu (60 * s9 + (2 * y)))]) rfl (fun _ _ _ => rfl) rfl rfl ?_
            refine wn_go (pc' := 73) (lv' := [(0, .ref (71)), (1, .int (nI (s9))), (2, .int (nI (hsN nu (60 * s9) w y))), (3, .int (nI (2 * y))), (4, .long (nu (60 * s9 + (2 * y)))), (6, .long (nu (60 * s9 + (2 * y + 1))))]) (st' := [.long ((10 : Int64)), .long (lN 0), .long (nu (60 * s9 + (2 * y)))]) rfl (fun _ _ _ k9 => k9) ?_
            refine wn_staI (pc' := 76) rfl rfl (by decide) rfl rfl (Nat.le_of_ble_eq_true rfl) (m_in _ _ _ _ _) ?_
            refine wn_ifeqB (t := 108) (f := 79) rfl rfl rfl (fun c6 => ?_) (fun c6 => ?_)
            · have c6 : ¬ ((lN 0).toInt ≤ (nu (60 * s9 + (2 * y))).toInt ∧ (nu (60 * s9 + (2 * y))).toInt ≤ ((10 : Int64)).toInt) := c6
              refine wn_incN (n := 2) (pc' := 111) (lv' := [(0, .ref (71)), (1, .int (nI (s9))), (2, .int (nI (hsN nu (60 * s9) w y))), (3, .int (nI (2 * y + 2))), (4, .long (nu (60 * s9 + (2 * y)))), (6, .long (nu (60 * s9 + (2 * y + 1))))]) rfl rfl rfl (Nat.le_of_ble_eq_true rfl) rfl (by decide) ?_
              refine wn_jp (pc' := 27) rfl rfl ?_
              have nO : ¬ hsO (hsS nu (60 * s9) w y) (nu (60 * s9 + (2 * y))) (nu (60 * s9 + (2 * y + 1))) := fun q => by obtain ⟨⟨q1, q2, q3, q4⟩, q5⟩ := q; omega
              refine wn_weak (lv' := [(0, .ref (71)), (1, .int (nI (s9))), (2, .int (nI (hsN nu (60 * s9) w y))), (3, .int (nI (2 * y + 2)))]) (by simp) ?_
              have z9 := ih_lp4 g3 (y + 1) (by omega) ln_g3 kf_g3 (by rw [hs_s0 nO]; exact hW_g3) (by omega)
              rw [show (nI (hsN nu (60 * s9) w (y + 1))) = (nI (hsN nu (60 * s9) w y)) from (by exact congrArg nI (hs_n0 nO))] at z9
              rw [show (nI (2 * (y + 1))) = (nI (2 * y + 2)) from (by rfl)] at z9
              exact z9
            · have c6 : ((lN 0).toInt ≤ (nu (60 * s9 + (2 * y))).toInt ∧ (nu (60 * s9 + (2 * y))).toInt ≤ ((10 : Int64)).toInt) := c6
              refine wn_ld (pc' := 81) (q := 6) (kin := 1) (v := .long (nu (60 * s9 + (2 * y + 1)))) rfl (fun _ _ _ => rfl) rfl rfl ?_
              refine wn_pu (pc' := 82) (st' := .long (lN 0) :: [.long (nu (60 * s9 + (2 * y + 1)))]) rfl (fun _ _ _ => rfl) rfl rfl ?_
              refine wn_go (pc' := 85) (lv' := [(0, .ref (71)), (1, .int (nI (s9))), (2, .int (nI (hsN nu (60 * s9) w y))), (3, .int (nI (2 * y))), (4, .long (nu (60 * s9 + (2 * y)))), (6, .long (nu (60 * s9 + (2 * y + 1))))]) (st' := [.long ((5 : Int64)), .long (lN 0), .long (nu (60 * s9 + (2 * y + 1)))]) rfl (fun _ _ _ k9 => k9) ?_
              refine wn_staI (pc' := 88) rfl rfl (by decide) rfl rfl (Nat.le_of_ble_eq_true rfl) (m_in _ _ _ _ _) ?_
              refine wn_ifeqB (t := 108) (f := 91) rfl rfl rfl (fun c7 => ?_) (fun c7 => ?_)
              · have c7 : ¬ ((lN 0).toInt ≤ (nu (60 * s9 + (2 * y + 1))).toInt ∧ (nu (60 * s9 + (2 * y + 1))).toInt ≤ ((5 : Int64)).toInt) := c7
                refine wn_incN (n := 2) (pc' := 111) (lv' := [(0, .ref (71)), (1, .int (nI (s9))), (2, .int (nI (hsN nu (60 * s9) w y))), (3, .int (nI (2 * y + 2))), (4, .long (nu (60 * s9 + (2 * y)))), (6, .long (nu (60 * s9 + (2 * y + 1))))]) rfl rfl rfl (Nat.le_of_ble_eq_true rfl) rfl (by decide) ?_
                refine wn_jp (pc' := 27) rfl rfl ?_
                have nO : ¬ hsO (hsS nu (60 * s9) w y) (nu (60 * s9 + (2 * y))) (nu (60 * s9 + (2 * y + 1))) := fun q => by obtain ⟨⟨q1, q2, q3, q4⟩, q5⟩ := q; omega
                refine wn_weak (lv' := [(0, .ref (71)), (1, .int (nI (s9))), (2, .int (nI (hsN nu (60 * s9) w y))), (3, .int (nI (2 * y + 2)))]) (by simp) ?_
                have z9 := ih_lp4 g3 (y + 1) (by omega) ln_g3 kf_g3 (by rw [hs_s0 nO]; exact hW_g3) (by omega)
                rw [show (nI (hsN nu (60 * s9) w (y + 1))) = (nI (hsN nu (60 * s9) w y)) from (by exact congrArg nI (hs_n0 nO))] at z9
                rw [show (nI (2 * (y + 1))) = (nI (2 * y + 2)) from (by rfl)] at z9
                exact z9
              · have c7 : ((lN 0).toInt ≤ (nu (60 * s9 + (2 * y + 1))).toInt ∧ (nu (60 * s9 + (2 * y + 1))).toInt ≤ ((5 : Int64)).toInt) := c7
                refine wn_ld (pc' := 92) (q := 0) (kin := 2) (v := .ref (71)) rfl (fun _ _ _ => rfl) rfl rfl ?_
                refine wn_ld (pc' := 94) (q := 4) (kin := 1) (v := .long (nu (60 * s9 + (2 * y)))) rfl (fun _ _ _ => rfl) rfl rfl ?_
                refine wn_pu (pc' := 95) (st' := [.int (Int64.toInt32 (nu (60 * s9 + (2 * y)))), .ref (71)]) rfl (fun _ _ _ => rfl) rfl rfl ?_
                refine wn_ld (pc' := 97) (q := 6) (kin := 1) (v := .long (nu (60 * s9 + (2 * y + 1)))) rfl (fun _ _ _ => rfl) rfl rfl ?_
                refine wn_pu (pc' := 98) (st' := [.int (Int64.toInt32 (nu (60 * s9 + (2 * y + 1)))), .int (Int64.toInt32 (nu (60 * s9 + (2 * y)))), .ref (71)]) rfl (fun _ _ _ => rfl) rfl rfl ?_
                refine wn_ic (pc' := 99) (w := nI 0) rfl rfl (by decide) ?_
                refine wn_top (y := bI False) (show nI 0 = bI False from BI0) ?_
                refine wn_virS (pc' := 102) rfl rfl (by decide) rfl rfl ((kf_g3 71 (by decide)).trans q0) (Nat.le_of_ble_eq_true rfl) (m_hear _ _ (hsS nu (60 * s9) w y) (hsf y).1 ⟨_, _, _, _, _, _, _, _, _, _, _, _, ((kf_g3 71 (by decide)).trans q0), hW_g3⟩ (hsf y).2.1 (Int64.toInt32 (nu (60 * s9 + (2 * y)))) (Int64.toInt32 (nu (60 * s9 + (2 * y + 1)))) False) (fun r9 h8 e9 => ?_)
                obtain ⟨rfl, l_h8, k_h8, hW_h8⟩ := e9
                show Wn _ _ 102 _ [.int (hearA (hsS nu (60 * s9) w y) (Int64.toInt32 (nu (60 * s9 + (2 * y)))) (Int64.toInt32 (nu (60 * s9 + (2 * y + 1)))))] h8 _
                refine wn_ifc (t := 108) (f := 105) rfl rfl rfl (fun c10 => ?_) (fun c10 => ?_)
                · have c10 : ((hearA (hsS nu (60 * s9) w y) (Int64.toInt32 (nu (60 * s9 + (2 * y)))) (Int64.toInt32 (nu (60 * s9 + (2 * y + 1)))))) ≤ 0 := c10
                  refine wn_incN (n := 2) (pc' := 111) (lv' := [(0, .ref (71)), (1, .int (nI (s9))), (2, .int (nI (hsN nu (60 * s9) w y))), (3, .int (nI (2 * y + 2))), (4, .long (nu (60 * s9 + (2 * y)))), (6, .long (nu (60 * s9 + (2 * y + 1))))]) rfl rfl rfl (Nat.le_of_ble_eq_true rfl) rfl (by decide) ?_
                  refine wn_jp (pc' := 27) rfl rfl ?_
                  simp only [Int32.lt_iff_toInt_lt, Int32.le_iff_toInt_le, i2l_int, Int32.toInt_zero, iin] at c10
                  have nC : ¬ (hearC (hsS nu (60 * s9) w y) (Int64.toInt32 (nu (60 * s9 + (2 * y)))) (Int64.toInt32 (nu (60 * s9 + (2 * y + 1)))) ∧ ¬ hearF (hsS nu (60 * s9) w y) (Int64.toInt32 (nu (60 * s9 + (2 * y)))).toNatClampNeg) := fun q => by have := hear_ok (hsf y).1 q; omega
                  have nO : ¬ hsO (hsS nu (60 * s9) w y) (nu (60 * s9 + (2 * y))) (nu (60 * s9 + (2 * y + 1))) := fun q => nC q.2
                  have eW : hearW (hsS nu (60 * s9) w y) (Int64.toInt32 (nu (60 * s9 + (2 * y)))) (Int64.toInt32 (nu (60 * s9 + (2 * y + 1)))) False = hsS nu (60 * s9) w y := qW_f nC
                  rw [eW] at hW_h8
                  refine wn_weak (lv' := [(0, .ref (71)), (1, .int (nI (s9))), (2, .int (nI (hsN nu (60 * s9) w y))), (3, .int (nI (2 * y + 2)))]) (by simp) ?_
                  have z9 := ih_lp4 h8 (y + 1) (by omega) (l_h8.trans ln_g3) (fun k q => (k_h8 k q).trans (kf_g3 k q)) (by rw [hs_s0 nO]; exact hW_h8) (by omega)
                  rw [show (nI (hsN nu (60 * s9) w (y + 1))) = (nI (hsN nu (60 * s9) w y)) from (by exact congrArg nI (hs_n0 nO))] at z9
                  rw [show (nI (2 * (y + 1))) = (nI (2 * y + 2)) from (by rfl)] at z9
                  exact z9
                · have c10 : 0 < ((hearA (hsS nu (60 * s9) w y) (Int64.toInt32 (nu (60 * s9 + (2 * y)))) (Int64.toInt32 (nu (60 * s9 + (2 * y + 1)))))) := c10
                  refine wn_incN (n := 1) (pc' := 108) (lv' := [(0, .ref (71)), (1, .int (nI (s9))), (2, .int (nI (hsN nu (60 * s9) w y + 1))), (3, .int (nI (2 * y))), (4, .long (nu (60 * s9 + (2 * y)))), (6, .long (nu (60 * s9 + (2 * y + 1))))]) rfl rfl rfl (Nat.le_of_ble_eq_true rfl) rfl (by decide) ?_
                  refine wn_incN (n := 2) (pc' := 111) (lv' := [(0, .ref (71)), (1, .int (nI (s9))), (2, .int (nI (hsN nu (60 * s9) w y + 1))), (3, .int (nI (2 * y + 2))), (4, .long (nu (60 * s9 + (2 * y)))), (6, .long (nu (60 * s9 + (2 * y + 1))))]) rfl rfl rfl (Nat.le_of_ble_eq_true rfl) rfl (by decide) ?_
                  refine wn_jp (pc' := 27) rfl rfl ?_
                  simp only [Int32.lt_iff_toInt_lt, Int32.le_iff_toInt_le, i2l_int, Int32.toInt_zero, iin] at c10
                  have yC : hearC (hsS nu (60 * s9) w y) (Int64.toInt32 (nu (60 * s9 + (2 * y)))) (Int64.toInt32 (nu (60 * s9 + (2 * y + 1)))) ∧ ¬ hearF (hsS nu (60 * s9) w y) (Int64.toInt32 (nu (60 * s9 + (2 * y)))).toNatClampNeg := Classical.not_not.mp (fun q => by have := hear_no q; omega)
                  have yO : hsO (hsS nu (60 * s9) w y) (nu (60 * s9 + (2 * y))) (nu (60 * s9 + (2 * y + 1))) := hs_yes (hsf y).1 (by omega) (by omega) (by omega) (by omega) yC
                  refine wn_weak (lv' := [(0, .ref (71)), (1, .int (nI (s9))), (2, .int (nI (hsN nu (60 * s9) w y + 1))), (3, .int (nI (2 * y + 2)))]) (by simp) ?_
                  have z9 := ih_lp4 h8 (y + 1) (by omega) (l_h8.trans ln_g3) (fun k q => (k_h8 k q).trans (kf_g3 k q)) (by rw [hs_s1 yO]; exact hW_h8) (by omega)
                  rw [show (nI (hsN nu (60 * s9) w (y + 1))) = (nI (hsN nu (60 * s9) w y + 1)) from (by exact congrArg nI (hs_n1 yO))] at z9
                  rw [show (nI (2 * (y + 1))) = (nI (2 * y + 2)) from (by rfl)] at z9
                  exact z9
      refine wn_weak (lv' := [(0, .ref (71)), (1, .int (nI (s9))), (2, .int (nI (0))), (3, .int (nI (0)))]) (by simp) ?_
      have z9 := lp4 (31 + 1) h 0 (by omega) rfl (fun _ _ => rfl) hW (by omega)
      rw [show (nI (hsN nu (60 * s9) w 0)) = (nI (0)) from (by rfl)] at z9
      rw [show (nI (2 * 0)) = (nI (0)) from (by rfl)] at z9
      exact z9
    · have c2 : ((mn (s9))) = ((-1)) := c2
      refine wn_bp (pc' := 22) (w := -6) rfl rfl (by decide) ?_
      refine wn_iret rfl rfl rfl ⟨congrArg (fun z => some (Value.int z)) ?_, rfl, fun _ _ => rfl, ?_⟩
      · unfold hearsA; rw [qI_t (iin_nI (by omega) (by omega)), cl_s, qI_t c2]
      · rw [show hearsW (nI s9) w mn nu = w from qW_f (fun q => by have q2 := q.2; rw [cl_s] at q2; exact q2 c2)]; exact hW
  · have c1 : ¬ (iin s 4) := c1
    refine wn_bp (pc' := 9) (w := -2) rfl rfl (by decide) ?_
    refine wn_iret rfl rfl rfl ⟨congrArg (fun z => some (Value.int z)) ?_, rfl, fun _ _ => rfl, ?_⟩
    · exact (qI_f c1).symm
    · rw [show hearsW s w mn nu = w from qW_f (fun q => c1 q.1)]; exact hW

theorem kase_18 (s : Int32) : CaseI Rq 94 206 [.int s] := kase_h (fun w mn nu => hearsA s w mn nu) (fun w mn nu => hearsW s w mn nu) (fun w mn nu g1 g8 => hears_w s g1 g8) (fun h ls w tp tl mn wd nu g1 g8 g2 V SL => x_hears 696 h ls w tp tl mn wd nu g1 g8 g2 V SL s) (fun h1 w tp tl mn wd nu g1 g8 g2 HM MT => m_hears 695 h1 w tp tl mn wd nu g1 g8 g2 HM MT s)
