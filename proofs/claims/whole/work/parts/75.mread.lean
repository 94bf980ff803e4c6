/-! THE REFERENCE'S READER -/
def MTs (t : Nat → Int32) (n : Nat) (th tl il : Int32) (up lo : Int64) (h : aH) (r : PR) : Prop := match r with
  | .inl e => ¬ nI e.1 = 0 ∧ ∃ sz at9 fr tk vl, isO h 71 9 (MoF th tl sz at9 fr tk vl (nI e.1) (nI e.2) il up lo) ∧ ∃ f, isI h 77 2676 f
  | .inr (p, w) => ∃ vl, vlP t n p vl ∧ isO h 71 9 (moS t n p th tl vl (nI 0) (-1) il up lo) ∧ isI h 77 2676 w
section MT
variable {t : Nat → Int32} {n : Nat} {th tl il : Int32} {up lo : Int64} {h : aH}
theorem MT_l {k pl : Nat} {sz at9 fr tk vl : Int32} {f : Nat → Int32} (hb : ¬ nI k = 0) (o : isO h 71 9 (MoF th tl sz at9 fr tk vl (nI k) (nI pl) il up lo)) (q : isI h 77 2676 f) : MTs t n th tl il up lo h (.inl (k, pl)) := ⟨hb, _, _, _, _, _, o, _, q⟩
theorem MT_r {p : Nat} {vl : Int32} {w : Nat → Int32} (hv : vlP t n p vl) (o : isO h 71 9 (moS t n p th tl vl (nI 0) (-1) il up lo)) (q : isI h 77 2676 w) : MTs t n th tl il up lo h (.inr (p, w)) := ⟨vl, hv, o, q⟩
end MT
theorem fw {h h' : aH} (F : Fr [71] h h') : Fr [71, 77] h h' := ⟨F.1, fun k hk => F.2 k (fun q => hk (by simp only [List.mem_cons, List.not_mem_nil, or_false] at q ⊢; omega))⟩
noncomputable def stp (t : Nat → Int32) (n : Nat) (r : PR) : PR := match r with
  | .inl e => .inl e
  | .inr (p, w) => pStop t n p w
def okW (n : Nat) (r : PR) : Prop := match r with
  | .inl _ => True
  | .inr (p, w) => p ≤ n ∧ w 0 = nI (lcW w)
theorem m_num0 (d : Nat) (h : aH) (t : Nat → Int32) (n p : Nat) (hn : n ≤ 1200) (hp : p ≤ n) (hb : byT t) (th tl vl il : Int32) (up lo : Int64) (hv : vlP t n p vl) (q0 : isO h 71 9 (moS t n p th tl vl (nI 0) (-1) il up lo)) (q4 : isB h 75 1200 t) (lo9 : Nat) (hlo : lo9 ≤ 2) (hi : Int32) (hiI : Int) (eh : hi.toInt = hiI) (hhi : hiI ≤ 999) : Sp (Rn (d + 3)) 164 [.ref (71), .int (nI (lo9)), .int (hi)] h (fun r9 h9 => Fr [71] h h9 ∧ ((nmOK t n p lo9 hiI ∧ r9 = some (.int (nI (tkV t n p))) ∧ ∃ vl', vlP t n (tkA t n p) vl' ∧ isO h9 71 9 (moS t n (tkA t n p) th tl (vl') (nI 0) (-1) il up lo)) ∨ (¬ nmOK t n p lo9 hiI ∧ r9 = some (.int (nI 0)) ∧ isO h9 71 9 (moS t n p th tl vl (nI (nmF t n p)) (nI (tkF t n p)) il up lo)))) := by
  subst eh
  exact m_number0 d h t n p hn hp hb th tl vl il up lo hv q0 q4 lo9 hlo hi hhi
theorem m_takesT (d : Nat) (h : aH) (t : Nat → Int32) (n p : Nat) (hn : n ≤ 1200) (hp : p ≤ n) (hb : byT t) (th tl vl il : Int32) (up lo : Int64) (hv : vlP t n p vl) (q0 : isO h 71 9 (moS t n p th tl vl (nI 0) (-1) il up lo)) (q4 : isB h 75 1200 t) (q : Nat) (hq : q < 20) (w : isWd t n p q) : Sp (Rn (d + 3)) 162 [.ref (71), .retAddr q] h (fun r9 h9 => r9 = some (.int (nI 1)) ∧ Fr [71] h h9 ∧ ∃ vl', vlP t n (tkA t n p) vl' ∧ isO h9 71 9 (moS t n (tkA t n p) th tl (vl') (nI 0) (-1) il up lo)) := by
  obtain ⟨r, h1, x, f, ⟨_, a, b⟩ | ⟨c, _⟩⟩ := m_takes0 d h t n p hn hp hb th tl vl il up lo hv q0 q4 q hq
  · exact ⟨r, h1, x, a, f, b⟩
  · exact absurd w c
theorem m_takesF (d : Nat) (h : aH) (t : Nat → Int32) (n p : Nat) (hn : n ≤ 1200) (hp : p ≤ n) (hb : byT t) (th tl vl il : Int32) (up lo : Int64) (hv : vlP t n p vl) (q0 : isO h 71 9 (moS t n p th tl vl (nI 0) (-1) il up lo)) (q4 : isB h 75 1200 t) (q : Nat) (hq : q < 20) (w : ¬ isWd t n p q) : Sp (Rn (d + 3)) 162 [.ref (71), .retAddr q] h (fun r9 h9 => r9 = some (.int (nI 0)) ∧ h9 = h) := by
  obtain ⟨r, h1, x, f, ⟨c, _⟩ | ⟨_, a, b⟩⟩ := m_takes0 d h t n p hn hp hb th tl vl il up lo hv q0 q4 q hq
  · exact absurd c w
  · exact ⟨r, h1, x, a, b⟩
/-- what follows a part -/
def Cn (t : Nat → Int32) (n : Nat) (hi : Int) (r r' : PR) : Prop := match r with
  | .inl e => r' = .inl e
  | .inr (p1, w1) => ((¬ isWd t n p1 14 ∧ ¬ isWd t n p1 15 ∧ ¬ isWd t n p1 16) ∧ r' = .inr (p1, w1)) ∨ ∃ j1, jnW t n p1 j1 ∧ SumR t n hi j1 (tkA t n p1) w1 r'
theorem Cn_s {t : Nat → Int32} {n : Nat} {hi : Int} {j p : Nat} {w : Nat → Int32} {r' : PR} (h : Cn t n hi (prtR t n hi j p w) r') : SumR t n hi j p w r' := by
  cases e : prtR t n hi j p w with
  | inl x => rw [e] at h; have h : r' = .inl x := h; rw [h]; exact SumR_e e
  | inr x =>
    obtain ⟨p1, w1⟩ := x
    rw [e] at h
    rcases h with ⟨⟨a, b, c⟩, h⟩ | ⟨j1, a, b⟩
    · rw [h]; exact SumR_0 e a b c
    · exact SumR_s e a b
def SuI (t : Nat → Int32) (n : Nat) (hi : Int) (j0 p : Nat) (w : Nat → Int32) (m : Nat) (r : PR) : Prop := (∀ r', Cn t n hi r r' → SumR t n hi j0 p w r') ∧ match r with
  | .inl _ => True
  | .inr (p1, w1) => WJ w1 ∧ 5 * npW w1 ≤ p1 ∧ p1 ≤ n ∧ m ≤ p1 ∧ ntW w1 = ntW w ∧ ∀ i, i < 10 → vaW w1 i = vaW w i
theorem SuI_p {t : Nat → Int32} {n : Nat} {hi : Int} {j0 p : Nat} {w : Nat → Int32} {m j1 p1 : Nat} {w1 : Nat → Int32} (hn : n ≤ 1200) (hh : hi ≤ 4) (a : ∀ r', Cn t n hi (prtR t n hi j1 p1 w1) r' → SumR t n hi j0 p w r') (h1 : WJ w1) (h2 : 5 * npW w1 + 4 ≤ p1) (h3 : p1 ≤ n) (h4 : m ≤ p1 + 1) (h5 : ntW w1 = ntW w) (h6 : ∀ i, i < 10 → vaW w1 i = vaW w i) : SuI t n hi j0 p w m (prtR t n hi j1 p1 w1) := by
  refine ⟨a, ?_⟩
  cases e : prtR t n hi j1 p1 w1 with
  | inl x => trivial
  | inr x =>
    obtain ⟨p2, w2⟩ := x
    obtain ⟨g1, g2, k, v, g3, g4, g5, g6⟩ := prtR_i hh h3 e
    have g1 : p1 < p2 := g1
    have g3 : w2 = prtW w1 j1 k v := g3
    subst g3
    have en := prt_n (w := w1) (j := j1) (k := k) (v := v) (by omega)
    exact ⟨h1.prt (by omega) g4 g5 g6, by omega, g2, by omega, prt_nt.trans h5, fun i hi => (prt_va hi).trans (h6 i hi)⟩
theorem SuI_s {t : Nat → Int32} {n : Nat} {hi : Int} {j0 p : Nat} {w : Nat → Int32} {m j1 p1 : Nat} {w1 : Nat → Int32} (hn : n ≤ 1200) (hh : hi ≤ 4) (H : SuI t n hi j0 p w m (.inr (p1, w1))) (hj : jnW t n p1 j1) : SuI t n hi j0 p w (m + 1) (prtR t n hi j1 (tkA t n p1) w1) := by
  obtain ⟨a, b1, b2, b3, b4, b5, b6⟩ := H
  have hl : p1 + 4 ≤ tkA t n p1 := by
    have l := litL4
    rcases jn_c hj with ⟨a, b⟩ | ⟨a, b⟩ | ⟨a, b⟩ <;> have := wd_gt b <;> omega
  exact SuI_p hn hh (fun r' hc => a r' (Or.inr ⟨j1, hj, Cn_s hc⟩)) b1 (by omega) (tkA_le b3) (by omega) b5 b6
theorem m_readRoad (d : Nat) (h : aH) (t : Nat → Int32) (n p : Nat) (w : Nat → Int32) (hn : n ≤ 1200) (hp : p ≤ n) (hb : byT t) (hJ : WJ w) (th tl vl il : Int32) (up lo : Int64) (hv : vlP t n p vl) (q0 : isO h 71 9 (moS t n p th tl vl (nI 0) (-1) il up lo)) (q4 : isB h 75 1200 t) (q6 : isI h 77 2676 w) (f0 : Nat) (hr40 : nrW w < 40) : Sp (Rn (d + 4)) 166 [.ref (71)] h (fun r9 h9 => r9 = none ∧ Fr [71, 77] h h9 ∧ ∃ r0, MTs t n th tl il up lo h9 r0 ∧ okW n r0 ∧ rodR t n f0 p w = stp t n r0) := by
  obtain ⟨e0, e0b⟩ := wj_0 hJ
  obtain ⟨⟨e1, e2⟩, ⟨e3, e4⟩, ⟨e5, e6⟩⟩ := Wf_n hJ.wf
  obtain ⟨⟨e7, e8⟩, ⟨e9, e10⟩⟩ := Wf_m hJ.wf
  have hF := tkF_le (t := t) hp
  have hA := tkA_ge (t := t) (n := n) (p := p)
  have hA2 := tkA_le (t := t) hp
  have hK := tkK_le (t := t) (n := n) (p := p)
  refine Sp_of (by decide) (Nat.le_of_ble_eq_true rfl) ?_
  show Wn _ _ 0 [(0, .ref (71))] [] _ _
  refine wn_ld (pc' := 1) (q := 0) (kin := 2) (v := .ref (71)) rfl (fun _ _ _ => rfl) rfl rfl ?_
  refine wn_ic (pc' := 2) (w := nI 0) rfl rfl (by decide) ?_
  refine wn_ld (pc' := 3) (q := 0) (kin := 2) (v := .ref (71)) rfl (fun _ _ _ => rfl) rfl rfl ?_
  refine wn_get (pc' := 6) (v := .ref (77)) rfl rfl q0 rfl ?_
  refine wn_ic (pc' := 7) (w := nI 1) rfl rfl (by decide) ?_
  refine wn_ialdv (pc' := 8) (j := 1) (v := (nI (nvW w))) rfl rfl q6 rfl (by omega) (by decide) (e1) ?_
  refine wn_ic (pc' := 9) (w := nI 1) rfl rfl (by decide) ?_
  refine wn_pu (pc' := 10) (st' := [.int ((nI (nvW w)) - (nI (1))), .int (nI (0)), .ref (71)]) rfl (fun _ _ _ => rfl) rfl rfl ?_
  refine wn_virS (pc' := 13) rfl rfl (by decide) rfl rfl q0 (Nat.le_of_ble_eq_true rfl) (m_num0 _ _ t n p hn hp hb th tl _ il up lo hv q0 q4 0 (by omega) ((nI (nvW w)) - (nI (1))) (((nvW w : Nat) : Int) - 1) (sub1 (by omega)) (by omega)) (fun r9 h1 e2 => ?_)
  obtain ⟨f_h1, ⟨w_h1, rfl, vl_h1, hv_h1, o_h1⟩ | ⟨w_h1, rfl, o_h1⟩⟩ := e2
  · have fr_h1 := Fr.tr (Fr.rfl' [71] h) f_h1 (fun _ q => q)
    have := tkF_le (t := t) (p := (tkA t n p)) (tkA_le hp)
    have := tkA_ge (t := t) (n := n) (p := (tkA t n p))
    have := tkA_le (t := t) (p := (tkA t n p)) (tkA_le hp)
    have := tkK_le (t := t) (n := n) (p := (tkA t n p))
    have b1_h1 := w_h1.2.1
    have b2_h1 := w_h1.2.2
    have g_h1 := nm_gt w_h1
    show Wn _ _ 13 _ [.int (nI (tkV t n p))] h1 _
    refine wn_st (pc' := 14) (q := 1) (kin := 0) (lv' := [(0, .ref (71)), (1, .int (nI (tkV t n p)))]) rfl (fun _ _ _ => rfl) rfl (Nat.le_of_ble_eq_true rfl) rfl ?_
    refine wn_ld (pc' := 15) (q := 0) (kin := 2) (v := .ref (71)) rfl (fun _ _ _ => rfl) rfl rfl ?_
    refine wn_virI (pc' := 18) rfl rfl (by decide) rfl rfl o_h1 (Nat.le_of_ble_eq_true rfl) (m_good0 _ _ _ _ _ _ _ _ _ _ _ _ _ o_h1) ?_
    refine wn_ifN (t := 42) (f := 21) rfl rfl rfl (by omega) (fun c3 => ?_) (fun c3 => ?_)
    · have c3 : 1 = 0 := c3
      exact absurd c3 (by decide)
    · have c3 : ¬ 1 = 0 := c3
      refine wn_ld (pc' := 22) (q := 0) (kin := 2) (v := .ref (71)) rfl (fun _ _ _ => rfl) rfl rfl ?_
      refine wn_get (pc' := 25) (v := .int (nI (tkK t n (tkA t n p)))) rfl rfl o_h1 rfl ?_
      refine wn_ic (pc' := 26) (w := nI 2) rfl rfl (by decide) ?_
      refine wn_icmpN (t := 42) (f := 29) rfl rfl rfl (by omega) (by omega) (fun c4 => ?_) (fun c4 => ?_)
      · have c4 : ¬ (tkK t n (tkA t n p)) = 2 := c4
        refine wn_ld (pc' := 43) (q := 0) (kin := 2) (v := .ref (71)) rfl (fun _ _ _ => rfl) rfl rfl ?_
        refine wn_ic (pc' := 44) (w := nI 0) rfl rfl (by decide) ?_
        refine wn_ld (pc' := 45) (q := 0) (kin := 2) (v := .ref (71)) rfl (fun _ _ _ => rfl) rfl rfl ?_
        refine wn_get (pc' := 48) (v := .ref (77)) rfl rfl o_h1 rfl ?_
        refine wn_ic (pc' := 49) (w := nI 1) rfl rfl (by decide) ?_
        refine wn_ialdv (pc' := 50) (j := 1) (v := (nI (nvW w))) rfl rfl ((fr_h1.2 77 (by decide)).trans q6) rfl (by omega) (by decide) (e1) ?_
        refine wn_ic (pc' := 51) (w := nI 1) rfl rfl (by decide) ?_
        refine wn_pu (pc' := 52) (st' := [.int ((nI (nvW w)) - (nI (1))), .int (nI (0)), .ref (71)]) rfl (fun _ _ _ => rfl) rfl rfl ?_
        refine wn_virS (pc' := 55) rfl rfl (by decide) rfl rfl o_h1 (Nat.le_of_ble_eq_true rfl) (m_num0 _ _ t n (tkA t n p) hn (tkA_le hp) hb th tl _ il up lo hv_h1 o_h1 ((fr_h1.2 75 (by decide)).trans q4) 0 (by omega) ((nI (nvW w)) - (nI (1))) (((nvW w : Nat) : Int) - 1) (sub1 (by omega)) (by omega)) (fun r9 h5 e6 => ?_)
        obtain ⟨f_h5, ⟨w_h5, rfl, vl_h5, hv_h5, o_h5⟩ | ⟨w_h5, rfl, o_h5⟩⟩ := e6
        · have fr_h5 := Fr.tr fr_h1 f_h5 (fun _ q => q)
          have := tkF_le (t := t) (p := (tkA t n (tkA t n p))) (tkA_le (tkA_le hp))
          have := tkA_ge (t := t) (n := n) (p := (tkA t n (tkA t n p)))
          have := tkA_le (t := t) (p := (tkA t n (tkA t n p))) (tkA_le (tkA_le hp))
          have := tkK_le (t := t) (n := n) (p := (tkA t n (tkA t n p)))
          have b1_h5 := w_h5.2.1
          have b2_h5 := w_h5.2.2
          have g_h5 := nm_gt w_h5
          show Wn _ _ 55 _ [.int (nI (tkV t n (tkA t n p)))] h5 _
          refine wn_st (pc' := 56) (q := 2) (kin := 0) (lv' := [(0, .ref (71)), (1, .int (nI (tkV t n p))), (2, .int (nI (tkV t n (tkA t n p))))]) rfl (fun _ _ _ => rfl) rfl (Nat.le_of_ble_eq_true rfl) rfl ?_
          refine wn_ld (pc' := 57) (q := 0) (kin := 2) (v := .ref (71)) rfl (fun _ _ _ => rfl) rfl rfl ?_
          refine wn_go (pc' := 59) (lv' := [(0, .ref (71)), (1, .int (nI (tkV t n p))), (2, .int (nI (tkV t n (tkA t n p))))]) (st' := [.retAddr 3, .ref (71)]) rfl (fun _ _ _ k9 => ⟨by decide, k9⟩) ?_
          refine wn_virS (pc' := 62) rfl rfl (by decide) rfl rfl o_h5 (Nat.le_of_ble_eq_true rfl) (m_takes0 _ _ t n (tkA t n (tkA t n p)) hn (tkA_le (tkA_le hp)) hb th tl _ il up lo hv_h5 o_h5 ((fr_h5.2 75 (by decide)).trans q4) 3 (by omega)) (fun r9 h7 e8 => ?_)
          obtain ⟨f_h7, ⟨w_h7, rfl, vl_h7, hv_h7, o_h7⟩ | ⟨w_h7, rfl, e_h7⟩⟩ := e8
          · have fr_h7 := Fr.tr fr_h5 f_h7 (fun _ q => q)
            have := tkF_le (t := t) (p := (tkA t n (tkA t n (tkA t n p)))) (tkA_le (tkA_le (tkA_le hp)))
            have := tkA_ge (t := t) (n := n) (p := (tkA t n (tkA t n (tkA t n p))))
            have := tkA_le (t := t) (p := (tkA t n (tkA t n (tkA t n p)))) (tkA_le (tkA_le (tkA_le hp)))
            have := tkK_le (t := t) (n := n) (p := (tkA t n (tkA t n (tkA t n p))))
            show Wn _ _ 62 _ [.int (nI (1))] h7 _
            refine wn_st (pc' := 63) (q := 3) (kin := 0) (lv' := [(0, .ref (71)), (1, .int (nI (tkV t n p))), (2, .int (nI (tkV t n (tkA t n p)))), (3, .int (nI (1)))]) rfl (fun _ _ _ => rfl) rfl (Nat.le_of_ble_eq_true rfl) rfl ?_
            refine wn_ld (pc' := 64) (q := 0) (kin := 2) (v := .ref (71)) rfl (fun _ _ _ => rfl) rfl rfl ?_
            refine wn_virI (pc' := 67) rfl rfl (by decide) rfl rfl o_h7 (Nat.le_of_ble_eq_true rfl) (m_good0 _ _ _ _ _ _ _ _ _ _ _ _ _ o_h7) ?_
            refine wn_ifN (t := 71) (f := 70) rfl rfl rfl (by omega) (fun c9 => ?_) (fun c9 => ?_)
            · have c9 : ¬ 1 = 0 := c9
              refine wn_bp (pc' := 73) (w := nI 56) rfl rfl (by decide) ?_
              refine wn_ic (pc' := 74) (w := nI 3) rfl rfl (by decide) ?_
              refine wn_ld (pc' := 75) (q := 0) (kin := 2) (v := .ref (71)) rfl (fun _ _ _ => rfl) rfl rfl ?_
              refine wn_get (pc' := 78) (v := .ref (77)) rfl rfl o_h7 rfl ?_
              refine wn_ic (pc' := 79) (w := nI 2) rfl rfl (by decide) ?_
              refine wn_ialdv (pc' := 80) (j := 2) (v := (nI (nrW w))) rfl rfl ((fr_h7.2 77 (by decide)).trans q6) rfl (by omega) (by decide) (e3) ?_
              refine wn_mulN (pc' := 81) rfl rfl ?_
              refine wn_addN (pc' := 82) rfl rfl ?_
              refine wn_st (pc' := 84) (q := 4) (kin := 0) (lv' := [(0, .ref (71)), (1, .int (nI (tkV t n p))), (2, .int (nI (tkV t n (tkA t n p)))), (3, .int (nI (1))), (4, .int (nI (56 + (3 * (nrW w)))))]) rfl (fun _ _ _ => rfl) rfl (Nat.le_of_ble_eq_true rfl) rfl ?_
              refine wn_ld (pc' := 85) (q := 0) (kin := 2) (v := .ref (71)) rfl (fun _ _ _ => rfl) rfl rfl ?_
              refine wn_get (pc' := 88) (v := .ref (77)) rfl rfl o_h7 rfl ?_
              refine wn_ld (pc' := 90) (q := 4) (kin := 0) (v := .int (nI (56 + (3 * (nrW w))))) rfl (fun _ _ _ => rfl) rfl rfl ?_
              refine wn_ld (pc' := 91) (q := 1) (kin := 0) (v := .int (nI (tkV t n p))) rfl (fun _ _ _ => rfl) rfl rfl ?_
              refine wn_iast (pc' := 92) (j := 56 + (3 * (nrW w))) rfl rfl ((fr_h7.2 77 (by decide)).trans q6) rfl (by omega) (by decide) ?_
              refine wn_ld (pc' := 93) (q := 0) (kin := 2) (v := .ref (71)) rfl (fun _ _ _ => rfl) rfl rfl ?_
              refine wn_get (pc' := 96) (v := .ref (77)) rfl rfl (gs_ne (by decide) o_h7) rfl ?_
              refine wn_ld (pc' := 98) (q := 4) (kin := 0) (v := .int (nI (56 + (3 * (nrW w))))) rfl (fun _ _ _ => rfl) rfl rfl ?_
              refine wn_ic (pc' := 99) (w := nI 1) rfl rfl (by decide) ?_
              refine wn_addN (pc' := 100) rfl rfl ?_
              refine wn_ld (pc' := 101) (q := 2) (kin := 0) (v := .int (nI (tkV t n (tkA t n p)))) rfl (fun _ _ _ => rfl) rfl rfl ?_
              refine wn_iast (pc' := 102) (j := (56 + (3 * (nrW w))) + 1) rfl rfl (gs_self ((fr_h7.2 77 (by decide)).trans q6)) rfl (by omega) (by decide) ?_
              refine wn_ld (pc' := 103) (q := 0) (kin := 2) (v := .ref (71)) rfl (fun _ _ _ => rfl) rfl rfl ?_
              refine wn_get (pc' := 106) (v := .ref (77)) rfl rfl (gs_ne (by decide) (gs_ne (by decide) o_h7)) rfl ?_
              refine wn_ld (pc' := 108) (q := 4) (kin := 0) (v := .int (nI (56 + (3 * (nrW w))))) rfl (fun _ _ _ => rfl) rfl rfl ?_
              refine wn_ic (pc' := 109) (w := nI 2) rfl rfl (by decide) ?_
              refine wn_addN (pc' := 110) rfl rfl ?_
              refine wn_ld (pc' := 111) (q := 3) (kin := 0) (v := .int (nI (1))) rfl (fun _ _ _ => rfl) rfl rfl ?_
              refine wn_ifN (t := 118) (f := 114) rfl rfl rfl (by omega) (fun c10 => ?_) (fun c10 => ?_)
              · have c10 : 1 = 0 := c10
                exact absurd c10 (by decide)
              · have c10 : ¬ 1 = 0 := c10
                refine wn_ic (pc' := 115) (w := nI 1) rfl rfl (by decide) ?_
                refine wn_jp (pc' := 119) rfl rfl ?_
                refine wn_iast (pc' := 120) (j := (56 + (3 * (nrW w))) + 2) rfl rfl (gs_self (gs_self ((fr_h7.2 77 (by decide)).trans q6))) rfl (by omega) (by decide) ?_
                refine wn_ld (pc' := 121) (q := 0) (kin := 2) (v := .ref (71)) rfl (fun _ _ _ => rfl) rfl rfl ?_
                refine wn_get (pc' := 124) (v := .ref (77)) rfl rfl (gs_ne (by decide) (gs_ne (by decide) (gs_ne (by decide) o_h7))) rfl ?_
                refine wn_ic (pc' := 125) (w := nI 2) rfl rfl (by decide) ?_
                refine wn_pu (pc' := 126) (st' := [.int (nI (2)), .ref (77), .int (nI (2)), .ref (77)]) rfl (fun _ _ _ => rfl) rfl rfl ?_
                refine wn_ialdv (pc' := 127) (j := 2) (v := (nI (nrW w))) rfl rfl (gs_self (gs_self (gs_self ((fr_h7.2 77 (by decide)).trans q6)))) rfl (by omega) (by decide) ((pk_un (by omega)).trans ((pk_un (by omega)).trans ((pk_un (by omega)).trans (e3)))) ?_
                refine wn_ic (pc' := 128) (w := nI 1) rfl rfl (by decide) ?_
                refine wn_addN (pc' := 129) rfl rfl ?_
                refine wn_iast (pc' := 130) (j := 2) rfl rfl (gs_self (gs_self (gs_self ((fr_h7.2 77 (by decide)).trans q6)))) rfl (by omega) (by decide) ?_
                have eR : rodR t n f0 p w = stp t n (.inr (tkA t n (tkA t n (tkA t n p)), rodW w (tkV t n p) (tkV t n (tkA t n p)) 1)) := (pI_t hr40).trans ((pI_t w_h1).trans ((pI_f (fun q => c4 q.1)).trans ((pI_t w_h5).trans (pI_t w_h7))))
                exact wn_vret rfl rfl ⟨rfl, (Fr.st (Fr.st (Fr.st (Fr.st (Fr.tr (Fr.rfl' [71, 77] h) (fw fr_h7) (fun _ q => q)) (by decide)) (by decide)) (by decide)) (by decide)), .inr (tkA t n (tkA t n (tkA t n p)), rodW w (tkV t n p) (tkV t n (tkA t n p)) 1), MT_r hv_h7 (gs_ne (by decide) (gs_ne (by decide) (gs_ne (by decide) (gs_ne (by decide) o_h7)))) (gs_self (gs_self (gs_self (gs_self ((fr_h7.2 77 (by decide)).trans q6))))), ⟨(tkA_le (tkA_le (tkA_le hp))), (rod_o (by omega) (by omega)).trans (e0.trans (congrArg nI (lc_e (rod_o (by omega) (by omega))).symm))⟩, eR⟩
            · have c9 : 1 = 0 := c9
              exact absurd c9 (by decide)
          · rw [e_h7]
            show Wn _ _ 62 _ [.int (nI (0))] h5 _
            refine wn_st (pc' := 63) (q := 3) (kin := 0) (lv' := [(0, .ref (71)), (1, .int (nI (tkV t n p))), (2, .int (nI (tkV t n (tkA t n p)))), (3, .int (nI (0)))]) rfl (fun _ _ _ => rfl) rfl (Nat.le_of_ble_eq_true rfl) rfl ?_
            refine wn_ld (pc' := 64) (q := 0) (kin := 2) (v := .ref (71)) rfl (fun _ _ _ => rfl) rfl rfl ?_
            refine wn_virI (pc' := 67) rfl rfl (by decide) rfl rfl o_h5 (Nat.le_of_ble_eq_true rfl) (m_good0 _ _ _ _ _ _ _ _ _ _ _ _ _ o_h5) ?_
            refine wn_ifN (t := 71) (f := 70) rfl rfl rfl (by omega) (fun c11 => ?_) (fun c11 => ?_)
            · have c11 : ¬ 1 = 0 := c11
              refine wn_bp (pc' := 73) (w := nI 56) rfl rfl (by decide) ?_
              refine wn_ic (pc' := 74) (w := nI 3) rfl rfl (by decide) ?_
              refine wn_ld (pc' := 75) (q := 0) (kin := 2) (v := .ref (71)) rfl (fun _ _ _ => rfl) rfl rfl ?_
              refine wn_get (pc' := 78) (v := .ref (77)) rfl rfl o_h5 rfl ?_
              refine wn_ic (pc' := 79) (w := nI 2) rfl rfl (by decide) ?_
              refine wn_ialdv (pc' := 80) (j := 2) (v := (nI (nrW w))) rfl rfl ((fr_h5.2 77 (by decide)).trans q6) rfl (by omega) (by decide) (e3) ?_
              refine wn_mulN (pc' := 81) rfl rfl ?_
              refine wn_addN (pc' := 82) rfl rfl ?_
              refine wn_st (pc' := 84) (q := 4) (kin := 0) (lv' := [(0, .ref (71)), (1, .int (nI (tkV t n p))), (2, .int (nI (tkV t n (tkA t n p)))), (3, .int (nI (0))), (4, .int (nI (56 + (3 * (nrW w)))))]) rfl (fun _ _ _ => rfl) rfl (Nat.le_of_ble_eq_true rfl) rfl ?_
              refine wn_ld (pc' := 85) (q := 0) (kin := 2) (v := .ref (71)) rfl (fun _ _ _ => rfl) rfl rfl ?_
              refine wn_get (pc' := 88) (v := .ref (77)) rfl rfl o_h5 rfl ?_
              refine wn_ld (pc' := 90) (q := 4) (kin := 0) (v := .int (nI (56 + (3 * (nrW w))))) rfl (fun _ _ _ => rfl) rfl rfl ?_
              refine wn_ld (pc' := 91) (q := 1) (kin := 0) (v := .int (nI (tkV t n p))) rfl (fun _ _ _ => rfl) rfl rfl ?_
              refine wn_iast (pc' := 92) (j := 56 + (3 * (nrW w))) rfl rfl ((fr_h5.2 77 (by decide)).trans q6) rfl (by omega) (by decide) ?_
              refine wn_ld (pc' := 93) (q := 0) (kin := 2) (v := .ref (71)) rfl (fun _ _ _ => rfl) rfl rfl ?_
              refine wn_get (pc' := 96) (v := .ref (77)) rfl rfl (gs_ne (by decide) o_h5) rfl ?_
              refine wn_ld (pc' := 98) (q := 4) (kin := 0) (v := .int (nI (56 + (3 * (nrW w))))) rfl (fun _ _ _ => rfl) rfl rfl ?_
              refine wn_ic (pc' := 99) (w := nI 1) rfl rfl (by decide) ?_
              refine wn_addN (pc' := 100) rfl rfl ?_
              refine wn_ld (pc' := 101) (q := 2) (kin := 0) (v := .int (nI (tkV t n (tkA t n p)))) rfl (fun _ _ _ => rfl) rfl rfl ?_
              refine wn_iast (pc' := 102) (j := (56 + (3 * (nrW w))) + 1) rfl rfl (gs_self ((fr_h5.2 77 (by decide)).trans q6)) rfl (by omega) (by decide) ?_
              refine wn_ld (pc' := 103) (q := 0) (kin := 2) (v := .ref (71)) rfl (fun _ _ _ => rfl) rfl rfl ?_
              refine wn_get (pc' := 106) (v := .ref (77)) rfl rfl (gs_ne (by decide) (gs_ne (by decide) o_h5)) rfl ?_
              refine wn_ld (pc' := 108) (q := 4) (kin := 0) (v := .int (nI (56 + (3 * (nrW w))))) rfl (fun _ _ _ => rfl) rfl rfl ?_
              refine wn_ic (pc' := 109) (w := nI 2) rfl rfl (by decide) ?_
              refine wn_addN (pc' := 110) rfl rfl ?_
              refine wn_ld (pc' := 111) (q := 3) (kin := 0) (v := .int (nI (0))) rfl (fun _ _ _ => rfl) rfl rfl ?_
              refine wn_ifN (t := 118) (f := 114) rfl rfl rfl (by omega) (fun c12 => ?_) (fun c12 => ?_)
              · have c12 : 0 = 0 := c12
                refine wn_ic (pc' := 119) (w := nI 0) rfl rfl (by decide) ?_
                refine wn_iast (pc' := 120) (j := (56 + (3 * (nrW w))) + 2) rfl rfl (gs_self (gs_self ((fr_h5.2 77 (by decide)).trans q6))) rfl (by omega) (by decide) ?_
                refine wn_ld (pc' := 121) (q := 0) (kin := 2) (v := .ref (71)) rfl (fun _ _ _ => rfl) rfl rfl ?_
                refine wn_get (pc' := 124) (v := .ref (77)) rfl rfl (gs_ne (by decide) (gs_ne (by decide) (gs_ne (by decide) o_h5))) rfl ?_
                refine wn_ic (pc' := 125) (w := nI 2) rfl rfl (by decide) ?_
                refine wn_pu (pc' := 126) (st' := [.int (nI (2)), .ref (77), .int (nI (2)), .ref (77)]) rfl (fun _ _ _ => rfl) rfl rfl ?_
                refine wn_ialdv (pc' := 127) (j := 2) (v := (nI (nrW w))) rfl rfl (gs_self (gs_self (gs_self ((fr_h5.2 77 (by decide)).trans q6)))) rfl (by omega) (by decide) ((pk_un (by omega)).trans ((pk_un (by omega)).trans ((pk_un (by omega)).trans (e3)))) ?_
                refine wn_ic (pc' := 128) (w := nI 1) rfl rfl (by decide) ?_
                refine wn_addN (pc' := 129) rfl rfl ?_
                refine wn_iast (pc' := 130) (j := 2) rfl rfl (gs_self (gs_self (gs_self ((fr_h5.2 77 (by decide)).trans q6)))) rfl (by omega) (by decide) ?_
                have eR : rodR t n f0 p w = stp t n (.inr (tkA t n (tkA t n p), rodW w (tkV t n p) (tkV t n (tkA t n p)) 0)) := (pI_t hr40).trans ((pI_t w_h1).trans ((pI_f (fun q => c4 q.1)).trans ((pI_t w_h5).trans (pI_f w_h7))))
                exact wn_vret rfl rfl ⟨rfl, (Fr.st (Fr.st (Fr.st (Fr.st (Fr.tr (Fr.rfl' [71, 77] h) (fw fr_h5) (fun _ q => q)) (by decide)) (by decide)) (by decide)) (by decide)), .inr (tkA t n (tkA t n p), rodW w (tkV t n p) (tkV t n (tkA t n p)) 0), MT_r hv_h5 (gs_ne (by decide) (gs_ne (by decide) (gs_ne (by decide) (gs_ne (by decide) o_h5)))) (gs_self (gs_self (gs_self (gs_self ((fr_h5.2 77 (by decide)).trans q6))))), ⟨(tkA_le (tkA_le hp)), (rod_o (by omega) (by omega)).trans (e0.trans (congrArg nI (lc_e (rod_o (by omega) (by omega))).symm))⟩, eR⟩
              · have c12 : ¬ 0 = 0 := c12
                exact absurd c12 (by decide)
            · have c11 : 1 = 0 := c11
              exact absurd c11 (by decide)
        · have fr_h5 := Fr.tr fr_h1 f_h5 (fun _ q => q)
          show Wn _ _ 55 _ [.int (nI (0))] h5 _
          refine wn_st (pc' := 56) (q := 2) (kin := 0) (lv' := [(0, .ref (71)), (1, .int (nI (tkV t n p))), (2, .int (nI (0)))]) rfl (fun _ _ _ => rfl) rfl (Nat.le_of_ble_eq_true rfl) rfl ?_
          refine wn_ld (pc' := 57) (q := 0) (kin := 2) (v := .ref (71)) rfl (fun _ _ _ => rfl) rfl rfl ?_
          refine wn_go (pc' := 59) (lv' := [(0, .ref (71)), (1, .int (nI (tkV t n p))), (2, .int (nI (0)))]) (st' := [.retAddr 3, .ref (71)]) rfl (fun _ _ _ k9 => ⟨by decide, k9⟩) ?_
          refine wn_virI (pc' := 62) rfl rfl (by decide) rfl rfl o_h5 (Nat.le_of_ble_eq_true rfl) (m_takesB _ _ _ _ _ _ _ _ _ _ _ _ _ _ nmF_nz o_h5 3 (by omega)) ?_
          refine wn_st (pc' := 63) (q := 3) (kin := 0) (lv' := [(0, .ref (71)), (1, .int (nI (tkV t n p))), (2, .int (nI (0))), (3, .int (nI (0)))]) rfl (fun _ _ _ => rfl) rfl (Nat.le_of_ble_eq_true rfl) rfl ?_
          refine wn_ld (pc' := 64) (q := 0) (kin := 2) (v := .ref (71)) rfl (fun _ _ _ => rfl) rfl rfl ?_
          refine wn_virI (pc' := 67) rfl rfl (by decide) rfl rfl o_h5 (Nat.le_of_ble_eq_true rfl) (m_goodB _ _ _ _ _ _ _ _ _ _ _ _ _ _ nmF_nz o_h5) ?_
          refine wn_ifN (t := 71) (f := 70) rfl rfl rfl (by omega) (fun c13 => ?_) (fun c13 => ?_)
          · have c13 : ¬ 0 = 0 := c13
            exact absurd c13 (by decide)
          · have c13 : 0 = 0 := c13
            have eR : rodR t n f0 p w = stp t n (.inl (nmF t n (tkA t n p), tkF t n (tkA t n p))) := (pI_t hr40).trans ((pI_t w_h1).trans ((pI_f (fun q => c4 q.1)).trans (pI_f w_h5)))
            exact wn_vret rfl rfl ⟨rfl, (Fr.tr (Fr.rfl' [71, 77] h) (fw fr_h5) (fun _ q => q)), _, MT_l nmF_nz o_h5 ((fr_h5.2 77 (by decide)).trans q6), trivial, eR⟩
      · have c4 : (tkK t n (tkA t n p)) = 2 := c4
        refine wn_ld (pc' := 30) (q := 0) (kin := 2) (v := .ref (71)) rfl (fun _ _ _ => rfl) rfl rfl ?_
        refine wn_get (pc' := 33) (v := .int (vl_h1)) rfl rfl o_h1 rfl ?_
        refine wn_top (y := nI (min 9999 (tkV t n (tkA t n p)))) (hv_h1 c4) ?_
        refine wn_ld (pc' := 34) (q := 1) (kin := 0) (v := .int (nI (tkV t n p))) rfl (fun _ _ _ => rfl) rfl rfl ?_
        refine wn_icmpN (t := 42) (f := 37) rfl rfl rfl (by omega) (by omega) (fun c14 => ?_) (fun c14 => ?_)
        · have c14 : ¬ (min 9999 (tkV t n (tkA t n p))) = (tkV t n p) := c14
          refine wn_ld (pc' := 43) (q := 0) (kin := 2) (v := .ref (71)) rfl (fun _ _ _ => rfl) rfl rfl ?_
          refine wn_ic (pc' := 44) (w := nI 0) rfl rfl (by decide) ?_
          refine wn_ld (pc' := 45) (q := 0) (kin := 2) (v := .ref (71)) rfl (fun _ _ _ => rfl) rfl rfl ?_
          refine wn_get (pc' := 48) (v := .ref (77)) rfl rfl o_h1 rfl ?_
          refine wn_ic (pc' := 49) (w := nI 1) rfl rfl (by decide) ?_
          refine wn_ialdv (pc' := 50) (j := 1) (v := (nI (nvW w))) rfl rfl ((fr_h1.2 77 (by decide)).trans q6) rfl (by omega) (by decide) (e1) ?_
          refine wn_ic (pc' := 51) (w := nI 1) rfl rfl (by decide) ?_
          refine wn_pu (pc' := 52) (st' := [.int ((nI (nvW w)) - (nI (1))), .int (nI (0)), .ref (71)]) rfl (fun _ _ _ => rfl) rfl rfl ?_
          refine wn_virS (pc' := 55) rfl rfl (by decide) rfl rfl o_h1 (Nat.le_of_ble_eq_true rfl) (m_num0 _ _ t n (tkA t n p) hn (tkA_le hp) hb th tl _ il up lo hv_h1 o_h1 ((fr_h1.2 75 (by decide)).trans q4) 0 (by omega) ((nI (nvW w)) - (nI (1))) (((nvW w : Nat) : Int) - 1) (sub1 (by omega)) (by omega)) (fun r9 h15 e16 => ?_)
          obtain ⟨f_h15, ⟨w_h15, rfl, vl_h15, hv_h15, o_h15⟩ | ⟨w_h15, rfl, o_h15⟩⟩ := e16
          · have fr_h15 := Fr.tr fr_h1 f_h15 (fun _ q => q)
            have := tkF_le (t := t) (p := (tkA t n (tkA t n p))) (tkA_le (tkA_le hp))
            have := tkA_ge (t := t) (n := n) (p := (tkA t n (tkA t n p)))
            have := tkA_le (t := t) (p := (tkA t n (tkA t n p))) (tkA_le (tkA_le hp))
            have := tkK_le (t := t) (n := n) (p := (tkA t n (tkA t n p)))
            have b1_h15 := w_h15.2.1
            have b2_h15 := w_h15.2.2
            have g_h15 := nm_gt w_h15
            show Wn _ _ 55 _ [.int (nI (tkV t n (tkA t n p)))] h15 _
            refine wn_st (pc' := 56) (q := 2) (kin := 0) (lv' := [(0, .ref (71)), (1, .int (nI (tkV t n p))), (2, .int (nI (tkV t n (tkA t n p))))]) rfl (fun _ _ _ => rfl) rfl (Nat.le_of_ble_eq_true rfl) rfl ?_
            refine wn_ld (pc' := 57) (q := 0) (kin := 2) (v := .ref (71)) rfl (fun _ _ _ => rfl) rfl rfl ?_
            refine wn_go (pc' := 59) (lv' := [(0, .ref (71)), (1, .int (nI (tkV t n p))), (2, .int (nI (tkV t n (tkA t n p))))]) (st' := [.retAddr 3, .ref (71)]) rfl (fun _ _ _ k9 => ⟨by decide, k9⟩) ?_
            refine wn_virS (pc' := 62) rfl rfl (by decide) rfl rfl o_h15 (Nat.le_of_ble_eq_true rfl) (m_takes0 _ _ t n (tkA t n (tkA t n p)) hn (tkA_le (tkA_le hp)) hb th tl _ il up lo hv_h15 o_h15 ((fr_h15.2 75 (by decide)).trans q4) 3 (by omega)) (fun r9 h17 e18 => ?_)
            obtain ⟨f_h17, ⟨w_h17, rfl, vl_h17, hv_h17, o_h17⟩ | ⟨w_h17, rfl, e_h17⟩⟩ := e18
            · have fr_h17 := Fr.tr fr_h15 f_h17 (fun _ q => q)
              have := tkF_le (t := t) (p := (tkA t n (tkA t n (tkA t n p)))) (tkA_le (tkA_le (tkA_le hp)))
              have := tkA_ge (t := t) (n := n) (p := (tkA t n (tkA t n (tkA t n p))))
              have := tkA_le (t := t) (p := (tkA t n (tkA t n (tkA t n p)))) (tkA_le (tkA_le (tkA_le hp)))
              have := tkK_le (t := t) (n := n) (p := (tkA t n (tkA t n (tkA t n p))))
              show Wn _ _ 62 _ [.int (nI (1))] h17 _
              refine wn_st (pc' := 63) (q := 3) (kin := 0) (lv' := [(0, .ref (71)), (1, .int (nI (tkV t n p))), (2, .int (nI (tkV t n (tkA t n p)))), (3, .int (nI (1)))]) rfl (fun _ _ _ => rfl) rfl (Nat.le_of_ble_eq_true rfl) rfl ?_
              refine wn_ld (pc' := 64) (q := 0) (kin := 2) (v := .ref (71)) rfl (fun _ _ _ => rfl) rfl rfl ?_
              refine wn_virI (pc' := 67) rfl rfl (by decide) rfl rfl o_h17 (Nat.le_of_ble_eq_true rfl) (m_good0 _ _ _ _ _ _ _ _ _ _ _ _ _ o_h17) ?_
              refine wn_ifN (t := 71) (f := 70) rfl rfl rfl (by omega) (fun c19 => ?_) (fun c19 => ?_)
              · have c19 : ¬ 1 = 0 := c19
                refine wn_bp (pc' := 73) (w := nI 56) rfl rfl (by decide) ?_
                refine wn_ic (pc' := 74) (w := nI 3) rfl rfl (by decide) ?_
                refine wn_ld (pc' := 75) (q := 0) (kin := 2) (v := .ref (71)) rfl (fun _ _ _ => rfl) rfl rfl ?_
                refine wn_get (pc' := 78) (v := .ref (77)) rfl rfl o_h17 rfl ?_
                refine wn_ic (pc' := 79) (w := nI 2) rfl rfl (by decide) ?_
                refine wn_ialdv (pc' := 80) (j := 2) (v := (nI (nrW w))) rfl rfl ((fr_h17.2 77 (by decide)).trans q6) rfl (by omega) (by decide) (e3) ?_
                refine wn_mulN (pc' := 81) rfl rfl ?_
                refine wn_addN (pc' := 82) rfl rfl ?_
                refine wn_st (pc' := 84) (q := 4) (kin := 0) (lv' := [(0, .ref (71)), (1, .int (nI (tkV t n p))), (2, .int (nI (tkV t n (tkA t n p)))), (3, .int (nI (1))), (4, .int (nI (56 + (3 * (nrW w)))))]) rfl (fun _ _ _ => rfl) rfl (Nat.le_of_ble_eq_true rfl) rfl ?_
                refine wn_ld (pc' := 85) (q := 0) (kin := 2) (v := .ref (71)) rfl (fun _ _ _ => rfl) rfl rfl ?_
                refine wn_get (pc' := 88) (v := .ref (77)) rfl rfl o_h17 rfl ?_
                refine wn_ld (pc' := 90) (q := 4) (kin := 0) (v := .int (nI (56 + (3 * (nrW w))))) rfl (fun _ _ _ => rfl) rfl rfl ?_
                refine wn_ld (pc' := 91) (q := 1) (kin := 0) (v := .int (nI (tkV t n p))) rfl (fun _ _ _ => rfl) rfl rfl ?_
                refine wn_iast (pc' := 92) (j := 56 + (3 * (nrW w))) rfl rfl ((fr_h17.2 77 (by decide)).trans q6) rfl (by omega) (by decide) ?_
                refine wn_ld (pc' := 93) (q := 0) (kin := 2) (v := .ref (71)) rfl (fun _ _ _ => rfl) rfl rfl ?_
                refine wn_get (pc' := 96) (v := .ref (77)) rfl rfl (gs_ne (by decide) o_h17) rfl ?_
                refine wn_ld (pc' := 98) (q := 4) (kin := 0) (v := .int (nI (56 + (3 * (nrW w))))) rfl (fun _ _ _ => rfl) rfl rfl ?_
                refine wn_ic (pc' := 99) (w := nI 1) rfl rfl (by decide) ?_
                refine wn_addN (pc' := 100) rfl rfl ?_
                refine wn_ld (pc' := 101) (q := 2) (kin := 0) (v := .int (nI (tkV t n (tkA t n p)))) rfl (fun _ _ _ => rfl) rfl rfl ?_
                refine wn_iast (pc' := 102) (j := (56 + (3 * (nrW w))) + 1) rfl rfl (gs_self ((fr_h17.2 77 (by decide)).trans q6)) rfl (by omega) (by decide) ?_
                refine wn_ld (pc' := 103) (q := 0) (kin := 2) (v := .ref (71)) rfl (fun _ _ _ => rfl) rfl rfl ?_
                refine wn_get (pc' := 106) (v := .ref (77)) rfl rfl (gs_ne (by decide) (gs_ne (by decide) o_h17)) rfl ?_
                refine wn_ld (pc' := 108) (q := 4) (kin := 0) (v := .int (nI (56 + (3 * (nrW w))))) rfl (fun _ _ _ => rfl) rfl rfl ?_
                refine wn_ic (pc' := 109) (w := nI 2) rfl rfl (by decide) ?_
                refine wn_addN (pc' := 110) rfl rfl ?_
                refine wn_ld (pc' := 111) (q := 3) (kin := 0) (v := .int (nI (1))) rfl (fun _ _ _ => rfl) rfl rfl ?_
                refine wn_ifN (t := 118) (f := 114) rfl rfl rfl (by omega) (fun c20 => ?_) (fun c20 => ?_)
                · have c20 : 1 = 0 := c20
                  exact absurd c20 (by decide)
                · have c20 : ¬ 1 = 0 := c20
                  refine wn_ic (pc' := 115) (w := nI 1) rfl rfl (by decide) ?_
                  refine wn_jp (pc' := 119) rfl rfl ?_
                  refine wn_iast (pc' := 120) (j := (56 + (3 * (nrW w))) + 2) rfl rfl (gs_self (gs_self ((fr_h17.2 77 (by decide)).trans q6))) rfl (by omega) (by decide) ?_
                  refine wn_ld (pc' := 121) (q := 0) (kin := 2) (v := .ref (71)) rfl (fun _ _ _ => rfl) rfl rfl ?_
                  refine wn_get (pc' := 124) (v := .ref (77)) rfl rfl (gs_ne (by decide) (gs_ne (by decide) (gs_ne (by decide) o_h17))) rfl ?_
                  refine wn_ic (pc' := 125) (w := nI 2) rfl rfl (by decide) ?_
                  refine wn_pu (pc' := 126) (st' := [.int (nI (2)), .ref (77), .int (nI (2)), .ref (77)]) rfl (fun _ _ _ => rfl) rfl rfl ?_
                  refine wn_ialdv (pc' := 127) (j := 2) (v := (nI (nrW w))) rfl rfl (gs_self (gs_self (gs_self ((fr_h17.2 77 (by decide)).trans q6)))) rfl (by omega) (by decide) ((pk_un (by omega)).trans ((pk_un (by omega)).trans ((pk_un (by omega)).trans (e3)))) ?_
                  refine wn_ic (pc' := 128) (w := nI 1) rfl rfl (by decide) ?_
                  refine wn_addN (pc' := 129) rfl rfl ?_
                  refine wn_iast (pc' := 130) (j := 2) rfl rfl (gs_self (gs_self (gs_self ((fr_h17.2 77 (by decide)).trans q6)))) rfl (by omega) (by decide) ?_
                  have eR : rodR t n f0 p w = stp t n (.inr (tkA t n (tkA t n (tkA t n p)), rodW w (tkV t n p) (tkV t n (tkA t n p)) 1)) := (pI_t hr40).trans ((pI_t w_h1).trans ((pI_f (fun q => by have q2 := q.2; omega)).trans ((pI_t w_h15).trans (pI_t w_h17))))
                  exact wn_vret rfl rfl ⟨rfl, (Fr.st (Fr.st (Fr.st (Fr.st (Fr.tr (Fr.rfl' [71, 77] h) (fw fr_h17) (fun _ q => q)) (by decide)) (by decide)) (by decide)) (by decide)), .inr (tkA t n (tkA t n (tkA t n p)), rodW w (tkV t n p) (tkV t n (tkA t n p)) 1), MT_r hv_h17 (gs_ne (by decide) (gs_ne (by decide) (gs_ne (by decide) (gs_ne (by decide) o_h17)))) (gs_self (gs_self (gs_self (gs_self ((fr_h17.2 77 (by decide)).trans q6))))), ⟨(tkA_le (tkA_le (tkA_le hp))), (rod_o (by omega) (by omega)).trans (e0.trans (congrArg nI (lc_e (rod_o (by omega) (by omega))).symm))⟩, eR⟩
              · have c19 : 1 = 0 := c19
                exact absurd c19 (by decide)
            · rw [e_h17]
              show Wn _ _ 62 _ [.int (nI (0))] h15 _
              refine wn_st (pc' := 63) (q := 3) (kin := 0) (lv' := [(0, .ref (71)), (1, .int (nI (tkV t n p))), (2, .int (nI (tkV t n (tkA t n p)))), (3, .int (nI (0)))]) rfl (fun _ _ _ => rfl) rfl (Nat.le_of_ble_eq_true rfl) rfl ?_
              refine wn_ld (pc' := 64) (q := 0) (kin := 2) (v := .ref (71)) rfl (fun _ _ _ => rfl) rfl rfl ?_
              refine wn_virI (pc' := 67) rfl rfl (by decide) rfl rfl o_h15 (Nat.le_of_ble_eq_true rfl) (m_good0 _ _ _ _ _ _ _ _ _ _ _ _ _ o_h15) ?_
              refine wn_ifN (t := 71) (f := 70) rfl rfl rfl (by omega) (fun c21 => ?_) (fun c21 => ?_)
              · have c21 : ¬ 1 = 0 := c21
                refine wn_bp (pc' := 73) (w := nI 56) rfl rfl (by decide) ?_
                refine wn_ic (pc' := 74) (w := nI 3) rfl rfl (by decide) ?_
                refine wn_ld (pc' := 75) (q := 0) (kin := 2) (v := .ref (71)) rfl (fun _ _ _ => rfl) rfl rfl ?_
                refine wn_get (pc' := 78) (v := .ref (77)) rfl rfl o_h15 rfl ?_
                refine wn_ic (pc' := 79) (w := nI 2) rfl rfl (by decide) ?_
                refine wn_ialdv (pc' := 80) (j := 2) (v := (nI (nrW w))) rfl rfl ((fr_h15.2 77 (by decide)).trans q6) rfl (by omega) (by decide) (e3) ?_
                refine wn_mulN (pc' := 81) rfl rfl ?_
                refine wn_addN (pc' := 82) rfl rfl ?_
                refine wn_st (pc' := 84) (q := 4) (kin := 0) (lv' := [(0, .ref (71)), (1, .int (nI (tkV t n p))), (2, .int (nI (tkV t n (tkA t n p)))), (3, .int (nI (0))), (4, .int (nI (56 + (3 * (nrW w)))))]) rfl (fun _ _ _ => rfl) rfl (Nat.le_of_ble_eq_true rfl) rfl ?_
                refine wn_ld (pc' := 85) (q := 0) (kin := 2) (v := .ref (71)) rfl (fun _ _ _ => rfl) rfl rfl ?_
                refine wn_get (pc' := 88) (v := .ref (77)) rfl rfl o_h15 rfl ?_
                refine wn_ld (pc' := 90) (q := 4) (kin := 0) (v := .int (nI (56 + (3 * (nrW w))))) rfl (fun _ _ _ => rfl) rfl rfl ?_
                refine wn_ld (pc' := 91) (q := 1) (kin := 0) (v := .int (nI (tkV t n p))) rfl (fun _ _ _ => rfl) rfl rfl ?_
                refine wn_iast (pc' := 92) (j := 56 + (3 * (nrW w))) rfl rfl ((fr_h15.2 77 (by decide)).trans q6) rfl (by omega) (by decide) ?_
                refine wn_ld (pc' := 93) (q := 0) (kin := 2) (v := .ref (71)) rfl (fun _ _ _ => rfl) rfl rfl ?_
                refine wn_get (pc' := 96) (v := .ref (77)) rfl rfl (gs_ne (by decide) o_h15) rfl ?_
                refine wn_ld (pc' := 98) (q := 4) (kin := 0) (v := .int (nI (56 + (3 * (nrW w))))) rfl (fun _ _ _ => rfl) rfl rfl ?_
                refine wn_ic (pc' := 99) (w := nI 1) rfl rfl (by decide) ?_
                refine wn_addN (pc' := 100) rfl rfl ?_
                refine wn_ld (pc' := 101) (q := 2) (kin := 0) (v := .int (nI (tkV t n (tkA t n p)))) rfl (fun _ _ _ => rfl) rfl rfl ?_
                refine wn_iast (pc' := 102) (j := (56 + (3 * (nrW w))) + 1) rfl rfl (gs_self ((fr_h15.2 77 (by decide)).trans q6)) rfl (by omega) (by decide) ?_
                refine wn_ld (pc' := 103) (q := 0) (kin := 2) (v := .ref (71)) rfl (fun _ _ _ => rfl) rfl rfl ?_
                refine wn_get (pc' := 106) (v := .ref (77)) rfl rfl (gs_ne (by decide) (gs_ne (by decide) o_h15)) rfl ?_
                refine wn_ld (pc' := 108) (q := 4) (kin := 0) (v := .int (nI (56 + (3 * (nrW w))))) rfl (fun _ _ _ => rfl) rfl rfl ?_
                refine wn_ic (pc' := 109) (w := nI 2) rfl rfl (by decide) ?_
                refine wn_addN (pc' := 110) rfl rfl ?_
                refine wn_ld (pc' := 111) (q := 3) (kin := 0) (v := .int (nI (0))) rfl (fun _ _ _ => rfl) rfl rfl ?_
                refine wn_ifN (t := 118) (f := 114) rfl rfl rfl (by omega) (fun c22 => ?_) (fun c22 => ?_)
                · have c22 : 0 = 0 := c22
                  refine wn_ic (pc' := 119) (w := nI 0) rfl rfl (by decide) ?_
                  refine wn_iast (pc' := 120) (j := (56 + (3 * (nrW w))) + 2) rfl rfl (gs_self (gs_self ((fr_h15.2 77 (by decide)).trans q6))) rfl (by omega) (by decide) ?_
                  refine wn_ld (pc' := 121) (q := 0) (kin := 2) (v := .ref (71)) rfl (fun _ _ _ => rfl) rfl rfl ?_
                  refine wn_get (pc' := 124) (v := .ref (77)) rfl rfl (gs_ne (by decide) (gs_ne (by decide) (gs_ne (by decide) o_h15))) rfl ?_
                  refine wn_ic (pc' := 125) (w := nI 2) rfl rfl (by decide) ?_
                  refine wn_pu (pc' := 126) (st' := [.int (nI (2)), .ref (77), .int (nI (2)), .ref (77)]) rfl (fun _ _ _ => rfl) rfl rfl ?_
                  refine wn_ialdv (pc' := 127) (j := 2) (v := (nI (nrW w))) rfl rfl (gs_self (gs_self (gs_self ((fr_h15.2 77 (by decide)).trans q6)))) rfl (by omega) (by decide) ((pk_un (by omega)).trans ((pk_un (by omega)).trans ((pk_un (by omega)).trans (e3)))) ?_
                  refine wn_ic (pc' := 128) (w := nI 1) rfl rfl (by decide) ?_
                  refine wn_addN (pc' := 129) rfl rfl ?_
                  refine wn_iast (pc' := 130) (j := 2) rfl rfl (gs_self (gs_self (gs_self ((fr_h15.2 77 (by decide)).trans q6)))) rfl (by omega) (by decide) ?_
                  have eR : rodR t n f0 p w = stp t n (.inr (tkA t n (tkA t n p), rodW w (tkV t n p) (tkV t n (tkA t n p)) 0)) := (pI_t hr40).trans ((pI_t w_h1).trans ((pI_f (fun q => by have q2 := q.2; omega)).trans ((pI_t w_h15).trans (pI_f w_h17))))
                  exact wn_vret rfl rfl ⟨rfl, (Fr.st (Fr.st (Fr.st (Fr.st (Fr.tr (Fr.rfl' [71, 77] h) (fw fr_h15) (fun _ q => q)) (by decide)) (by decide)) (by decide)) (by decide)), .inr (tkA t n (tkA t n p), rodW w (tkV t n p) (tkV t n (tkA t n p)) 0), MT_r hv_h15 (gs_ne (by decide) (gs_ne (by decide) (gs_ne (by decide) (gs_ne (by decide) o_h15)))) (gs_self (gs_self (gs_self (gs_self ((fr_h15.2 77 (by decide)).trans q6))))), ⟨(tkA_le (tkA_le hp)), (rod_o (by omega) (by omega)).trans (e0.trans (congrArg nI (lc_e (rod_o (by omega) (by omega))).symm))⟩, eR⟩
                · have c22 : ¬ 0 = 0 := c22
                  exact absurd c22 (by decide)
              · have c21 : 1 = 0 := c21
                exact absurd c21 (by decide)
          · have fr_h15 := Fr.tr fr_h1 f_h15 (fun _ q => q)
            show Wn _ _ 55 _ [.int (nI (0))] h15 _
            refine wn_st (pc' := 56) (q := 2) (kin := 0) (lv' := [(0, .ref (71)), (1, .int (nI (tkV t n p))), (2, .int (nI (0)))]) rfl (fun _ _ _ => rfl) rfl (Nat.le_of_ble_eq_true rfl) rfl ?_
            refine wn_ld (pc' := 57) (q := 0) (kin := 2) (v := .ref (71)) rfl (fun _ _ _ => rfl) rfl rfl ?_
            refine wn_go (pc' := 59) (lv' := [(0, .ref (71)), (1, .int (nI (tkV t n p))), (2, .int (nI (0)))]) (st' := [.retAddr 3, .ref (71)]) rfl (fun _ _ _ k9 => ⟨by decide, k9⟩) ?_
            refine wn_virI (pc' := 62) rfl rfl (by decide) rfl rfl o_h15 (Nat.le_of_ble_eq_true rfl) (m_takesB _ _ _ _ _ _ _ _ _ _ _ _ _ _ nmF_nz o_h15 3 (by omega)) ?_
            refine wn_st (pc' := 63) (q := 3) (kin := 0) (lv' := [(0, .ref (71)), (1, .int (nI (tkV t n p))), (2, .int (nI (0))), (3, .int (nI (0)))]) rfl (fun _ _ _ => rfl) rfl (Nat.le_of_ble_eq_true rfl) rfl ?_
            refine wn_ld (pc' := 64) (q := 0) (kin := 2) (v := .ref (71)) rfl (fun _ _ _ => rfl) rfl rfl ?_
            refine wn_virI (pc' := 67) rfl rfl (by decide) rfl rfl o_h15 (Nat.le_of_ble_eq_true rfl) (m_goodB _ _ _ _ _ _ _ _ _ _ _ _ _ _ nmF_nz o_h15) ?_
            refine wn_ifN (t := 71) (f := 70) rfl rfl rfl (by omega) (fun c23 => ?_) (fun c23 => ?_)
            · have c23 : ¬ 0 = 0 := c23
              exact absurd c23 (by decide)
            · have c23 : 0 = 0 := c23
              have eR : rodR t n f0 p w = stp t n (.inl (nmF t n (tkA t n p), tkF t n (tkA t n p))) := (pI_t hr40).trans ((pI_t w_h1).trans ((pI_f (fun q => by have q2 := q.2; omega)).trans (pI_f w_h15)))
              exact wn_vret rfl rfl ⟨rfl, (Fr.tr (Fr.rfl' [71, 77] h) (fw fr_h15) (fun _ q => q)), _, MT_l nmF_nz o_h15 ((fr_h15.2 77 (by decide)).trans q6), trivial, eR⟩
        · have c14 : (min 9999 (tkV t n (tkA t n p))) = (tkV t n p) := c14
          refine wn_ld (pc' := 38) (q := 0) (kin := 2) (v := .ref (71)) rfl (fun _ _ _ => rfl) rfl rfl ?_
          refine wn_ic (pc' := 39) (w := nI 2) rfl rfl (by decide) ?_
          refine wn_virS (pc' := 42) rfl rfl (by decide) rfl rfl o_h1 (Nat.le_of_ble_eq_true rfl) (m_errs0 _ _ _ _ _ _ _ _ _ _ _ _ _ o_h1 (nI (2))) (fun r9 h24 e25 => ?_)
          obtain ⟨rfl, f_h24, o_h24⟩ := e25
          have fr_h24 := Fr.tr fr_h1 f_h24 (fun _ q => q)
          show Wn _ _ 42 _ [] h24 _
          refine wn_ld (pc' := 43) (q := 0) (kin := 2) (v := .ref (71)) rfl (fun _ _ _ => rfl) rfl rfl ?_
          refine wn_ic (pc' := 44) (w := nI 0) rfl rfl (by decide) ?_
          refine wn_ld (pc' := 45) (q := 0) (kin := 2) (v := .ref (71)) rfl (fun _ _ _ => rfl) rfl rfl ?_
          refine wn_get (pc' := 48) (v := .ref (77)) rfl rfl o_h24 rfl ?_
          refine wn_ic (pc' := 49) (w := nI 1) rfl rfl (by decide) ?_
          refine wn_ialdv (pc' := 50) (j := 1) (v := (w (1))) rfl rfl ((fr_h24.2 77 (by decide)).trans q6) rfl (by omega) (by decide) (rfl) ?_
          refine wn_ic (pc' := 51) (w := nI 1) rfl rfl (by decide) ?_
          refine wn_pu (pc' := 52) (st' := [.int ((w (1)) - (nI (1))), .int (nI (0)), .ref (71)]) rfl (fun _ _ _ => rfl) rfl rfl ?_
          refine wn_virI (pc' := 55) rfl rfl (by decide) rfl rfl o_h24 (Nat.le_of_ble_eq_true rfl) (m_numberB _ _ _ _ _ _ _ _ _ _ _ _ _ _ (show ¬ nI 2 = 0 by decide) o_h24 (nI (0)) ((w (1)) - (nI (1)))) ?_
          refine wn_st (pc' := 56) (q := 2) (kin := 0) (lv' := [(0, .ref (71)), (1, .int (nI (tkV t n p))), (2, .int (nI (0)))]) rfl (fun _ _ _ => rfl) rfl (Nat.le_of_ble_eq_true rfl) rfl ?_
          refine wn_ld (pc' := 57) (q := 0) (kin := 2) (v := .ref (71)) rfl (fun _ _ _ => rfl) rfl rfl ?_
          refine wn_go (pc' := 59) (lv' := [(0, .ref (71)), (1, .int (nI (tkV t n p))), (2, .int (nI (0)))]) (st' := [.retAddr 3, .ref (71)]) rfl (fun _ _ _ k9 => ⟨by decide, k9⟩) ?_
          refine wn_virI (pc' := 62) rfl rfl (by decide) rfl rfl o_h24 (Nat.le_of_ble_eq_true rfl) (m_takesB _ _ _ _ _ _ _ _ _ _ _ _ _ _ (show ¬ nI 2 = 0 by decide) o_h24 3 (by omega)) ?_
          refine wn_st (pc' := 63) (q := 3) (kin := 0) (lv' := [(0, .ref (71)), (1, .int (nI (tkV t n p))), (2, .int (nI (0))), (3, .int (nI (0)))]) rfl (fun _ _ _ => rfl) rfl (Nat.le_of_ble_eq_true rfl) rfl ?_
          refine wn_ld (pc' := 64) (q := 0) (kin := 2) (v := .ref (71)) rfl (fun _ _ _ => rfl) rfl rfl ?_
          refine wn_virI (pc' := 67) rfl rfl (by decide) rfl rfl o_h24 (Nat.le_of_ble_eq_true rfl) (m_goodB _ _ _ _ _ _ _ _ _ _ _ _ _ _ (show ¬ nI 2 = 0 by decide) o_h24) ?_
          refine wn_ifN (t := 71) (f := 70) rfl rfl rfl (by omega) (fun c26 => ?_) (fun c26 => ?_)
          · have c26 : ¬ 0 = 0 := c26
            exact absurd c26 (by decide)
          · have c26 : 0 = 0 := c26
            have eR : rodR t n f0 p w = stp t n (.inl (2, tkF t n (tkA t n p))) := (pI_t hr40).trans ((pI_t w_h1).trans (pI_t ⟨c4, by omega⟩))
            exact wn_vret rfl rfl ⟨rfl, (Fr.tr (Fr.rfl' [71, 77] h) (fw fr_h24) (fun _ q => q)), _, MT_l (show ¬ nI 2 = 0 by decide) o_h24 ((fr_h24.2 77 (by decide)).trans q6), trivial, eR⟩
  · have fr_h1 := Fr.tr (Fr.rfl' [71] h) f_h1 (fun _ q => q)
    show Wn _ _ 13 _ [.int (nI (0))] h1 _
    refine wn_st (pc' := 14) (q := 1) (kin := 0) (lv' := [(0, .ref (71)), (1, .int (nI (0)))]) rfl (fun _ _ _ => rfl) rfl (Nat.le_of_ble_eq_true rfl) rfl ?_
    refine wn_ld (pc' := 15) (q := 0) (kin := 2) (v := .ref (71)) rfl (fun _ _ _ => rfl) rfl rfl ?_
    refine wn_virI (pc' := 18) rfl rfl (by decide) rfl rfl o_h1 (Nat.le_of_ble_eq_true rfl) (m_goodB _ _ _ _ _ _ _ _ _ _ _ _ _ _ nmF_nz o_h1) ?_
    refine wn_ifN (t := 42) (f := 21) rfl rfl rfl (by omega) (fun c27 => ?_) (fun c27 => ?_)
    · have c27 : 0 = 0 := c27
      refine wn_ld (pc' := 43) (q := 0) (kin := 2) (v := .ref (71)) rfl (fun _ _ _ => rfl) rfl rfl ?_
      refine wn_ic (pc' := 44) (w := nI 0) rfl rfl (by decide) ?_
      refine wn_ld (pc' := 45) (q := 0) (kin := 2) (v := .ref (71)) rfl (fun _ _ _ => rfl) rfl rfl ?_
      refine wn_get (pc' := 48) (v := .ref (77)) rfl rfl o_h1 rfl ?_
      refine wn_ic (pc' := 49) (w := nI 1) rfl rfl (by decide) ?_
      refine wn_ialdv (pc' := 50) (j := 1) (v := (w (1))) rfl rfl ((fr_h1.2 77 (by decide)).trans q6) rfl (by omega) (by decide) (rfl) ?_
      refine wn_ic (pc' := 51) (w := nI 1) rfl rfl (by decide) ?_
      refine wn_pu (pc' := 52) (st' := [.int ((w (1)) - (nI (1))), .int (nI (0)), .ref (71)]) rfl (fun _ _ _ => rfl) rfl rfl ?_
      refine wn_virI (pc' := 55) rfl rfl (by decide) rfl rfl o_h1 (Nat.le_of_ble_eq_true rfl) (m_numberB _ _ _ _ _ _ _ _ _ _ _ _ _ _ nmF_nz o_h1 (nI (0)) ((w (1)) - (nI (1)))) ?_
      refine wn_st (pc' := 56) (q := 2) (kin := 0) (lv' := [(0, .ref (71)), (1, .int (nI (0))), (2, .int (nI (0)))]) rfl (fun _ _ _ => rfl) rfl (Nat.le_of_ble_eq_true rfl) rfl ?_
      refine wn_ld (pc' := 57) (q := 0) (kin := 2) (v := .ref (71)) rfl (fun _ _ _ => rfl) rfl rfl ?_
      refine wn_go (pc' := 59) (lv' := [(0, .ref (71)), (1, .int (nI (0))), (2, .int (nI (0)))]) (st' := [.retAddr 3, .ref (71)]) rfl (fun _ _ _ k9 => ⟨by decide, k9⟩) ?_
      refine wn_virI (pc' := 62) rfl rfl (by decide) rfl rfl o_h1 (Nat.le_of_ble_eq_true rfl) (m_takesB _ _ _ _ _ _ _ _ _ _ _ _ _ _ nmF_nz o_h1 3 (by omega)) ?_
      refine wn_st (pc' := 63) (q := 3) (kin := 0) (lv' := [(0, .ref (71)), (1, .int (nI (0))), (2, .int (nI (0))), (3, .int (nI (0)))]) rfl (fun _ _ _ => rfl) rfl (Nat.le_of_ble_eq_true rfl) rfl ?_
      refine wn_ld (pc' := 64) (q := 0) (kin := 2) (v := .ref (71)) rfl (fun _ _ _ => rfl) rfl rfl ?_
      refine wn_virI (pc' := 67) rfl rfl (by decide) rfl rfl o_h1 (Nat.le_of_ble_eq_true rfl) (m_goodB _ _ _ _ _ _ _ _ _ _ _ _ _ _ nmF_nz o_h1) ?_
      refine wn_ifN (t := 71) (f := 70) rfl rfl rfl (by omega) (fun c28 => ?_) (fun c28 => ?_)
      · have c28 : ¬ 0 = 0 := c28
        exact absurd c28 (by decide)
      · have c28 : 0 = 0 := c28
        have eR : rodR t n f0 p w = stp t n (.inl (nmF t n p, tkF t n p)) := (pI_t hr40).trans (pI_f w_h1)
        exact wn_vret rfl rfl ⟨rfl, (Fr.tr (Fr.rfl' [71, 77] h) (fw fr_h1) (fun _ q => q)), _, MT_l nmF_nz o_h1 ((fr_h1.2 77 (by decide)).trans q6), trivial, eR⟩
    · have c27 : ¬ 0 = 0 := c27
      exact absurd c27 (by decide)

theorem m_readItem (d : Nat) (h : aH) (t : Nat → Int32) (n p : Nat) (w : Nat → Int32) (hn : n ≤ 1200) (hp : p ≤ n) (hb : byT t) (hJ : WJ w) (th tl vl il : Int32) (up lo : Int64) (hv : vlP t n p vl) (q0 : isO h 71 9 (moS t n p th tl vl (nI 0) (-1) il up lo)) (q4 : isB h 75 1200 t) (q6 : isI h 77 2676 w) (f0 : Nat) (ht10 : ntW w < 10) : Sp (Rn (d + 5)) 167 [.ref (71)] h (fun r9 h9 => r9 = none ∧ Fr [71, 77] h h9 ∧ ∃ r0, MTs t n th tl il up lo h9 r0 ∧ okW n r0 ∧ itmR t n f0 p w = stp t n r0) := by
  obtain ⟨e0, e0b⟩ := wj_0 hJ
  obtain ⟨⟨e1, e2⟩, ⟨e3, e4⟩, ⟨e5, e6⟩⟩ := Wf_n hJ.wf
  obtain ⟨⟨e7, e8⟩, ⟨e9, e10⟩⟩ := Wf_m hJ.wf
  have hF := tkF_le (t := t) hp
  have hA := tkA_ge (t := t) (n := n) (p := p)
  have hA2 := tkA_le (t := t) hp
  have hK := tkK_le (t := t) (n := n) (p := p)
  refine Sp_of (by decide) (Nat.le_of_ble_eq_true rfl) ?_
  show Wn _ _ 0 [(0, .ref (71))] [] _ _
  refine wn_ld (pc' := 1) (q := 0) (kin := 2) (v := .ref (71)) rfl (fun _ _ _ => rfl) rfl rfl ?_
  refine wn_go (pc' := 3) (lv' := [(0, .ref (71))]) (st' := [.retAddr 5, .ref (71)]) rfl (fun _ _ _ k9 => ⟨by decide, k9⟩) ?_
  refine wn_virS (pc' := 6) rfl rfl (by decide) rfl rfl q0 (Nat.le_of_ble_eq_true rfl) (m_needs0 _ _ t n p hn hp hb th tl _ il up lo hv q0 q4 5 (by omega)) (fun r9 h1 e2 => ?_)
  obtain ⟨rfl, f_h1, ⟨w_h1, vl_h1, hv_h1, o_h1⟩ | ⟨w_h1, o_h1⟩⟩ := e2
  · have fr_h1 := Fr.tr (Fr.rfl' [71] h) f_h1 (fun _ q => q)
    have := tkF_le (t := t) (p := (tkA t n p)) (tkA_le hp)
    have := tkA_ge (t := t) (n := n) (p := (tkA t n p))
    have := tkA_le (t := t) (p := (tkA t n p)) (tkA_le hp)
    have := tkK_le (t := t) (n := n) (p := (tkA t n p))
    have g_h1 := wd_gt w_h1
    show Wn _ _ 6 _ [] h1 _
    refine wn_ld (pc' := 7) (q := 0) (kin := 2) (v := .ref (71)) rfl (fun _ _ _ => rfl) rfl rfl ?_
    refine wn_ic (pc' := 8) (w := nI 2) rfl rfl (by decide) ?_
    refine wn_ic (pc' := 9) (w := nI 5) rfl rfl (by decide) ?_
    refine wn_virS (pc' := 12) rfl rfl (by decide) rfl rfl o_h1 (Nat.le_of_ble_eq_true rfl) (m_num0 _ _ t n (tkA t n p) hn (tkA_le hp) hb th tl _ il up lo hv_h1 o_h1 ((fr_h1.2 75 (by decide)).trans q4) 2 (by omega) (nI (5)) (5) (show (nI 5).toInt = 5 by decide) (by decide)) (fun r9 h3 e4 => ?_)
    obtain ⟨f_h3, ⟨w_h3, rfl, vl_h3, hv_h3, o_h3⟩ | ⟨w_h3, rfl, o_h3⟩⟩ := e4
    · have fr_h3 := Fr.tr fr_h1 f_h3 (fun _ q => q)
      have := tkF_le (t := t) (p := (tkA t n (tkA t n p))) (tkA_le (tkA_le hp))
      have := tkA_ge (t := t) (n := n) (p := (tkA t n (tkA t n p)))
      have := tkA_le (t := t) (p := (tkA t n (tkA t n p))) (tkA_le (tkA_le hp))
      have := tkK_le (t := t) (n := n) (p := (tkA t n (tkA t n p)))
      have b1_h3 := w_h3.2.1
      have b2_h3 := w_h3.2.2
      have g_h3 := nm_gt w_h3
      show Wn _ _ 12 _ [.int (nI (tkV t n (tkA t n p)))] h3 _
      refine wn_st (pc' := 13) (q := 1) (kin := 0) (lv' := [(0, .ref (71)), (1, .int (nI (tkV t n (tkA t n p))))]) rfl (fun _ _ _ => rfl) rfl (Nat.le_of_ble_eq_true rfl) rfl ?_
      refine wn_ld (pc' := 14) (q := 0) (kin := 2) (v := .ref (71)) rfl (fun _ _ _ => rfl) rfl rfl ?_
      refine wn_go (pc' := 16) (lv' := [(0, .ref (71)), (1, .int (nI (tkV t n (tkA t n p))))]) (st' := [.retAddr 6, .ref (71)]) rfl (fun _ _ _ k9 => ⟨by decide, k9⟩) ?_
      refine wn_virS (pc' := 19) rfl rfl (by decide) rfl rfl o_h3 (Nat.le_of_ble_eq_true rfl) (m_needs0 _ _ t n (tkA t n (tkA t n p)) hn (tkA_le (tkA_le hp)) hb th tl _ il up lo hv_h3 o_h3 ((fr_h3.2 75 (by decide)).trans q4) 6 (by omega)) (fun r9 h5 e6 => ?_)
      obtain ⟨rfl, f_h5, ⟨w_h5, vl_h5, hv_h5, o_h5⟩ | ⟨w_h5, o_h5⟩⟩ := e6
      · have fr_h5 := Fr.tr fr_h3 f_h5 (fun _ q => q)
        have := tkF_le (t := t) (p := (tkA t n (tkA t n (tkA t n p)))) (tkA_le (tkA_le (tkA_le hp)))
        have := tkA_ge (t := t) (n := n) (p := (tkA t n (tkA t n (tkA t n p))))
        have := tkA_le (t := t) (p := (tkA t n (tkA t n (tkA t n p)))) (tkA_le (tkA_le (tkA_le hp)))
        have := tkK_le (t := t) (n := n) (p := (tkA t n (tkA t n (tkA t n p))))
        have g_h5 := wd_gt w_h5
        show Wn _ _ 19 _ [] h5 _
        refine wn_ld (pc' := 20) (q := 0) (kin := 2) (v := .ref (71)) rfl (fun _ _ _ => rfl) rfl rfl ?_
        refine wn_ic (pc' := 21) (w := nI 0) rfl rfl (by decide) ?_
        refine wn_ld (pc' := 22) (q := 1) (kin := 0) (v := .int (nI (tkV t n (tkA t n p)))) rfl (fun _ _ _ => rfl) rfl rfl ?_
        refine wn_ic (pc' := 23) (w := nI 1) rfl rfl (by decide) ?_
        refine wn_pu (pc' := 24) (st' := [.int ((nI (tkV t n (tkA t n p))) - (nI (1))), .int (nI (0)), .ref (71)]) rfl (fun _ _ _ => rfl) rfl rfl ?_
        refine wn_virS (pc' := 27) rfl rfl (by decide) rfl rfl o_h5 (Nat.le_of_ble_eq_true rfl) (m_num0 _ _ t n (tkA t n (tkA t n (tkA t n p))) hn (tkA_le (tkA_le (tkA_le hp))) hb th tl _ il up lo hv_h5 o_h5 ((fr_h5.2 75 (by decide)).trans q4) 0 (by omega) ((nI (tkV t n (tkA t n p))) - (nI (1))) (((tkV t n (tkA t n p) : Nat) : Int) - 1) (sub1 (by omega)) (by omega)) (fun r9 h7 e8 => ?_)
        obtain ⟨f_h7, ⟨w_h7, rfl, vl_h7, hv_h7, o_h7⟩ | ⟨w_h7, rfl, o_h7⟩⟩ := e8
        · have fr_h7 := Fr.tr fr_h5 f_h7 (fun _ q => q)
          have := tkF_le (t := t) (p := (tkA t n (tkA t n (tkA t n (tkA t n p))))) (tkA_le (tkA_le (tkA_le (tkA_le hp))))
          have := tkA_ge (t := t) (n := n) (p := (tkA t n (tkA t n (tkA t n (tkA t n p)))))
          have := tkA_le (t := t) (p := (tkA t n (tkA t n (tkA t n (tkA t n p))))) (tkA_le (tkA_le (tkA_le (tkA_le hp))))
          have := tkK_le (t := t) (n := n) (p := (tkA t n (tkA t n (tkA t n (tkA t n p)))))
          have b1_h7 := w_h7.2.1
          have b2_h7 := w_h7.2.2
          have g_h7 := nm_gt w_h7
          show Wn _ _ 27 _ [.int (nI (tkV t n (tkA t n (tkA t n (tkA t n p)))))] h7 _
          refine wn_st (pc' := 28) (q := 2) (kin := 0) (lv' := [(0, .ref (71)), (1, .int (nI (tkV t n (tkA t n p)))), (2, .int (nI (tkV t n (tkA t n (tkA t n (tkA t n p))))))]) rfl (fun _ _ _ => rfl) rfl (Nat.le_of_ble_eq_true rfl) rfl ?_
          refine wn_ld (pc' := 29) (q := 0) (kin := 2) (v := .ref (71)) rfl (fun _ _ _ => rfl) rfl rfl ?_
          refine wn_virI (pc' := 32) rfl rfl (by decide) rfl rfl o_h7 (Nat.le_of_ble_eq_true rfl) (m_good0 _ _ _ _ _ _ _ _ _ _ _ _ _ o_h7) ?_
          refine wn_ifN (t := 36) (f := 35) rfl rfl rfl (by omega) (fun c9 => ?_) (fun c9 => ?_)
          · have c9 : ¬ 1 = 0 := c9
            refine wn_sp (pc' := 39) (w := nI 176) rfl rfl (by decide) ?_
            refine wn_ic (pc' := 40) (w := nI 4) rfl rfl (by decide) ?_
            refine wn_ld (pc' := 41) (q := 0) (kin := 2) (v := .ref (71)) rfl (fun _ _ _ => rfl) rfl rfl ?_
            refine wn_get (pc' := 44) (v := .ref (77)) rfl rfl o_h7 rfl ?_
            refine wn_ic (pc' := 45) (w := nI 3) rfl rfl (by decide) ?_
            refine wn_ialdv (pc' := 46) (j := 3) (v := (nI (ntW w))) rfl rfl ((fr_h7.2 77 (by decide)).trans q6) rfl (by omega) (by decide) (e5) ?_
            refine wn_mulN (pc' := 47) rfl rfl ?_
            refine wn_addN (pc' := 48) rfl rfl ?_
            refine wn_st (pc' := 49) (q := 3) (kin := 0) (lv' := [(0, .ref (71)), (1, .int (nI (tkV t n (tkA t n p)))), (2, .int (nI (tkV t n (tkA t n (tkA t n (tkA t n p)))))), (3, .int (nI (176 + (4 * (ntW w)))))]) rfl (fun _ _ _ => rfl) rfl (Nat.le_of_ble_eq_true rfl) rfl ?_
            refine wn_ld (pc' := 50) (q := 0) (kin := 2) (v := .ref (71)) rfl (fun _ _ _ => rfl) rfl rfl ?_
            refine wn_get (pc' := 53) (v := .ref (77)) rfl rfl o_h7 rfl ?_
            refine wn_ld (pc' := 54) (q := 3) (kin := 0) (v := .int (nI (176 + (4 * (ntW w))))) rfl (fun _ _ _ => rfl) rfl rfl ?_
            refine wn_ld (pc' := 55) (q := 1) (kin := 0) (v := .int (nI (tkV t n (tkA t n p)))) rfl (fun _ _ _ => rfl) rfl rfl ?_
            refine wn_iast (pc' := 56) (j := 176 + (4 * (ntW w))) rfl rfl ((fr_h7.2 77 (by decide)).trans q6) rfl (by omega) (by decide) ?_
            refine wn_ld (pc' := 57) (q := 0) (kin := 2) (v := .ref (71)) rfl (fun _ _ _ => rfl) rfl rfl ?_
            refine wn_get (pc' := 60) (v := .ref (77)) rfl rfl (gs_ne (by decide) o_h7) rfl ?_
            refine wn_ld (pc' := 61) (q := 3) (kin := 0) (v := .int (nI (176 + (4 * (ntW w))))) rfl (fun _ _ _ => rfl) rfl rfl ?_
            refine wn_ic (pc' := 62) (w := nI 1) rfl rfl (by decide) ?_
            refine wn_addN (pc' := 63) rfl rfl ?_
            refine wn_ld (pc' := 64) (q := 2) (kin := 0) (v := .int (nI (tkV t n (tkA t n (tkA t n (tkA t n p)))))) rfl (fun _ _ _ => rfl) rfl rfl ?_
            refine wn_iast (pc' := 65) (j := (176 + (4 * (ntW w))) + 1) rfl rfl (gs_self ((fr_h7.2 77 (by decide)).trans q6)) rfl (by omega) (by decide) ?_
            refine wn_ld (pc' := 66) (q := 0) (kin := 2) (v := .ref (71)) rfl (fun _ _ _ => rfl) rfl rfl ?_
            refine wn_get (pc' := 69) (v := .ref (77)) rfl rfl (gs_ne (by decide) (gs_ne (by decide) o_h7)) rfl ?_
            refine wn_ld (pc' := 70) (q := 3) (kin := 0) (v := .int (nI (176 + (4 * (ntW w))))) rfl (fun _ _ _ => rfl) rfl rfl ?_
            refine wn_ic (pc' := 71) (w := nI 2) rfl rfl (by decide) ?_
            refine wn_addN (pc' := 72) rfl rfl ?_
            refine wn_ic (pc' := 73) (w := -1) rfl rfl (by decide) ?_
            refine wn_iast (pc' := 74) (j := (176 + (4 * (ntW w))) + 2) rfl rfl (gs_self (gs_self ((fr_h7.2 77 (by decide)).trans q6))) rfl (by omega) (by decide) ?_
            refine wn_ld (pc' := 75) (q := 0) (kin := 2) (v := .ref (71)) rfl (fun _ _ _ => rfl) rfl rfl ?_
            refine wn_get (pc' := 78) (v := .ref (77)) rfl rfl (gs_ne (by decide) (gs_ne (by decide) (gs_ne (by decide) o_h7))) rfl ?_
            refine wn_ic (pc' := 79) (w := nI 3) rfl rfl (by decide) ?_
            refine wn_pu (pc' := 80) (st' := [.int (nI (3)), .ref (77), .int (nI (3)), .ref (77)]) rfl (fun _ _ _ => rfl) rfl rfl ?_
            refine wn_ialdv (pc' := 81) (j := 3) (v := (nI (ntW w))) rfl rfl (gs_self (gs_self (gs_self ((fr_h7.2 77 (by decide)).trans q6)))) rfl (by omega) (by decide) ((pk_un (by omega)).trans ((pk_un (by omega)).trans ((pk_un (by omega)).trans (e5)))) ?_
            refine wn_ic (pc' := 82) (w := nI 1) rfl rfl (by decide) ?_
            refine wn_addN (pc' := 83) rfl rfl ?_
            refine wn_iast (pc' := 84) (j := 3) rfl rfl (gs_self (gs_self (gs_self ((fr_h7.2 77 (by decide)).trans q6)))) rfl (by omega) (by decide) ?_
            have eR : itmR t n f0 p w = stp t n (.inr (tkA t n (tkA t n (tkA t n (tkA t n p))), itmW w (tkV t n (tkA t n p)) (tkV t n (tkA t n (tkA t n (tkA t n p)))))) := (pI_t ht10).trans ((pI_t w_h1).trans ((pI_t w_h3).trans ((pI_t w_h5).trans (pI_t w_h7))))
            exact wn_vret rfl rfl ⟨rfl, (Fr.st (Fr.st (Fr.st (Fr.st (Fr.tr (Fr.rfl' [71, 77] h) (fw fr_h7) (fun _ q => q)) (by decide)) (by decide)) (by decide)) (by decide)), .inr (tkA t n (tkA t n (tkA t n (tkA t n p))), itmW w (tkV t n (tkA t n p)) (tkV t n (tkA t n (tkA t n (tkA t n p))))), MT_r hv_h7 (gs_ne (by decide) (gs_ne (by decide) (gs_ne (by decide) (gs_ne (by decide) o_h7)))) (gs_self (gs_self (gs_self (gs_self ((fr_h7.2 77 (by decide)).trans q6))))), ⟨(tkA_le (tkA_le (tkA_le (tkA_le hp)))), (itm_o (by omega) (by omega)).trans (e0.trans (congrArg nI (lc_e (itm_o (by omega) (by omega))).symm))⟩, eR⟩
          · have c9 : 1 = 0 := c9
            exact absurd c9 (by decide)
        · have fr_h7 := Fr.tr fr_h5 f_h7 (fun _ q => q)
          show Wn _ _ 27 _ [.int (nI (0))] h7 _
          refine wn_st (pc' := 28) (q := 2) (kin := 0) (lv' := [(0, .ref (71)), (1, .int (nI (tkV t n (tkA t n p)))), (2, .int (nI (0)))]) rfl (fun _ _ _ => rfl) rfl (Nat.le_of_ble_eq_true rfl) rfl ?_
          refine wn_ld (pc' := 29) (q := 0) (kin := 2) (v := .ref (71)) rfl (fun _ _ _ => rfl) rfl rfl ?_
          refine wn_virI (pc' := 32) rfl rfl (by decide) rfl rfl o_h7 (Nat.le_of_ble_eq_true rfl) (m_goodB _ _ _ _ _ _ _ _ _ _ _ _ _ _ nmF_nz o_h7) ?_
          refine wn_ifN (t := 36) (f := 35) rfl rfl rfl (by omega) (fun c10 => ?_) (fun c10 => ?_)
          · have c10 : ¬ 0 = 0 := c10
            exact absurd c10 (by decide)
          · have c10 : 0 = 0 := c10
            have eR : itmR t n f0 p w = stp t n (.inl (nmF t n (tkA t n (tkA t n (tkA t n p))), tkF t n (tkA t n (tkA t n (tkA t n p))))) := (pI_t ht10).trans ((pI_t w_h1).trans ((pI_t w_h3).trans ((pI_t w_h5).trans (pI_f w_h7))))
            exact wn_vret rfl rfl ⟨rfl, (Fr.tr (Fr.rfl' [71, 77] h) (fw fr_h7) (fun _ q => q)), _, MT_l nmF_nz o_h7 ((fr_h7.2 77 (by decide)).trans q6), trivial, eR⟩
      · have fr_h5 := Fr.tr fr_h3 f_h5 (fun _ q => q)
        show Wn _ _ 19 _ [] h5 _
        refine wn_ld (pc' := 20) (q := 0) (kin := 2) (v := .ref (71)) rfl (fun _ _ _ => rfl) rfl rfl ?_
        refine wn_ic (pc' := 21) (w := nI 0) rfl rfl (by decide) ?_
        refine wn_ld (pc' := 22) (q := 1) (kin := 0) (v := .int (nI (tkV t n (tkA t n p)))) rfl (fun _ _ _ => rfl) rfl rfl ?_
        refine wn_ic (pc' := 23) (w := nI 1) rfl rfl (by decide) ?_
        refine wn_pu (pc' := 24) (st' := [.int ((nI (tkV t n (tkA t n p))) - (nI (1))), .int (nI (0)), .ref (71)]) rfl (fun _ _ _ => rfl) rfl rfl ?_
        refine wn_virI (pc' := 27) rfl rfl (by decide) rfl rfl o_h5 (Nat.le_of_ble_eq_true rfl) (m_numberB _ _ _ _ _ _ _ _ _ _ _ _ _ _ (show ¬ nI 1 = 0 by decide) o_h5 (nI (0)) ((nI (tkV t n (tkA t n p))) - (nI (1)))) ?_
        refine wn_st (pc' := 28) (q := 2) (kin := 0) (lv' := [(0, .ref (71)), (1, .int (nI (tkV t n (tkA t n p)))), (2, .int (nI (0)))]) rfl (fun _ _ _ => rfl) rfl (Nat.le_of_ble_eq_true rfl) rfl ?_
        refine wn_ld (pc' := 29) (q := 0) (kin := 2) (v := .ref (71)) rfl (fun _ _ _ => rfl) rfl rfl ?_
        refine wn_virI (pc' := 32) rfl rfl (by decide) rfl rfl o_h5 (Nat.le_of_ble_eq_true rfl) (m_goodB _ _ _ _ _ _ _ _ _ _ _ _ _ _ (show ¬ nI 1 = 0 by decide) o_h5) ?_
        refine wn_ifN (t := 36) (f := 35) rfl rfl rfl (by omega) (fun c11 => ?_) (fun c11 => ?_)
        · have c11 : ¬ 0 = 0 := c11
          exact absurd c11 (by decide)
        · have c11 : 0 = 0 := c11
          have eR : itmR t n f0 p w = stp t n (.inl (1, tkF t n (tkA t n (tkA t n p)))) := (pI_t ht10).trans ((pI_t w_h1).trans ((pI_t w_h3).trans (pI_f w_h5)))
          exact wn_vret rfl rfl ⟨rfl, (Fr.tr (Fr.rfl' [71, 77] h) (fw fr_h5) (fun _ q => q)), _, MT_l (show ¬ nI 1 = 0 by decide) o_h5 ((fr_h5.2 77 (by decide)).trans q6), trivial, eR⟩
    · have fr_h3 := Fr.tr fr_h1 f_h3 (fun _ q => q)
      show Wn _ _ 12 _ [.int (nI (0))] h3 _
      refine wn_st (pc' := 13) (q := 1) (kin := 0) (lv' := [(0, .ref (71)), (1, .int (nI (0)))]) rfl (fun _ _ _ => rfl) rfl (Nat.le_of_ble_eq_true rfl) rfl ?_
      refine wn_ld (pc' := 14) (q := 0) (kin := 2) (v := .ref (71)) rfl (fun _ _ _ => rfl) rfl rfl ?_
      refine wn_go (pc' := 16) (lv' := [(0, .ref (71)), (1, .int (nI (0)))]) (st' := [.retAddr 6, .ref (71)]) rfl (fun _ _ _ k9 => ⟨by decide, k9⟩) ?_
      refine wn_virV (pc' := 19) rfl rfl (by decide) rfl rfl o_h3 (Nat.le_of_ble_eq_true rfl) (m_needsB _ _ _ _ _ _ _ _ _ _ _ _ _ _ nmF_nz o_h3 6 (by omega)) ?_
      refine wn_ld (pc' := 20) (q := 0) (kin := 2) (v := .ref (71)) rfl (fun _ _ _ => rfl) rfl rfl ?_
      refine wn_ic (pc' := 21) (w := nI 0) rfl rfl (by decide) ?_
      refine wn_ld (pc' := 22) (q := 1) (kin := 0) (v := .int (nI (0))) rfl (fun _ _ _ => rfl) rfl rfl ?_
      refine wn_ic (pc' := 23) (w := nI 1) rfl rfl (by decide) ?_
      refine wn_pu (pc' := 24) (st' := [.int ((nI (0)) - (nI (1))), .int (nI (0)), .ref (71)]) rfl (fun _ _ _ => rfl) rfl rfl ?_
      refine wn_virI (pc' := 27) rfl rfl (by decide) rfl rfl o_h3 (Nat.le_of_ble_eq_true rfl) (m_numberB _ _ _ _ _ _ _ _ _ _ _ _ _ _ nmF_nz o_h3 (nI (0)) ((nI (0)) - (nI (1)))) ?_
      refine wn_st (pc' := 28) (q := 2) (kin := 0) (lv' := [(0, .ref (71)), (1, .int (nI (0))), (2, .int (nI (0)))]) rfl (fun _ _ _ => rfl) rfl (Nat.le_of_ble_eq_true rfl) rfl ?_
      refine wn_ld (pc' := 29) (q := 0) (kin := 2) (v := .ref (71)) rfl (fun _ _ _ => rfl) rfl rfl ?_
      refine wn_virI (pc' := 32) rfl rfl (by decide) rfl rfl o_h3 (Nat.le_of_ble_eq_true rfl) (m_goodB _ _ _ _ _ _ _ _ _ _ _ _ _ _ nmF_nz o_h3) ?_
      refine wn_ifN (t := 36) (f := 35) rfl rfl rfl (by omega) (fun c12 => ?_) (fun c12 => ?_)
      · have c12 : ¬ 0 = 0 := c12
        exact absurd c12 (by decide)
      · have c12 : 0 = 0 := c12
        have eR : itmR t n f0 p w = stp t n (.inl (nmF t n (tkA t n p), tkF t n (tkA t n p))) := (pI_t ht10).trans ((pI_t w_h1).trans (pI_f w_h3))
        exact wn_vret rfl rfl ⟨rfl, (Fr.tr (Fr.rfl' [71, 77] h) (fw fr_h3) (fun _ q => q)), _, MT_l nmF_nz o_h3 ((fr_h3.2 77 (by decide)).trans q6), trivial, eR⟩
  · have fr_h1 := Fr.tr (Fr.rfl' [71] h) f_h1 (fun _ q => q)
    show Wn _ _ 6 _ [] h1 _
    refine wn_ld (pc' := 7) (q := 0) (kin := 2) (v := .ref (71)) rfl (fun _ _ _ => rfl) rfl rfl ?_
    refine wn_ic (pc' := 8) (w := nI 2) rfl rfl (by decide) ?_
    refine wn_ic (pc' := 9) (w := nI 5) rfl rfl (by decide) ?_
    refine wn_virI (pc' := 12) rfl rfl (by decide) rfl rfl o_h1 (Nat.le_of_ble_eq_true rfl) (m_numberB _ _ _ _ _ _ _ _ _ _ _ _ _ _ (show ¬ nI 1 = 0 by decide) o_h1 (nI (2)) (nI (5))) ?_
    refine wn_st (pc' := 13) (q := 1) (kin := 0) (lv' := [(0, .ref (71)), (1, .int (nI (0)))]) rfl (fun _ _ _ => rfl) rfl (Nat.le_of_ble_eq_true rfl) rfl ?_
    refine wn_ld (pc' := 14) (q := 0) (kin := 2) (v := .ref (71)) rfl (fun _ _ _ => rfl) rfl rfl ?_
    refine wn_go (pc' := 16) (lv' := [(0, .ref (71)), (1, .int (nI (0)))]) (st' := [.retAddr 6, .ref (71)]) rfl (fun _ _ _ k9 => ⟨by decide, k9⟩) ?_
    refine wn_virV (pc' := 19) rfl rfl (by decide) rfl rfl o_h1 (Nat.le_of_ble_eq_true rfl) (m_needsB _ _ _ _ _ _ _ _ _ _ _ _ _ _ (show ¬ nI 1 = 0 by decide) o_h1 6 (by omega)) ?_
    refine wn_ld (pc' := 20) (q := 0) (kin := 2) (v := .ref (71)) rfl (fun _ _ _ => rfl) rfl rfl ?_
    refine wn_ic (pc' := 21) (w := nI 0) rfl rfl (by decide) ?_
    refine wn_ld (pc' := 22) (q := 1) (kin := 0) (v := .int (nI (0))) rfl (fun _ _ _ => rfl) rfl rfl ?_
    refine wn_ic (pc' := 23) (w := nI 1) rfl rfl (by decide) ?_
    refine wn_pu (pc' := 24) (st' := [.int ((nI (0)) - (nI (1))), .int (nI (0)), .ref (71)]) rfl (fun _ _ _ => rfl) rfl rfl ?_
    refine wn_virI (pc' := 27) rfl rfl (by decide) rfl rfl o_h1 (Nat.le_of_ble_eq_true rfl) (m_numberB _ _ _ _ _ _ _ _ _ _ _ _ _ _ (show ¬ nI 1 = 0 by decide) o_h1 (nI (0)) ((nI (0)) - (nI (1)))) ?_
    refine wn_st (pc' := 28) (q := 2) (kin := 0) (lv' := [(0, .ref (71)), (1, .int (nI (0))), (2, .int (nI (0)))]) rfl (fun _ _ _ => rfl) rfl (Nat.le_of_ble_eq_true rfl) rfl ?_
    refine wn_ld (pc' := 29) (q := 0) (kin := 2) (v := .ref (71)) rfl (fun _ _ _ => rfl) rfl rfl ?_
    refine wn_virI (pc' := 32) rfl rfl (by decide) rfl rfl o_h1 (Nat.le_of_ble_eq_true rfl) (m_goodB _ _ _ _ _ _ _ _ _ _ _ _ _ _ (show ¬ nI 1 = 0 by decide) o_h1) ?_
    refine wn_ifN (t := 36) (f := 35) rfl rfl rfl (by omega) (fun c13 => ?_) (fun c13 => ?_)
    · have c13 : ¬ 0 = 0 := c13
      exact absurd c13 (by decide)
    · have c13 : 0 = 0 := c13
      have eR : itmR t n f0 p w = stp t n (.inl (1, tkF t n p)) := (pI_t ht10).trans (pI_f w_h1)
      exact wn_vret rfl rfl ⟨rfl, (Fr.tr (Fr.rfl' [71, 77] h) (fw fr_h1) (fun _ q => q)), _, MT_l (show ¬ nI 1 = 0 by decide) o_h1 ((fr_h1.2 77 (by decide)).trans q6), trivial, eR⟩

theorem m_readSays (d : Nat) (h : aH) (t : Nat → Int32) (n p : Nat) (w : Nat → Int32) (hn : n ≤ 1200) (hp : p ≤ n) (hb : byT t) (hJ : WJ w) (th tl vl il : Int32) (up lo : Int64) (hv : vlP t n p vl) (q0 : isO h 71 9 (moS t n p th tl vl (nI 0) (-1) il up lo)) (q4 : isB h 75 1200 t) (q6 : isI h 77 2676 w) : Sp (Rn (d + 4)) 168 [.ref (71)] h (fun r9 h9 => r9 = none ∧ Fr [71, 77] h h9 ∧ ∃ r0, MTs t n th tl il up lo h9 r0 ∧ okW n r0 ∧ sayR t n p w = stp t n r0) := by
  obtain ⟨e0, e0b⟩ := wj_0 hJ
  obtain ⟨⟨e1, e2⟩, ⟨e3, e4⟩, ⟨e5, e6⟩⟩ := Wf_n hJ.wf
  obtain ⟨⟨e7, e8⟩, ⟨e9, e10⟩⟩ := Wf_m hJ.wf
  have hF := tkF_le (t := t) hp
  have hA := tkA_ge (t := t) (n := n) (p := p)
  have hA2 := tkA_le (t := t) hp
  have hK := tkK_le (t := t) (n := n) (p := p)
  refine Sp_of (by decide) (Nat.le_of_ble_eq_true rfl) ?_
  show Wn _ _ 0 [(0, .ref (71))] [] _ _
  refine wn_ld (pc' := 1) (q := 0) (kin := 2) (v := .ref (71)) rfl (fun _ _ _ => rfl) rfl rfl ?_
  refine wn_ic (pc' := 2) (w := nI 0) rfl rfl (by decide) ?_
  refine wn_ld (pc' := 3) (q := 0) (kin := 2) (v := .ref (71)) rfl (fun _ _ _ => rfl) rfl rfl ?_
  refine wn_get (pc' := 6) (v := .ref (77)) rfl rfl q0 rfl ?_
  refine wn_ic (pc' := 7) (w := nI 1) rfl rfl (by decide) ?_
  refine wn_ialdv (pc' := 8) (j := 1) (v := (nI (nvW w))) rfl rfl q6 rfl (by omega) (by decide) (e1) ?_
  refine wn_ic (pc' := 9) (w := nI 1) rfl rfl (by decide) ?_
  refine wn_pu (pc' := 10) (st' := [.int ((nI (nvW w)) - (nI (1))), .int (nI (0)), .ref (71)]) rfl (fun _ _ _ => rfl) rfl rfl ?_
  refine wn_virS (pc' := 13) rfl rfl (by decide) rfl rfl q0 (Nat.le_of_ble_eq_true rfl) (m_num0 _ _ t n p hn hp hb th tl _ il up lo hv q0 q4 0 (by omega) ((nI (nvW w)) - (nI (1))) (((nvW w : Nat) : Int) - 1) (sub1 (by omega)) (by omega)) (fun r9 h1 e2 => ?_)
  obtain ⟨f_h1, ⟨w_h1, rfl, vl_h1, hv_h1, o_h1⟩ | ⟨w_h1, rfl, o_h1⟩⟩ := e2
  · have fr_h1 := Fr.tr (Fr.rfl' [71] h) f_h1 (fun _ q => q)
    have := tkF_le (t := t) (p := (tkA t n p)) (tkA_le hp)
    have := tkA_ge (t := t) (n := n) (p := (tkA t n p))
    have := tkA_le (t := t) (p := (tkA t n p)) (tkA_le hp)
    have := tkK_le (t := t) (n := n) (p := (tkA t n p))
    have b1_h1 := w_h1.2.1
    have b2_h1 := w_h1.2.2
    have g_h1 := nm_gt w_h1
    show Wn _ _ 13 _ [.int (nI (tkV t n p))] h1 _
    refine wn_st (pc' := 14) (q := 1) (kin := 0) (lv' := [(0, .ref (71)), (1, .int (nI (tkV t n p)))]) rfl (fun _ _ _ => rfl) rfl (Nat.le_of_ble_eq_true rfl) rfl ?_
    refine wn_ld (pc' := 15) (q := 0) (kin := 2) (v := .ref (71)) rfl (fun _ _ _ => rfl) rfl rfl ?_
    refine wn_virI (pc' := 18) rfl rfl (by decide) rfl rfl o_h1 (Nat.le_of_ble_eq_true rfl) (m_good0 _ _ _ _ _ _ _ _ _ _ _ _ _ o_h1) ?_
    refine wn_ifN (t := 69) (f := 21) rfl rfl rfl (by omega) (fun c3 => ?_) (fun c3 => ?_)
    · have c3 : 1 = 0 := c3
      exact absurd c3 (by decide)
    · have c3 : ¬ 1 = 0 := c3
      refine wn_ld (pc' := 22) (q := 0) (kin := 2) (v := .ref (71)) rfl (fun _ _ _ => rfl) rfl rfl ?_
      refine wn_get (pc' := 25) (v := .int (nI (tkK t n (tkA t n p)))) rfl rfl o_h1 rfl ?_
      refine wn_ic (pc' := 26) (w := nI 2) rfl rfl (by decide) ?_
      refine wn_icmpN (t := 69) (f := 29) rfl rfl rfl (by omega) (by omega) (fun c4 => ?_) (fun c4 => ?_)
      · have c4 : ¬ (tkK t n (tkA t n p)) = 2 := c4
        refine wn_ld (pc' := 70) (q := 0) (kin := 2) (v := .ref (71)) rfl (fun _ _ _ => rfl) rfl rfl ?_
        refine wn_ic (pc' := 71) (w := nI 0) rfl rfl (by decide) ?_
        refine wn_ld (pc' := 72) (q := 0) (kin := 2) (v := .ref (71)) rfl (fun _ _ _ => rfl) rfl rfl ?_
        refine wn_get (pc' := 75) (v := .ref (77)) rfl rfl o_h1 rfl ?_
        refine wn_ic (pc' := 76) (w := nI 3) rfl rfl (by decide) ?_
        refine wn_ialdv (pc' := 77) (j := 3) (v := (nI (ntW w))) rfl rfl ((fr_h1.2 77 (by decide)).trans q6) rfl (by omega) (by decide) (e5) ?_
        refine wn_ic (pc' := 78) (w := nI 1) rfl rfl (by decide) ?_
        refine wn_pu (pc' := 79) (st' := [.int ((nI (ntW w)) - (nI (1))), .int (nI (0)), .ref (71)]) rfl (fun _ _ _ => rfl) rfl rfl ?_
        refine wn_virS (pc' := 82) rfl rfl (by decide) rfl rfl o_h1 (Nat.le_of_ble_eq_true rfl) (m_num0 _ _ t n (tkA t n p) hn (tkA_le hp) hb th tl _ il up lo hv_h1 o_h1 ((fr_h1.2 75 (by decide)).trans q4) 0 (by omega) ((nI (ntW w)) - (nI (1))) (((ntW w : Nat) : Int) - 1) (sub1 (by omega)) (by omega)) (fun r9 h5 e6 => ?_)
        obtain ⟨f_h5, ⟨w_h5, rfl, vl_h5, hv_h5, o_h5⟩ | ⟨w_h5, rfl, o_h5⟩⟩ := e6
        · have fr_h5 := Fr.tr fr_h1 f_h5 (fun _ q => q)
          have := tkF_le (t := t) (p := (tkA t n (tkA t n p))) (tkA_le (tkA_le hp))
          have := tkA_ge (t := t) (n := n) (p := (tkA t n (tkA t n p)))
          have := tkA_le (t := t) (p := (tkA t n (tkA t n p))) (tkA_le (tkA_le hp))
          have := tkK_le (t := t) (n := n) (p := (tkA t n (tkA t n p)))
          have b1_h5 := w_h5.2.1
          have b2_h5 := w_h5.2.2
          have g_h5 := nm_gt w_h5
          show Wn _ _ 82 _ [.int (nI (tkV t n (tkA t n p)))] h5 _
          refine wn_st (pc' := 83) (q := 2) (kin := 0) (lv' := [(0, .ref (71)), (1, .int (nI (tkV t n p))), (2, .int (nI (tkV t n (tkA t n p))))]) rfl (fun _ _ _ => rfl) rfl (Nat.le_of_ble_eq_true rfl) rfl ?_
          refine wn_ld (pc' := 84) (q := 0) (kin := 2) (v := .ref (71)) rfl (fun _ _ _ => rfl) rfl rfl ?_
          refine wn_ic (pc' := 85) (w := nI 0) rfl rfl (by decide) ?_
          refine wn_ld (pc' := 86) (q := 0) (kin := 2) (v := .ref (71)) rfl (fun _ _ _ => rfl) rfl rfl ?_
          refine wn_get (pc' := 89) (v := .ref (77)) rfl rfl o_h5 rfl ?_
          refine wn_sp (pc' := 92) (w := nI 176) rfl rfl (by decide) ?_
          refine wn_ic (pc' := 93) (w := nI 4) rfl rfl (by decide) ?_
          refine wn_ld (pc' := 94) (q := 2) (kin := 0) (v := .int (nI (tkV t n (tkA t n p)))) rfl (fun _ _ _ => rfl) rfl rfl ?_
          refine wn_mulN (pc' := 95) rfl rfl ?_
          refine wn_addN (pc' := 96) rfl rfl ?_
          have := wf_vab hJ.wf (show (tkV t n (tkA t n p)) < ntW w by omega)
          refine wn_ialdv (pc' := 97) (j := 176 + (4 * (tkV t n (tkA t n p)))) (v := (nI (vaW w (tkV t n (tkA t n p))))) rfl rfl ((fr_h5.2 77 (by decide)).trans q6) rfl (by omega) (by decide) (wf_va hJ.wf (by omega)) ?_
          refine wn_ic (pc' := 98) (w := nI 1) rfl rfl (by decide) ?_
          refine wn_pu (pc' := 99) (st' := [.int ((nI (vaW w (tkV t n (tkA t n p)))) - (nI (1))), .int (nI (0)), .ref (71)]) rfl (fun _ _ _ => rfl) rfl rfl ?_
          refine wn_virS (pc' := 102) rfl rfl (by decide) rfl rfl o_h5 (Nat.le_of_ble_eq_true rfl) (m_num0 _ _ t n (tkA t n (tkA t n p)) hn (tkA_le (tkA_le hp)) hb th tl _ il up lo hv_h5 o_h5 ((fr_h5.2 75 (by decide)).trans q4) 0 (by omega) ((nI (vaW w (tkV t n (tkA t n p)))) - (nI (1))) (((vaW w (tkV t n (tkA t n p)) : Nat) : Int) - 1) (sub1 (by omega)) (by omega)) (fun r9 h7 e8 => ?_)
          obtain ⟨f_h7, ⟨w_h7, rfl, vl_h7, hv_h7, o_h7⟩ | ⟨w_h7, rfl, o_h7⟩⟩ := e8
          · have fr_h7 := Fr.tr fr_h5 f_h7 (fun _ q => q)
            have := tkF_le (t := t) (p := (tkA t n (tkA t n (tkA t n p)))) (tkA_le (tkA_le (tkA_le hp)))
            have := tkA_ge (t := t) (n := n) (p := (tkA t n (tkA t n (tkA t n p))))
            have := tkA_le (t := t) (p := (tkA t n (tkA t n (tkA t n p)))) (tkA_le (tkA_le (tkA_le hp)))
            have := tkK_le (t := t) (n := n) (p := (tkA t n (tkA t n (tkA t n p))))
            have b1_h7 := w_h7.2.1
            have b2_h7 := w_h7.2.2
            have g_h7 := nm_gt w_h7
            show Wn _ _ 102 _ [.int (nI (tkV t n (tkA t n (tkA t n p))))] h7 _
            refine wn_st (pc' := 103) (q := 3) (kin := 0) (lv' := [(0, .ref (71)), (1, .int (nI (tkV t n p))), (2, .int (nI (tkV t n (tkA t n p)))), (3, .int (nI (tkV t n (tkA t n (tkA t n p)))))]) rfl (fun _ _ _ => rfl) rfl (Nat.le_of_ble_eq_true rfl) rfl ?_
            refine wn_ld (pc' := 104) (q := 0) (kin := 2) (v := .ref (71)) rfl (fun _ _ _ => rfl) rfl rfl ?_
            refine wn_virI (pc' := 107) rfl rfl (by decide) rfl rfl o_h7 (Nat.le_of_ble_eq_true rfl) (m_good0 _ _ _ _ _ _ _ _ _ _ _ _ _ o_h7) ?_
            refine wn_ifN (t := 126) (f := 110) rfl rfl rfl (by omega) (fun c9 => ?_) (fun c9 => ?_)
            · have c9 : 1 = 0 := c9
              exact absurd c9 (by decide)
            · have c9 : ¬ 1 = 0 := c9
              refine wn_ld (pc' := 111) (q := 0) (kin := 2) (v := .ref (71)) rfl (fun _ _ _ => rfl) rfl rfl ?_
              refine wn_get (pc' := 114) (v := .ref (77)) rfl rfl o_h7 rfl ?_
              refine wn_sp (pc' := 117) (w := nI 216) rfl rfl (by decide) ?_
              refine wn_bp (pc' := 119) (w := nI 10) rfl rfl (by decide) ?_
              refine wn_ld (pc' := 120) (q := 1) (kin := 0) (v := .int (nI (tkV t n p))) rfl (fun _ _ _ => rfl) rfl rfl ?_
              refine wn_mulN (pc' := 121) rfl rfl ?_
              refine wn_addN (pc' := 122) rfl rfl ?_
              refine wn_ld (pc' := 123) (q := 2) (kin := 0) (v := .int (nI (tkV t n (tkA t n p)))) rfl (fun _ _ _ => rfl) rfl rfl ?_
              refine wn_addN (pc' := 124) rfl rfl ?_
              refine wn_ld (pc' := 125) (q := 3) (kin := 0) (v := .int (nI (tkV t n (tkA t n (tkA t n p))))) rfl (fun _ _ _ => rfl) rfl rfl ?_
              refine wn_iast (pc' := 126) (j := (216 + (10 * (tkV t n p))) + (tkV t n (tkA t n p))) rfl rfl ((fr_h7.2 77 (by decide)).trans q6) rfl (by omega) (by decide) ?_
              have eR : sayR t n p w = stp t n (.inr (tkA t n (tkA t n (tkA t n p)), sayW w (tkV t n p) (tkV t n (tkA t n p)) (tkV t n (tkA t n (tkA t n p))))) := (pI_t w_h1).trans ((pI_f (fun q => c4 q.1)).trans ((pI_t w_h5).trans (pI_t w_h7)))
              exact wn_vret rfl rfl ⟨rfl, (Fr.st (Fr.tr (Fr.rfl' [71, 77] h) (fw fr_h7) (fun _ q => q)) (by decide)), .inr (tkA t n (tkA t n (tkA t n p)), sayW w (tkV t n p) (tkV t n (tkA t n p)) (tkV t n (tkA t n (tkA t n p)))), MT_r hv_h7 (gs_ne (by decide) o_h7) (gs_self ((fr_h7.2 77 (by decide)).trans q6)), ⟨(tkA_le (tkA_le (tkA_le hp))), (say_o (by omega)).trans (e0.trans (congrArg nI (lc_e (say_o (by omega))).symm))⟩, eR⟩
          · have fr_h7 := Fr.tr fr_h5 f_h7 (fun _ q => q)
            show Wn _ _ 102 _ [.int (nI (0))] h7 _
            refine wn_st (pc' := 103) (q := 3) (kin := 0) (lv' := [(0, .ref (71)), (1, .int (nI (tkV t n p))), (2, .int (nI (tkV t n (tkA t n p)))), (3, .int (nI (0)))]) rfl (fun _ _ _ => rfl) rfl (Nat.le_of_ble_eq_true rfl) rfl ?_
            refine wn_ld (pc' := 104) (q := 0) (kin := 2) (v := .ref (71)) rfl (fun _ _ _ => rfl) rfl rfl ?_
            refine wn_virI (pc' := 107) rfl rfl (by decide) rfl rfl o_h7 (Nat.le_of_ble_eq_true rfl) (m_goodB _ _ _ _ _ _ _ _ _ _ _ _ _ _ nmF_nz o_h7) ?_
            refine wn_ifN (t := 126) (f := 110) rfl rfl rfl (by omega) (fun c10 => ?_) (fun c10 => ?_)
            · have c10 : 0 = 0 := c10
              have eR : sayR t n p w = stp t n (.inl (nmF t n (tkA t n (tkA t n p)), tkF t n (tkA t n (tkA t n p)))) := (pI_t w_h1).trans ((pI_f (fun q => c4 q.1)).trans ((pI_t w_h5).trans (pI_f w_h7)))
              exact wn_vret rfl rfl ⟨rfl, (Fr.tr (Fr.rfl' [71, 77] h) (fw fr_h7) (fun _ q => q)), _, MT_l nmF_nz o_h7 ((fr_h7.2 77 (by decide)).trans q6), trivial, eR⟩
            · have c10 : ¬ 0 = 0 := c10
              exact absurd c10 (by decide)
        · have fr_h5 := Fr.tr fr_h1 f_h5 (fun _ q => q)
          show Wn _ _ 82 _ [.int (nI (0))] h5 _
          refine wn_st (pc' := 83) (q := 2) (kin := 0) (lv' := [(0, .ref (71)), (1, .int (nI (tkV t n p))), (2, .int (nI (0)))]) rfl (fun _ _ _ => rfl) rfl (Nat.le_of_ble_eq_true rfl) rfl ?_
          refine wn_ld (pc' := 84) (q := 0) (kin := 2) (v := .ref (71)) rfl (fun _ _ _ => rfl) rfl rfl ?_
          refine wn_ic (pc' := 85) (w := nI 0) rfl rfl (by decide) ?_
          refine wn_ld (pc' := 86) (q := 0) (kin := 2) (v := .ref (71)) rfl (fun _ _ _ => rfl) rfl rfl ?_
          refine wn_get (pc' := 89) (v := .ref (77)) rfl rfl o_h5 rfl ?_
          refine wn_sp (pc' := 92) (w := nI 176) rfl rfl (by decide) ?_
          refine wn_ic (pc' := 93) (w := nI 4) rfl rfl (by decide) ?_
          refine wn_ld (pc' := 94) (q := 2) (kin := 0) (v := .int (nI (0))) rfl (fun _ _ _ => rfl) rfl rfl ?_
          refine wn_mulN (pc' := 95) rfl rfl ?_
          refine wn_addN (pc' := 96) rfl rfl ?_
          refine wn_ialdv (pc' := 97) (j := 176 + (4 * 0)) (v := (w (176 + (4 * 0)))) rfl rfl ((fr_h5.2 77 (by decide)).trans q6) rfl (by omega) (by decide) (rfl) ?_
          refine wn_ic (pc' := 98) (w := nI 1) rfl rfl (by decide) ?_
          refine wn_pu (pc' := 99) (st' := [.int ((w (176 + (4 * 0))) - (nI (1))), .int (nI (0)), .ref (71)]) rfl (fun _ _ _ => rfl) rfl rfl ?_
          refine wn_virI (pc' := 102) rfl rfl (by decide) rfl rfl o_h5 (Nat.le_of_ble_eq_true rfl) (m_numberB _ _ _ _ _ _ _ _ _ _ _ _ _ _ nmF_nz o_h5 (nI (0)) ((w (176 + (4 * 0))) - (nI (1)))) ?_
          refine wn_st (pc' := 103) (q := 3) (kin := 0) (lv' := [(0, .ref (71)), (1, .int (nI (tkV t n p))), (2, .int (nI (0))), (3, .int (nI (0)))]) rfl (fun _ _ _ => rfl) rfl (Nat.le_of_ble_eq_true rfl) rfl ?_
          refine wn_ld (pc' := 104) (q := 0) (kin := 2) (v := .ref (71)) rfl (fun _ _ _ => rfl) rfl rfl ?_
          refine wn_virI (pc' := 107) rfl rfl (by decide) rfl rfl o_h5 (Nat.le_of_ble_eq_true rfl) (m_goodB _ _ _ _ _ _ _ _ _ _ _ _ _ _ nmF_nz o_h5) ?_
          refine wn_ifN (t := 126) (f := 110) rfl rfl rfl (by omega) (fun c11 => ?_) (fun c11 => ?_)
          · have c11 : 0 = 0 := c11
            have eR : sayR t n p w = stp t n (.inl (nmF t n (tkA t n p), tkF t n (tkA t n p))) := (pI_t w_h1).trans ((pI_f (fun q => c4 q.1)).trans (pI_f w_h5))
            exact wn_vret rfl rfl ⟨rfl, (Fr.tr (Fr.rfl' [71, 77] h) (fw fr_h5) (fun _ q => q)), _, MT_l nmF_nz o_h5 ((fr_h5.2 77 (by decide)).trans q6), trivial, eR⟩
          · have c11 : ¬ 0 = 0 := c11
            exact absurd c11 (by decide)
      · have c4 : (tkK t n (tkA t n p)) = 2 := c4
        refine wn_ld (pc' := 30) (q := 0) (kin := 2) (v := .ref (71)) rfl (fun _ _ _ => rfl) rfl rfl ?_
        refine wn_get (pc' := 33) (v := .int (vl_h1)) rfl rfl o_h1 rfl ?_
        refine wn_top (y := nI (min 9999 (tkV t n (tkA t n p)))) (hv_h1 c4) ?_
        refine wn_ld (pc' := 34) (q := 0) (kin := 2) (v := .ref (71)) rfl (fun _ _ _ => rfl) rfl rfl ?_
        refine wn_get (pc' := 37) (v := .ref (77)) rfl rfl o_h1 rfl ?_
        refine wn_ic (pc' := 38) (w := nI 3) rfl rfl (by decide) ?_
        refine wn_ialdv (pc' := 39) (j := 3) (v := (nI (ntW w))) rfl rfl ((fr_h1.2 77 (by decide)).trans q6) rfl (by omega) (by decide) (e5) ?_
        refine wn_icmpN (t := 69) (f := 42) rfl rfl rfl (by omega) (by omega) (fun c12 => ?_) (fun c12 => ?_)
        · have c12 : (ntW w) ≤ (min 9999 (tkV t n (tkA t n p))) := c12
          refine wn_ld (pc' := 70) (q := 0) (kin := 2) (v := .ref (71)) rfl (fun _ _ _ => rfl) rfl rfl ?_
          refine wn_ic (pc' := 71) (w := nI 0) rfl rfl (by decide) ?_
          refine wn_ld (pc' := 72) (q := 0) (kin := 2) (v := .ref (71)) rfl (fun _ _ _ => rfl) rfl rfl ?_
          refine wn_get (pc' := 75) (v := .ref (77)) rfl rfl o_h1 rfl ?_
          refine wn_ic (pc' := 76) (w := nI 3) rfl rfl (by decide) ?_
          refine wn_ialdv (pc' := 77) (j := 3) (v := (nI (ntW w))) rfl rfl ((fr_h1.2 77 (by decide)).trans q6) rfl (by omega) (by decide) (e5) ?_
          refine wn_ic (pc' := 78) (w := nI 1) rfl rfl (by decide) ?_
          refine wn_pu (pc' := 79) (st' := [.int ((nI (ntW w)) - (nI (1))), .int (nI (0)), .ref (71)]) rfl (fun _ _ _ => rfl) rfl rfl ?_
          refine wn_virS (pc' := 82) rfl rfl (by decide) rfl rfl o_h1 (Nat.le_of_ble_eq_true rfl) (m_num0 _ _ t n (tkA t n p) hn (tkA_le hp) hb th tl _ il up lo hv_h1 o_h1 ((fr_h1.2 75 (by decide)).trans q4) 0 (by omega) ((nI (ntW w)) - (nI (1))) (((ntW w : Nat) : Int) - 1) (sub1 (by omega)) (by omega)) (fun r9 h13 e14 => ?_)
          obtain ⟨f_h13, ⟨w_h13, rfl, vl_h13, hv_h13, o_h13⟩ | ⟨w_h13, rfl, o_h13⟩⟩ := e14
          · have fr_h13 := Fr.tr fr_h1 f_h13 (fun _ q => q)
            have := tkF_le (t := t) (p := (tkA t n (tkA t n p))) (tkA_le (tkA_le hp))
            have := tkA_ge (t := t) (n := n) (p := (tkA t n (tkA t n p)))
            have := tkA_le (t := t) (p := (tkA t n (tkA t n p))) (tkA_le (tkA_le hp))
            have := tkK_le (t := t) (n := n) (p := (tkA t n (tkA t n p)))
            have b1_h13 := w_h13.2.1
            have b2_h13 := w_h13.2.2
            have g_h13 := nm_gt w_h13
            show Wn _ _ 82 _ [.int (nI (tkV t n (tkA t n p)))] h13 _
            refine wn_st (pc' := 83) (q := 2) (kin := 0) (lv' := [(0, .ref (71)), (1, .int (nI (tkV t n p))), (2, .int (nI (tkV t n (tkA t n p))))]) rfl (fun _ _ _ => rfl) rfl (Nat.le_of_ble_eq_true rfl) rfl ?_
            refine wn_ld (pc' := 84) (q := 0) (kin := 2) (v := .ref (71)) rfl (fun _ _ _ => rfl) rfl rfl ?_
            refine wn_ic (pc' := 85) (w := nI 0) rfl rfl (by decide) ?_
            refine wn_ld (pc' := 86) (q := 0) (kin := 2) (v := .ref (71)) rfl (fun _ _ _ => rfl) rfl rfl ?_
            refine wn_get (pc' := 89) (v := .ref (77)) rfl rfl o_h13 rfl ?_
            refine wn_sp (pc' := 92) (w := nI 176) rfl rfl (by decide) ?_
            refine wn_ic (pc' := 93) (w := nI 4) rfl rfl (by decide) ?_
            refine wn_ld (pc' := 94) (q := 2) (kin := 0) (v := .int (nI (tkV t n (tkA t n p)))) rfl (fun _ _ _ => rfl) rfl rfl ?_
            refine wn_mulN (pc' := 95) rfl rfl ?_
            refine wn_addN (pc' := 96) rfl rfl ?_
            have := wf_vab hJ.wf (show (tkV t n (tkA t n p)) < ntW w by omega)
            refine wn_ialdv (pc' := 97) (j := 176 + (4 * (tkV t n (tkA t n p)))) (v := (nI (vaW w (tkV t n (tkA t n p))))) rfl rfl ((fr_h13.2 77 (by decide)).trans q6) rfl (by omega) (by decide) (wf_va hJ.wf (by omega)) ?_
            refine wn_ic (pc' := 98) (w := nI 1) rfl rfl (by decide) ?_
            refine wn_pu (pc' := 99) (st' := [.int ((nI (vaW w (tkV t n (tkA t n p)))) - (nI (1))), .int (nI (0)), .ref (71)]) rfl (fun _ _ _ => rfl) rfl rfl ?_
            refine wn_virS (pc' := 102) rfl rfl (by decide) rfl rfl o_h13 (Nat.le_of_ble_eq_true rfl) (m_num0 _ _ t n (tkA t n (tkA t n p)) hn (tkA_le (tkA_le hp)) hb th tl _ il up lo hv_h13 o_h13 ((fr_h13.2 75 (by decide)).trans q4) 0 (by omega) ((nI (vaW w (tkV t n (tkA t n p)))) - (nI (1))) (((vaW w (tkV t n (tkA t n p)) : Nat) : Int) - 1) (sub1 (by omega)) (by omega)) (fun r9 h15 e16 => ?_)
            obtain ⟨f_h15, ⟨w_h15, rfl, vl_h15, hv_h15, o_h15⟩ | ⟨w_h15, rfl, o_h15⟩⟩ := e16
            · have fr_h15 := Fr.tr fr_h13 f_h15 (fun _ q => q)
              have := tkF_le (t := t) (p := (tkA t n (tkA t n (tkA t n p)))) (tkA_le (tkA_le (tkA_le hp)))
              have := tkA_ge (t := t) (n := n) (p := (tkA t n (tkA t n (tkA t n p))))
              have := tkA_le (t := t) (p := (tkA t n (tkA t n (tkA t n p)))) (tkA_le (tkA_le (tkA_le hp)))
              have := tkK_le (t := t) (n := n) (p := (tkA t n (tkA t n (tkA t n p))))
              have b1_h15 := w_h15.2.1
              have b2_h15 := w_h15.2.2
              have g_h15 := nm_gt w_h15
              show Wn _ _ 102 _ [.int (nI (tkV t n (tkA t n (tkA t n p))))] h15 _
              refine wn_st (pc' := 103) (q := 3) (kin := 0) (lv' := [(0, .ref (71)), (1, .int (nI (tkV t n p))), (2, .int (nI (tkV t n (tkA t n p)))), (3, .int (nI (tkV t n (tkA t n (tkA t n p)))))]) rfl (fun _ _ _ => rfl) rfl (Nat.le_of_ble_eq_true rfl) rfl ?_
              refine wn_ld (pc' := 104) (q := 0) (kin := 2) (v := .ref (71)) rfl (fun _ _ _ => rfl) rfl rfl ?_
              refine wn_virI (pc' := 107) rfl rfl (by decide) rfl rfl o_h15 (Nat.le_of_ble_eq_true rfl) (m_good0 _ _ _ _ _ _ _ _ _ _ _ _ _ o_h15) ?_
              refine wn_ifN (t := 126) (f := 110) rfl rfl rfl (by omega) (fun c17 => ?_) (fun c17 => ?_)
              · have c17 : 1 = 0 := c17
                exact absurd c17 (by decide)
              · have c17 : ¬ 1 = 0 := c17
                refine wn_ld (pc' := 111) (q := 0) (kin := 2) (v := .ref (71)) rfl (fun _ _ _ => rfl) rfl rfl ?_
                refine wn_get (pc' := 114) (v := .ref (77)) rfl rfl o_h15 rfl ?_
                refine wn_sp (pc' := 117) (w := nI 216) rfl rfl (by decide) ?_
                refine wn_bp (pc' := 119) (w := nI 10) rfl rfl (by decide) ?_
                refine wn_ld (pc' := 120) (q := 1) (kin := 0) (v := .int (nI (tkV t n p))) rfl (fun _ _ _ => rfl) rfl rfl ?_
                refine wn_mulN (pc' := 121) rfl rfl ?_
                refine wn_addN (pc' := 122) rfl rfl ?_
                refine wn_ld (pc' := 123) (q := 2) (kin := 0) (v := .int (nI (tkV t n (tkA t n p)))) rfl (fun _ _ _ => rfl) rfl rfl ?_
                refine wn_addN (pc' := 124) rfl rfl ?_
                refine wn_ld (pc' := 125) (q := 3) (kin := 0) (v := .int (nI (tkV t n (tkA t n (tkA t n p))))) rfl (fun _ _ _ => rfl) rfl rfl ?_
                refine wn_iast (pc' := 126) (j := (216 + (10 * (tkV t n p))) + (tkV t n (tkA t n p))) rfl rfl ((fr_h15.2 77 (by decide)).trans q6) rfl (by omega) (by decide) ?_
                have eR : sayR t n p w = stp t n (.inr (tkA t n (tkA t n (tkA t n p)), sayW w (tkV t n p) (tkV t n (tkA t n p)) (tkV t n (tkA t n (tkA t n p))))) := (pI_t w_h1).trans ((pI_f (fun q => by have q2 := q.2.1; omega)).trans ((pI_t w_h13).trans (pI_t w_h15)))
                exact wn_vret rfl rfl ⟨rfl, (Fr.st (Fr.tr (Fr.rfl' [71, 77] h) (fw fr_h15) (fun _ q => q)) (by decide)), .inr (tkA t n (tkA t n (tkA t n p)), sayW w (tkV t n p) (tkV t n (tkA t n p)) (tkV t n (tkA t n (tkA t n p)))), MT_r hv_h15 (gs_ne (by decide) o_h15) (gs_self ((fr_h15.2 77 (by decide)).trans q6)), ⟨(tkA_le (tkA_le (tkA_le hp))), (say_o (by omega)).trans (e0.trans (congrArg nI (lc_e (say_o (by omega))).symm))⟩, eR⟩
            · have fr_h15 := Fr.tr fr_h13 f_h15 (fun _ q => q)
              show Wn _ _ 102 _ [.int (nI (0))] h15 _
              refine wn_st (pc' := 103) (q := 3) (kin := 0) (lv' := [(0, .ref (71)), (1, .int (nI (tkV t n p))), (2, .int (nI (tkV t n (tkA t n p)))), (3, .int (nI (0)))]) rfl (fun _ _ _ => rfl) rfl (Nat.le_of_ble_eq_true rfl) rfl ?_
              refine wn_ld (pc' := 104) (q := 0) (kin := 2) (v := .ref (71)) rfl (fun _ _ _ => rfl) rfl rfl ?_
              refine wn_virI (pc' := 107) rfl rfl (by decide) rfl rfl o_h15 (Nat.le_of_ble_eq_true rfl) (m_goodB _ _ _ _ _ _ _ _ _ _ _ _ _ _ nmF_nz o_h15) ?_
              refine wn_ifN (t := 126) (f := 110) rfl rfl rfl (by omega) (fun c18 => ?_) (fun c18 => ?_)
              · have c18 : 0 = 0 := c18
                have eR : sayR t n p w = stp t n (.inl (nmF t n (tkA t n (tkA t n p)), tkF t n (tkA t n (tkA t n p)))) := (pI_t w_h1).trans ((pI_f (fun q => by have q2 := q.2.1; omega)).trans ((pI_t w_h13).trans (pI_f w_h15)))
                exact wn_vret rfl rfl ⟨rfl, (Fr.tr (Fr.rfl' [71, 77] h) (fw fr_h15) (fun _ q => q)), _, MT_l nmF_nz o_h15 ((fr_h15.2 77 (by decide)).trans q6), trivial, eR⟩
              · have c18 : ¬ 0 = 0 := c18
                exact absurd c18 (by decide)
          · have fr_h13 := Fr.tr fr_h1 f_h13 (fun _ q => q)
            show Wn _ _ 82 _ [.int (nI (0))] h13 _
            refine wn_st (pc' := 83) (q := 2) (kin := 0) (lv' := [(0, .ref (71)), (1, .int (nI (tkV t n p))), (2, .int (nI (0)))]) rfl (fun _ _ _ => rfl) rfl (Nat.le_of_ble_eq_true rfl) rfl ?_
            refine wn_ld (pc' := 84) (q := 0) (kin := 2) (v := .ref (71)) rfl (fun _ _ _ => rfl) rfl rfl ?_
            refine wn_ic (pc' := 85) (w := nI 0) rfl rfl (by decide) ?_
            refine wn_ld (pc' := 86) (q := 0) (kin := 2) (v := .ref (71)) rfl (fun _ _ _ => rfl) rfl rfl ?_
            refine wn_get (pc' := 89) (v := .ref (77)) rfl rfl o_h13 rfl ?_
            refine wn_sp (pc' := 92) (w := nI 176) rfl rfl (by decide) ?_
            refine wn_ic (pc' := 93) (w := nI 4) rfl rfl (by decide) ?_
            refine wn_ld (pc' := 94) (q := 2) (kin := 0) (v := .int (nI (0))) rfl (fun _ _ _ => rfl) rfl rfl ?_
            refine wn_mulN (pc' := 95) rfl rfl ?_
            refine wn_addN (pc' := 96) rfl rfl ?_
            refine wn_ialdv (pc' := 97) (j := 176 + (4 * 0)) (v := (w (176 + (4 * 0)))) rfl rfl ((fr_h13.2 77 (by decide)).trans q6) rfl (by omega) (by decide) (rfl) ?_
            refine wn_ic (pc' := 98) (w := nI 1) rfl rfl (by decide) ?_
            refine wn_pu (pc' := 99) (st' := [.int ((w (176 + (4 * 0))) - (nI (1))), .int (nI (0)), .ref (71)]) rfl (fun _ _ _ => rfl) rfl rfl ?_
            refine wn_virI (pc' := 102) rfl rfl (by decide) rfl rfl o_h13 (Nat.le_of_ble_eq_true rfl) (m_numberB _ _ _ _ _ _ _ _ _ _ _ _ _ _ nmF_nz o_h13 (nI (0)) ((w (176 + (4 * 0))) - (nI (1)))) ?_
            refine wn_st (pc' := 103) (q := 3) (kin := 0) (lv' := [(0, .ref (71)), (1, .int (nI (tkV t n p))), (2, .int (nI (0))), (3, .int (nI (0)))]) rfl (fun _ _ _ => rfl) rfl (Nat.le_of_ble_eq_true rfl) rfl ?_
            refine wn_ld (pc' := 104) (q := 0) (kin := 2) (v := .ref (71)) rfl (fun _ _ _ => rfl) rfl rfl ?_
            refine wn_virI (pc' := 107) rfl rfl (by decide) rfl rfl o_h13 (Nat.le_of_ble_eq_true rfl) (m_goodB _ _ _ _ _ _ _ _ _ _ _ _ _ _ nmF_nz o_h13) ?_
            refine wn_ifN (t := 126) (f := 110) rfl rfl rfl (by omega) (fun c19 => ?_) (fun c19 => ?_)
            · have c19 : 0 = 0 := c19
              have eR : sayR t n p w = stp t n (.inl (nmF t n (tkA t n p), tkF t n (tkA t n p))) := (pI_t w_h1).trans ((pI_f (fun q => by have q2 := q.2.1; omega)).trans (pI_f w_h13))
              exact wn_vret rfl rfl ⟨rfl, (Fr.tr (Fr.rfl' [71, 77] h) (fw fr_h13) (fun _ q => q)), _, MT_l nmF_nz o_h13 ((fr_h13.2 77 (by decide)).trans q6), trivial, eR⟩
            · have c19 : ¬ 0 = 0 := c19
              exact absurd c19 (by decide)
        · have c12 : (min 9999 (tkV t n (tkA t n p))) < (ntW w) := c12
          refine wn_ld (pc' := 43) (q := 0) (kin := 2) (v := .ref (71)) rfl (fun _ _ _ => rfl) rfl rfl ?_
          refine wn_get (pc' := 46) (v := .ref (77)) rfl rfl o_h1 rfl ?_
          refine wn_sp (pc' := 49) (w := nI 216) rfl rfl (by decide) ?_
          refine wn_bp (pc' := 51) (w := nI 10) rfl rfl (by decide) ?_
          refine wn_ld (pc' := 52) (q := 1) (kin := 0) (v := .int (nI (tkV t n p))) rfl (fun _ _ _ => rfl) rfl rfl ?_
          refine wn_mulN (pc' := 53) rfl rfl ?_
          refine wn_addN (pc' := 54) rfl rfl ?_
          refine wn_ld (pc' := 55) (q := 0) (kin := 2) (v := .ref (71)) rfl (fun _ _ _ => rfl) rfl rfl ?_
          refine wn_get (pc' := 58) (v := .int (vl_h1)) rfl rfl o_h1 rfl ?_
          have eM : min 9999 (tkV t n (tkA t n p)) = tkV t n (tkA t n p) := by omega
          refine wn_top (y := nI (tkV t n (tkA t n p))) ((hv_h1 c4).trans (congrArg nI eM)) ?_
          refine wn_addN (pc' := 59) rfl rfl ?_
          refine wn_ialdv (pc' := 60) (j := (216 + (10 * (tkV t n p))) + (tkV t n (tkA t n p))) (v := (w ((216 + (10 * (tkV t n p))) + (tkV t n (tkA t n p))))) rfl rfl ((fr_h1.2 77 (by decide)).trans q6) rfl (by omega) (by decide) (rfl) ?_
          refine wn_ic (pc' := 61) (w := -1) rfl rfl (by decide) ?_
          refine wn_icmp (t := 69) (f := 64) rfl rfl rfl (fun c20 => ?_) (fun c20 => ?_)
          · have c20 : ((w ((216 + (10 * (tkV t n p))) + (tkV t n (tkA t n p))))) = ((-1)) := c20
            refine wn_ld (pc' := 70) (q := 0) (kin := 2) (v := .ref (71)) rfl (fun _ _ _ => rfl) rfl rfl ?_
            refine wn_ic (pc' := 71) (w := nI 0) rfl rfl (by decide) ?_
            refine wn_ld (pc' := 72) (q := 0) (kin := 2) (v := .ref (71)) rfl (fun _ _ _ => rfl) rfl rfl ?_
            refine wn_get (pc' := 75) (v := .ref (77)) rfl rfl o_h1 rfl ?_
            refine wn_ic (pc' := 76) (w := nI 3) rfl rfl (by decide) ?_
            refine wn_ialdv (pc' := 77) (j := 3) (v := (nI (ntW w))) rfl rfl ((fr_h1.2 77 (by decide)).trans q6) rfl (by omega) (by decide) (e5) ?_
            refine wn_ic (pc' := 78) (w := nI 1) rfl rfl (by decide) ?_
            refine wn_pu (pc' := 79) (st' := [.int ((nI (ntW w)) - (nI (1))), .int (nI (0)), .ref (71)]) rfl (fun _ _ _ => rfl) rfl rfl ?_
            refine wn_virS (pc' := 82) rfl rfl (by decide) rfl rfl o_h1 (Nat.le_of_ble_eq_true rfl) (m_num0 _ _ t n (tkA t n p) hn (tkA_le hp) hb th tl _ il up lo hv_h1 o_h1 ((fr_h1.2 75 (by decide)).trans q4) 0 (by omega) ((nI (ntW w)) - (nI (1))) (((ntW w : Nat) : Int) - 1) (sub1 (by omega)) (by omega)) (fun r9 h21 e22 => ?_)
            obtain ⟨f_h21, ⟨w_h21, rfl, vl_h21, hv_h21, o_h21⟩ | ⟨w_h21, rfl, o_h21⟩⟩ := e22
            · have fr_h21 := Fr.tr fr_h1 f_h21 (fun _ q => q)
              have := tkF_le (t := t) (p := (tkA t n (tkA t n p))) (tkA_le (tkA_le hp))
              have := tkA_ge (t := t) (n := n) (p := (tkA t n (tkA t n p)))
              have := tkA_le (t := t) (p := (tkA t n (tkA t n p))) (tkA_le (tkA_le hp))
              have := tkK_le (t := t) (n := n) (p := (tkA t n (tkA t n p)))
              have b1_h21 := w_h21.2.1
              have b2_h21 := w_h21.2.2
              have g_h21 := nm_gt w_h21
              show Wn _ _ 82 _ [.int (nI (tkV t n (tkA t n p)))] h21 _
              refine wn_st (pc' := 83) (q := 2) (kin := 0) (lv' := [(0, .ref (71)), (1, .int (nI (tkV t n p))), (2, .int (nI (tkV t n (tkA t n p))))]) rfl (fun _ _ _ => rfl) rfl (Nat.le_of_ble_eq_true rfl) rfl ?_
              refine wn_ld (pc' := 84) (q := 0) (kin := 2) (v := .ref (71)) rfl (fun _ _ _ => rfl) rfl rfl ?_
              refine wn_ic (pc' := 85) (w := nI 0) rfl rfl (by decide) ?_
              refine wn_ld (pc' := 86) (q := 0) (kin := 2) (v := .ref (71)) rfl (fun _ _ _ => rfl) rfl rfl ?_
              refine wn_get (pc' := 89) (v := .ref (77)) rfl rfl o_h21 rfl ?_
              refine wn_sp (pc' := 92) (w := nI 176) rfl rfl (by decide) ?_
              refine wn_ic (pc' := 93) (w := nI 4) rfl rfl (by decide) ?_
              refine wn_ld (pc' := 94) (q := 2) (kin := 0) (v := .int (nI (tkV t n (tkA t n p)))) rfl (fun _ _ _ => rfl) rfl rfl ?_
              refine wn_mulN (pc' := 95) rfl rfl ?_
              refine wn_addN (pc' := 96) rfl rfl ?_
              have := wf_vab hJ.wf (show (tkV t n (tkA t n p)) < ntW w by omega)
              refine wn_ialdv (pc' := 97) (j := 176 + (4 * (tkV t n (tkA t n p)))) (v := (nI (vaW w (tkV t n (tkA t n p))))) rfl rfl ((fr_h21.2 77 (by decide)).trans q6) rfl (by omega) (by decide) (wf_va hJ.wf (by omega)) ?_
              refine wn_ic (pc' := 98) (w := nI 1) rfl rfl (by decide) ?_
              refine wn_pu (pc' := 99) (st' := [.int ((nI (vaW w (tkV t n (tkA t n p)))) - (nI (1))), .int (nI (0)), .ref (71)]) rfl (fun _ _ _ => rfl) rfl rfl ?_
              refine wn_virS (pc' := 102) rfl rfl (by decide) rfl rfl o_h21 (Nat.le_of_ble_eq_true rfl) (m_num0 _ _ t n (tkA t n (tkA t n p)) hn (tkA_le (tkA_le hp)) hb th tl _ il up lo hv_h21 o_h21 ((fr_h21.2 75 (by decide)).trans q4) 0 (by omega) ((nI (vaW w (tkV t n (tkA t n p)))) - (nI (1))) (((vaW w (tkV t n (tkA t n p)) : Nat) : Int) - 1) (sub1 (by omega)) (by omega)) (fun r9 h23 e24 => ?_)
              obtain ⟨f_h23, ⟨w_h23, rfl, vl_h23, hv_h23, o_h23⟩ | ⟨w_h23, rfl, o_h23⟩⟩ := e24
              · have fr_h23 := Fr.tr fr_h21 f_h23 (fun _ q => q)
                have := tkF_le (t := t) (p := (tkA t n (tkA t n (tkA t n p)))) (tkA_le (tkA_le (tkA_le hp)))
                have := tkA_ge (t := t) (n := n) (p := (tkA t n (tkA t n (tkA t n p))))
                have := tkA_le (t := t) (p := (tkA t n (tkA t n (tkA t n p)))) (tkA_le (tkA_le (tkA_le hp)))
                have := tkK_le (t := t) (n := n) (p := (tkA t n (tkA t n (tkA t n p))))
                have b1_h23 := w_h23.2.1
                have b2_h23 := w_h23.2.2
                have g_h23 := nm_gt w_h23
                show Wn _ _ 102 _ [.int (nI (tkV t n (tkA t n (tkA t n p))))] h23 _
                refine wn_st (pc' := 103) (q := 3) (kin := 0) (lv' := [(0, .ref (71)), (1, .int (nI (tkV t n p))), (2, .int (nI (tkV t n (tkA t n p)))), (3, .int (nI (tkV t n (tkA t n (tkA t n p)))))]) rfl (fun _ _ _ => rfl) rfl (Nat.le_of_ble_eq_true rfl) rfl ?_
                refine wn_ld (pc' := 104) (q := 0) (kin := 2) (v := .ref (71)) rfl (fun _ _ _ => rfl) rfl rfl ?_
                refine wn_virI (pc' := 107) rfl rfl (by decide) rfl rfl o_h23 (Nat.le_of_ble_eq_true rfl) (m_good0 _ _ _ _ _ _ _ _ _ _ _ _ _ o_h23) ?_
                refine wn_ifN (t := 126) (f := 110) rfl rfl rfl (by omega) (fun c25 => ?_) (fun c25 => ?_)
                · have c25 : 1 = 0 := c25
                  exact absurd c25 (by decide)
                · have c25 : ¬ 1 = 0 := c25
                  refine wn_ld (pc' := 111) (q := 0) (kin := 2) (v := .ref (71)) rfl (fun _ _ _ => rfl) rfl rfl ?_
                  refine wn_get (pc' := 114) (v := .ref (77)) rfl rfl o_h23 rfl ?_
                  refine wn_sp (pc' := 117) (w := nI 216) rfl rfl (by decide) ?_
                  refine wn_bp (pc' := 119) (w := nI 10) rfl rfl (by decide) ?_
                  refine wn_ld (pc' := 120) (q := 1) (kin := 0) (v := .int (nI (tkV t n p))) rfl (fun _ _ _ => rfl) rfl rfl ?_
                  refine wn_mulN (pc' := 121) rfl rfl ?_
                  refine wn_addN (pc' := 122) rfl rfl ?_
                  refine wn_ld (pc' := 123) (q := 2) (kin := 0) (v := .int (nI (tkV t n (tkA t n p)))) rfl (fun _ _ _ => rfl) rfl rfl ?_
                  refine wn_addN (pc' := 124) rfl rfl ?_
                  refine wn_ld (pc' := 125) (q := 3) (kin := 0) (v := .int (nI (tkV t n (tkA t n (tkA t n p))))) rfl (fun _ _ _ => rfl) rfl rfl ?_
                  refine wn_iast (pc' := 126) (j := (216 + (10 * (tkV t n p))) + (tkV t n (tkA t n p))) rfl rfl ((fr_h23.2 77 (by decide)).trans q6) rfl (by omega) (by decide) ?_
                  have eR : sayR t n p w = stp t n (.inr (tkA t n (tkA t n (tkA t n p)), sayW w (tkV t n p) (tkV t n (tkA t n p)) (tkV t n (tkA t n (tkA t n p))))) := (pI_t w_h1).trans ((pI_f (fun q => q.2.2 c20)).trans ((pI_t w_h21).trans (pI_t w_h23)))
                  exact wn_vret rfl rfl ⟨rfl, (Fr.st (Fr.tr (Fr.rfl' [71, 77] h) (fw fr_h23) (fun _ q => q)) (by decide)), .inr (tkA t n (tkA t n (tkA t n p)), sayW w (tkV t n p) (tkV t n (tkA t n p)) (tkV t n (tkA t n (tkA t n p)))), MT_r hv_h23 (gs_ne (by decide) o_h23) (gs_self ((fr_h23.2 77 (by decide)).trans q6)), ⟨(tkA_le (tkA_le (tkA_le hp))), (say_o (by omega)).trans (e0.trans (congrArg nI (lc_e (say_o (by omega))).symm))⟩, eR⟩
              · have fr_h23 := Fr.tr fr_h21 f_h23 (fun _ q => q)
                show Wn _ _ 102 _ [.int (nI (0))] h23 _
                refine wn_st (pc' := 103) (q := 3) (kin := 0) (lv' := [(0, .ref (71)), (1, .int (nI (tkV t n p))), (2, .int (nI (tkV t n (tkA t n p)))), (3, .int (nI (0)))]) rfl (fun _ _ _ => rfl) rfl (Nat.le_of_ble_eq_true rfl) rfl ?_
                refine wn_ld (pc' := 104) (q := 0) (kin := 2) (v := .ref (71)) rfl (fun _ _ _ => rfl) rfl rfl ?_
                refine wn_virI (pc' := 107) rfl rfl (by decide) rfl rfl o_h23 (Nat.le_of_ble_eq_true rfl) (m_goodB _ _ _ _ _ _ _ _ _ _ _ _ _ _ nmF_nz o_h23) ?_
                refine wn_ifN (t := 126) (f := 110) rfl rfl rfl (by omega) (fun c26 => ?_) (fun c26 => ?_)
                · have c26 : 0 = 0 := c26
                  have eR : sayR t n p w = stp t n (.inl (nmF t n (tkA t n (tkA t n p)), tkF t n (tkA t n (tkA t n p)))) := (pI_t w_h1).trans ((pI_f (fun q => q.2.2 c20)).trans ((pI_t w_h21).trans (pI_f w_h23)))
                  exact wn_vret rfl rfl ⟨rfl, (Fr.tr (Fr.rfl' [71, 77] h) (fw fr_h23) (fun _ q => q)), _, MT_l nmF_nz o_h23 ((fr_h23.2 77 (by decide)).trans q6), trivial, eR⟩
                · have c26 : ¬ 0 = 0 := c26
                  exact absurd c26 (by decide)
            · have fr_h21 := Fr.tr fr_h1 f_h21 (fun _ q => q)
              show Wn _ _ 82 _ [.int (nI (0))] h21 _
              refine wn_st (pc' := 83) (q := 2) (kin := 0) (lv' := [(0, .ref (71)), (1, .int (nI (tkV t n p))), (2, .int (nI (0)))]) rfl (fun _ _ _ => rfl) rfl (Nat.le_of_ble_eq_true rfl) rfl ?_
              refine wn_ld (pc' := 84) (q := 0) (kin := 2) (v := .ref (71)) rfl (fun _ _ _ => rfl) rfl rfl ?_
              refine wn_ic (pc' := 85) (w := nI 0) rfl rfl (by decide) ?_
              refine wn_ld (pc' := 86) (q := 0) (kin := 2) (v := .ref (71)) rfl (fun _ _ _ => rfl) rfl rfl ?_
              refine wn_get (pc' := 89) (v := .ref (77)) rfl rfl o_h21 rfl ?_
              refine wn_sp (pc' := 92) (w := nI 176) rfl rfl (by decide) ?_
              refine wn_ic (pc' := 93) (w := nI 4) rfl rfl (by decide) ?_
              refine wn_ld (pc' := 94) (q := 2) (kin := 0) (v := .int (nI (0))) rfl (fun _ _ _ => rfl) rfl rfl ?_
              refine wn_mulN (pc' := 95) rfl rfl ?_
              refine wn_addN (pc' := 96) rfl rfl ?_
              refine wn_ialdv (pc' := 97) (j := 176 + (4 * 0)) (v := (w (176 + (4 * 0)))) rfl rfl ((fr_h21.2 77 (by decide)).trans q6) rfl (by omega) (by decide) (rfl) ?_
              refine wn_ic (pc' := 98) (w := nI 1) rfl rfl (by decide) ?_
              refine wn_pu (pc' := 99) (st' := [.int ((w (176 + (4 * 0))) - (nI (1))), .int (nI (0)), .ref (71)]) rfl (fun _ _ _ => rfl) rfl rfl ?_
              refine wn_virI (pc' := 102) rfl rfl (by decide) rfl rfl o_h21 (Nat.le_of_ble_eq_true rfl) (m_numberB _ _ _ _ _ _ _ _ _ _ _ _ _ _ nmF_nz o_h21 (nI (0)) ((w (176 + (4 * 0))) - (nI (1)))) ?_
              refine wn_st (pc' := 103) (q := 3) (kin := 0) (lv' := [(0, .ref (71)), (1, .int (nI (tkV t n p))), (2, .int (nI (0))), (3, .int (nI (0)))]) rfl (fun _ _ _ => rfl) rfl (Nat.le_of_ble_eq_true rfl) rfl ?_
              refine wn_ld (pc' := 104) (q := 0) (kin := 2) (v := .ref (71)) rfl (fun _ _ _ => rfl) rfl rfl ?_
              refine wn_virI (pc' := 107) rfl rfl (by decide) rfl rfl o_h21 (Nat.le_of_ble_eq_true rfl) (m_goodB _ _ _ _ _ _ _ _ _ _ _ _ _ _ nmF_nz o_h21) ?_
              refine wn_ifN (t := 126) (f := 110) rfl rfl rfl (by omega) (fun c27 => ?_) (fun c27 => ?_)
              · have c27 : 0 = 0 := c27
                have eR : sayR t n p w = stp t n (.inl (nmF t n (tkA t n p), tkF t n (tkA t n p))) := (pI_t w_h1).trans ((pI_f (fun q => q.2.2 c20)).trans (pI_f w_h21))
                exact wn_vret rfl rfl ⟨rfl, (Fr.tr (Fr.rfl' [71, 77] h) (fw fr_h21) (fun _ q => q)), _, MT_l nmF_nz o_h21 ((fr_h21.2 77 (by decide)).trans q6), trivial, eR⟩
              · have c27 : ¬ 0 = 0 := c27
                exact absurd c27 (by decide)
          · have c20 : ¬ ((w ((216 + (10 * (tkV t n p))) + (tkV t n (tkA t n p))))) = ((-1)) := c20
            refine wn_ld (pc' := 65) (q := 0) (kin := 2) (v := .ref (71)) rfl (fun _ _ _ => rfl) rfl rfl ?_
            refine wn_ic (pc' := 66) (w := nI 2) rfl rfl (by decide) ?_
            refine wn_virS (pc' := 69) rfl rfl (by decide) rfl rfl o_h1 (Nat.le_of_ble_eq_true rfl) (m_errs0 _ _ _ _ _ _ _ _ _ _ _ _ _ o_h1 (nI (2))) (fun r9 h28 e29 => ?_)
            obtain ⟨rfl, f_h28, o_h28⟩ := e29
            have fr_h28 := Fr.tr fr_h1 f_h28 (fun _ q => q)
            show Wn _ _ 69 _ [] h28 _
            refine wn_ld (pc' := 70) (q := 0) (kin := 2) (v := .ref (71)) rfl (fun _ _ _ => rfl) rfl rfl ?_
            refine wn_ic (pc' := 71) (w := nI 0) rfl rfl (by decide) ?_
            refine wn_ld (pc' := 72) (q := 0) (kin := 2) (v := .ref (71)) rfl (fun _ _ _ => rfl) rfl rfl ?_
            refine wn_get (pc' := 75) (v := .ref (77)) rfl rfl o_h28 rfl ?_
            refine wn_ic (pc' := 76) (w := nI 3) rfl rfl (by decide) ?_
            refine wn_ialdv (pc' := 77) (j := 3) (v := (w (3))) rfl rfl ((fr_h28.2 77 (by decide)).trans q6) rfl (by omega) (by decide) (rfl) ?_
            refine wn_ic (pc' := 78) (w := nI 1) rfl rfl (by decide) ?_
            refine wn_pu (pc' := 79) (st' := [.int ((w (3)) - (nI (1))), .int (nI (0)), .ref (71)]) rfl (fun _ _ _ => rfl) rfl rfl ?_
            refine wn_virI (pc' := 82) rfl rfl (by decide) rfl rfl o_h28 (Nat.le_of_ble_eq_true rfl) (m_numberB _ _ _ _ _ _ _ _ _ _ _ _ _ _ (show ¬ nI 2 = 0 by decide) o_h28 (nI (0)) ((w (3)) - (nI (1)))) ?_
            refine wn_st (pc' := 83) (q := 2) (kin := 0) (lv' := [(0, .ref (71)), (1, .int (nI (tkV t n p))), (2, .int (nI (0)))]) rfl (fun _ _ _ => rfl) rfl (Nat.le_of_ble_eq_true rfl) rfl ?_
            refine wn_ld (pc' := 84) (q := 0) (kin := 2) (v := .ref (71)) rfl (fun _ _ _ => rfl) rfl rfl ?_
            refine wn_ic (pc' := 85) (w := nI 0) rfl rfl (by decide) ?_
            refine wn_ld (pc' := 86) (q := 0) (kin := 2) (v := .ref (71)) rfl (fun _ _ _ => rfl) rfl rfl ?_
            refine wn_get (pc' := 89) (v := .ref (77)) rfl rfl o_h28 rfl ?_
            refine wn_sp (pc' := 92) (w := nI 176) rfl rfl (by decide) ?_
            refine wn_ic (pc' := 93) (w := nI 4) rfl rfl (by decide) ?_
            refine wn_ld (pc' := 94) (q := 2) (kin := 0) (v := .int (nI (0))) rfl (fun _ _ _ => rfl) rfl rfl ?_
            refine wn_mulN (pc' := 95) rfl rfl ?_
            refine wn_addN (pc' := 96) rfl rfl ?_
            refine wn_ialdv (pc' := 97) (j := 176 + (4 * 0)) (v := (w (176 + (4 * 0)))) rfl rfl ((fr_h28.2 77 (by decide)).trans q6) rfl (by omega) (by decide) (rfl) ?_
            refine wn_ic (pc' := 98) (w := nI 1) rfl rfl (by decide) ?_
            refine wn_pu (pc' := 99) (st' := [.int ((w (176 + (4 * 0))) - (nI (1))), .int (nI (0)), .ref (71)]) rfl (fun _ _ _ => rfl) rfl rfl ?_
            refine wn_virI (pc' := 102) rfl rfl (by decide) rfl rfl o_h28 (Nat.le_of_ble_eq_true rfl) (m_numberB _ _ _ _ _ _ _ _ _ _ _ _ _ _ (show ¬ nI 2 = 0 by decide) o_h28 (nI (0)) ((w (176 + (4 * 0))) - (nI (1)))) ?_
            refine wn_st (pc' := 103) (q := 3) (kin := 0) (lv' := [(0, .ref (71)), (1, .int (nI (tkV t n p))), (2, .int (nI (0))), (3, .int (nI (0)))]) rfl (fun _ _ _ => rfl) rfl (Nat.le_of_ble_eq_true rfl) rfl ?_
            refine wn_ld (pc' := 104) (q := 0) (kin := 2) (v := .ref (71)) rfl (fun _ _ _ => rfl) rfl rfl ?_
            refine wn_virI (pc' := 107) rfl rfl (by decide) rfl rfl o_h28 (Nat.le_of_ble_eq_true rfl) (m_goodB _ _ _ _ _ _ _ _ _ _ _ _ _ _ (show ¬ nI 2 = 0 by decide) o_h28) ?_
            refine wn_ifN (t := 126) (f := 110) rfl rfl rfl (by omega) (fun c30 => ?_) (fun c30 => ?_)
            · have c30 : 0 = 0 := c30
              have eR : sayR t n p w = stp t n (.inl (2, tkF t n (tkA t n p))) := (pI_t w_h1).trans (pI_t ⟨c4, by omega, c20⟩)
              exact wn_vret rfl rfl ⟨rfl, (Fr.tr (Fr.rfl' [71, 77] h) (fw fr_h28) (fun _ q => q)), _, MT_l (show ¬ nI 2 = 0 by decide) o_h28 ((fr_h28.2 77 (by decide)).trans q6), trivial, eR⟩
            · have c30 : ¬ 0 = 0 := c30
              exact absurd c30 (by decide)
  · have fr_h1 := Fr.tr (Fr.rfl' [71] h) f_h1 (fun _ q => q)
    show Wn _ _ 13 _ [.int (nI (0))] h1 _
    refine wn_st (pc' := 14) (q := 1) (kin := 0) (lv' := [(0, .ref (71)), (1, .int (nI (0)))]) rfl (fun _ _ _ => rfl) rfl (Nat.le_of_ble_eq_true rfl) rfl ?_
    refine wn_ld (pc' := 15) (q := 0) (kin := 2) (v := .ref (71)) rfl (fun _ _ _ => rfl) rfl rfl ?_
    refine wn_virI (pc' := 18) rfl rfl (by decide) rfl rfl o_h1 (Nat.le_of_ble_eq_true rfl) (m_goodB _ _ _ _ _ _ _ _ _ _ _ _ _ _ nmF_nz o_h1) ?_
    refine wn_ifN (t := 69) (f := 21) rfl rfl rfl (by omega) (fun c31 => ?_) (fun c31 => ?_)
    · have c31 : 0 = 0 := c31
      refine wn_ld (pc' := 70) (q := 0) (kin := 2) (v := .ref (71)) rfl (fun _ _ _ => rfl) rfl rfl ?_
      refine wn_ic (pc' := 71) (w := nI 0) rfl rfl (by decide) ?_
      refine wn_ld (pc' := 72) (q := 0) (kin := 2) (v := .ref (71)) rfl (fun _ _ _ => rfl) rfl rfl ?_
      refine wn_get (pc' := 75) (v := .ref (77)) rfl rfl o_h1 rfl ?_
      refine wn_ic (pc' := 76) (w := nI 3) rfl rfl (by decide) ?_
      refine wn_ialdv (pc' := 77) (j := 3) (v := (w (3))) rfl rfl ((fr_h1.2 77 (by decide)).trans q6) rfl (by omega) (by decide) (rfl) ?_
      refine wn_ic (pc' := 78) (w := nI 1) rfl rfl (by decide) ?_
      refine wn_pu (pc' := 79) (st' := [.int ((w (3)) - (nI (1))), .int (nI (0)), .ref (71)]) rfl (fun _ _ _ => rfl) rfl rfl ?_
      refine wn_virI (pc' := 82) rfl rfl (by decide) rfl rfl o_h1 (Nat.le_of_ble_eq_true rfl) (m_numberB _ _ _ _ _ _ _ _ _ _ _ _ _ _ nmF_nz o_h1 (nI (0)) ((w (3)) - (nI (1)))) ?_
      refine wn_st (pc' := 83) (q := 2) (kin := 0) (lv' := [(0, .ref (71)), (1, .int (nI (0))), (2, .int (nI (0)))]) rfl (fun _ _ _ => rfl) rfl (Nat.le_of_ble_eq_true rfl) rfl ?_
      refine wn_ld (pc' := 84) (q := 0) (kin := 2) (v := .ref (71)) rfl (fun _ _ _ => rfl) rfl rfl ?_
      refine wn_ic (pc' := 85) (w := nI 0) rfl rfl (by decide) ?_
      refine wn_ld (pc' := 86) (q := 0) (kin := 2) (v := .ref (71)) rfl (fun _ _ _ => rfl) rfl rfl ?_
      refine wn_get (pc' := 89) (v := .ref (77)) rfl rfl o_h1 rfl ?_
      refine wn_sp (pc' := 92) (w := nI 176) rfl rfl (by decide) ?_
      refine wn_ic (pc' := 93) (w := nI 4) rfl rfl (by decide) ?_
      refine wn_ld (pc' := 94) (q := 2) (kin := 0) (v := .int (nI (0))) rfl (fun _ _ _ => rfl) rfl rfl ?_
      refine wn_mulN (pc' := 95) rfl rfl ?_
      refine wn_addN (pc' := 96) rfl rfl ?_
      refine wn_ialdv (pc' := 97) (j := 176 + (4 * 0)) (v := (w (176 + (4 * 0)))) rfl rfl ((fr_h1.2 77 (by decide)).trans q6) rfl (by omega) (by decide) (rfl) ?_
      refine wn_ic (pc' := 98) (w := nI 1) rfl rfl (by decide) ?_
      refine wn_pu (pc' := 99) (st' := [.int ((w (176 + (4 * 0))) - (nI (1))), .int (nI (0)), .ref (71)]) rfl (fun _ _ _ => rfl) rfl rfl ?_
      refine wn_virI (pc' := 102) rfl rfl (by decide) rfl rfl o_h1 (Nat.le_of_ble_eq_true rfl) (m_numberB _ _ _ _ _ _ _ _ _ _ _ _ _ _ nmF_nz o_h1 (nI (0)) ((w (176 + (4 * 0))) - (nI (1)))) ?_
      refine wn_st (pc' := 103) (q := 3) (kin := 0) (lv' := [(0, .ref (71)), (1, .int (nI (0))), (2, .int (nI (0))), (3, .int (nI (0)))]) rfl (fun _ _ _ => rfl) rfl (Nat.le_of_ble_eq_true rfl) rfl ?_
      refine wn_ld (pc' := 104) (q := 0) (kin := 2) (v := .ref (71)) rfl (fun _ _ _ => rfl) rfl rfl ?_
      refine wn_virI (pc' := 107) rfl rfl (by decide) rfl rfl o_h1 (Nat.le_of_ble_eq_true rfl) (m_goodB _ _ _ _ _ _ _ _ _ _ _ _ _ _ nmF_nz o_h1) ?_
      refine wn_ifN (t := 126) (f := 110) rfl rfl rfl (by omega) (fun c32 => ?_) (fun c32 => ?_)
      · have c32 : 0 = 0 := c32
        have eR : sayR t n p w = stp t n (.inl (nmF t n p, tkF t n p)) := pI_f w_h1
        exact wn_vret rfl rfl ⟨rfl, (Fr.tr (Fr.rfl' [71, 77] h) (fw fr_h1) (fun _ q => q)), _, MT_l nmF_nz o_h1 ((fr_h1.2 77 (by decide)).trans q6), trivial, eR⟩
      · have c32 : ¬ 0 = 0 := c32
        exact absurd c32 (by decide)
    · have c31 : ¬ 0 = 0 := c31
      exact absurd c31 (by decide)

theorem m_readPart (d : Nat) (h : aH) (t : Nat → Int32) (n p : Nat) (w : Nat → Int32) (hn : n ≤ 1200) (hp : p ≤ n) (hb : byT t) (hJ : WJ w) (th tl vl il : Int32) (up lo : Int64) (hv : vlP t n p vl) (q0 : isO h 71 9 (moS t n p th tl vl (nI 0) (-1) il up lo)) (q4 : isB h 75 1200 t) (q6 : isI h 77 2676 w) (hnp : npW w < 240) (i : Nat) (hi : i < ntW w) (j : Nat) : Sp (Rn (d + 4)) 169 [.ref (71), .int (nI (i)), .int (nI (j))] h (fun r9 h9 => r9 = none ∧ Fr [71, 77] h h9 ∧ MTs t n th tl il up lo h9 (prtR t n (((vaW w i : Nat) : Int) - 1) j p w)) := by
  obtain ⟨e0, e0b⟩ := wj_0 hJ
  obtain ⟨⟨e1, e2⟩, ⟨e3, e4⟩, ⟨e5, e6⟩⟩ := Wf_n hJ.wf
  obtain ⟨⟨e7, e8⟩, ⟨e9, e10⟩⟩ := Wf_m hJ.wf
  have hF := tkF_le (t := t) hp
  have hA := tkA_ge (t := t) (n := n) (p := p)
  have hA2 := tkA_le (t := t) hp
  have hK := tkK_le (t := t) (n := n) (p := p)
  refine Sp_of (by decide) (Nat.le_of_ble_eq_true rfl) ?_
  show Wn _ _ 0 [(0, .ref (71)), (1, .int (nI (i))), (2, .int (nI (j)))] [] _ _
  refine wn_ld (pc' := 1) (q := 0) (kin := 2) (v := .ref (71)) rfl (fun _ _ _ => rfl) rfl rfl ?_
  refine wn_go (pc' := 3) (lv' := [(0, .ref (71)), (1, .int (nI (i))), (2, .int (nI (j)))]) (st' := [.retAddr 11, .ref (71)]) rfl (fun _ _ _ k9 => ⟨by decide, k9⟩) ?_
  refine wn_virI (pc' := 6) rfl rfl (by decide) rfl rfl q0 (Nat.le_of_ble_eq_true rfl) (m_is0 _ _ t n p hn hp hb th tl _ il up lo hv q0 q4 11 (by omega)) ?_
  refine wn_ifeqB (t := 13) (f := 9) rfl rfl rfl (fun c1 => ?_) (fun c1 => ?_)
  · have c1 : ¬ (isWd t n p 11) := c1
    refine wn_ld (pc' := 14) (q := 0) (kin := 2) (v := .ref (71)) rfl (fun _ _ _ => rfl) rfl rfl ?_
    refine wn_go (pc' := 16) (lv' := [(0, .ref (71)), (1, .int (nI (i))), (2, .int (nI (j)))]) (st' := [.retAddr 12, .ref (71)]) rfl (fun _ _ _ k9 => ⟨by decide, k9⟩) ?_
    refine wn_virI (pc' := 19) rfl rfl (by decide) rfl rfl q0 (Nat.le_of_ble_eq_true rfl) (m_is0 _ _ t n p hn hp hb th tl _ il up lo hv q0 q4 12 (by omega)) ?_
    refine wn_ifeqB (t := 26) (f := 22) rfl rfl rfl (fun c2 => ?_) (fun c2 => ?_)
    · have c2 : ¬ (isWd t n p 12) := c2
      refine wn_ld (pc' := 27) (q := 0) (kin := 2) (v := .ref (71)) rfl (fun _ _ _ => rfl) rfl rfl ?_
      refine wn_go (pc' := 29) (lv' := [(0, .ref (71)), (1, .int (nI (i))), (2, .int (nI (j)))]) (st' := [.retAddr 1, .ref (71)]) rfl (fun _ _ _ k9 => ⟨by decide, k9⟩) ?_
      refine wn_virI (pc' := 32) rfl rfl (by decide) rfl rfl q0 (Nat.le_of_ble_eq_true rfl) (m_is0 _ _ t n p hn hp hb th tl _ il up lo hv q0 q4 1 (by omega)) ?_
      refine wn_ifeqB (t := 39) (f := 35) rfl rfl rfl (fun c3 => ?_) (fun c3 => ?_)
      · have c3 : ¬ (isWd t n p 1) := c3
        refine wn_ld (pc' := 40) (q := 0) (kin := 2) (v := .ref (71)) rfl (fun _ _ _ => rfl) rfl rfl ?_
        refine wn_go (pc' := 42) (lv' := [(0, .ref (71)), (1, .int (nI (i))), (2, .int (nI (j)))]) (st' := [.retAddr 13, .ref (71)]) rfl (fun _ _ _ k9 => ⟨by decide, k9⟩) ?_
        refine wn_virI (pc' := 45) rfl rfl (by decide) rfl rfl q0 (Nat.le_of_ble_eq_true rfl) (m_is0 _ _ t n p hn hp hb th tl _ il up lo hv q0 q4 13 (by omega)) ?_
        refine wn_ifeqB (t := 52) (f := 48) rfl rfl rfl (fun c4 => ?_) (fun c4 => ?_)
        · have c4 : ¬ (isWd t n p 13) := c4
          refine wn_ic (pc' := 53) (w := nI 0) rfl rfl (by decide) ?_
          refine wn_st (pc' := 54) (q := 3) (kin := 0) (lv' := [(0, .ref (71)), (1, .int (nI (i))), (2, .int (nI (j))), (3, .int (nI (0)))]) rfl (fun _ _ _ => rfl) rfl (Nat.le_of_ble_eq_true rfl) rfl ?_
          refine wn_ld (pc' := 55) (q := 0) (kin := 2) (v := .ref (71)) rfl (fun _ _ _ => rfl) rfl rfl ?_
          refine wn_virI (pc' := 58) rfl rfl (by decide) rfl rfl q0 (Nat.le_of_ble_eq_true rfl) (m_good0 _ _ _ _ _ _ _ _ _ _ _ _ _ q0) ?_
          refine wn_ifN (t := 69) (f := 61) rfl rfl rfl (by omega) (fun c5 => ?_) (fun c5 => ?_)
          · have c5 : 1 = 0 := c5
            exact absurd c5 (by decide)
          · have c5 : ¬ 1 = 0 := c5
            refine wn_ld (pc' := 62) (q := 3) (kin := 0) (v := .int (nI (0))) rfl (fun _ _ _ => rfl) rfl rfl ?_
            refine wn_ifN (t := 69) (f := 65) rfl rfl rfl (by omega) (fun c6 => ?_) (fun c6 => ?_)
            · have c6 : 0 = 0 := c6
              refine wn_ld (pc' := 70) (q := 3) (kin := 0) (v := .int (nI (0))) rfl (fun _ _ _ => rfl) rfl rfl ?_
              refine wn_ifN (t := 84) (f := 73) rfl rfl rfl (by omega) (fun c7 => ?_) (fun c7 => ?_)
              · have c7 : ¬ 0 = 0 := c7
                exact absurd c7 (by decide)
              · have c7 : 0 = 0 := c7
                refine wn_ld (pc' := 74) (q := 0) (kin := 2) (v := .ref (71)) rfl (fun _ _ _ => rfl) rfl rfl ?_
                refine wn_ic (pc' := 75) (w := nI 0) rfl rfl (by decide) ?_
                refine wn_sp (pc' := 78) (w := nI 999) rfl rfl (by decide) ?_
                refine wn_virS (pc' := 81) rfl rfl (by decide) rfl rfl q0 (Nat.le_of_ble_eq_true rfl) (m_num0 _ _ t n p hn hp hb th tl _ il up lo hv q0 q4 0 (by omega) (nI (999)) (999) (show (nI 999).toInt = 999 by decide) (by decide)) (fun r9 h8 e9 => ?_)
                obtain ⟨f_h8, ⟨w_h8, rfl, vl_h8, hv_h8, o_h8⟩ | ⟨w_h8, rfl, o_h8⟩⟩ := e9
                · have fr_h8 := Fr.tr (Fr.rfl' [71] h) f_h8 (fun _ q => q)
                  have := tkF_le (t := t) (p := (tkA t n p)) (tkA_le hp)
                  have := tkA_ge (t := t) (n := n) (p := (tkA t n p))
                  have := tkA_le (t := t) (p := (tkA t n p)) (tkA_le hp)
                  have := tkK_le (t := t) (n := n) (p := (tkA t n p))
                  have b1_h8 := w_h8.2.1
                  have b2_h8 := w_h8.2.2
                  have g_h8 := nm_gt w_h8
                  show Wn _ _ 81 _ [.int (nI (tkV t n p))] h8 _
                  refine wn_jp (pc' := 117) rfl rfl ?_
                  refine wn_st (pc' := 119) (q := 4) (kin := 0) (lv' := [(0, .ref (71)), (1, .int (nI (i))), (2, .int (nI (j))), (3, .int (nI (0))), (4, .int (nI (tkV t n p)))]) rfl (fun _ _ _ => rfl) rfl (Nat.le_of_ble_eq_true rfl) rfl ?_
                  refine wn_ld (pc' := 120) (q := 0) (kin := 2) (v := .ref (71)) rfl (fun _ _ _ => rfl) rfl rfl ?_
                  refine wn_virI (pc' := 123) rfl rfl (by decide) rfl rfl o_h8 (Nat.le_of_ble_eq_true rfl) (m_good0 _ _ _ _ _ _ _ _ _ _ _ _ _ o_h8) ?_
                  refine wn_ifN (t := 127) (f := 126) rfl rfl rfl (by omega) (fun c10 => ?_) (fun c10 => ?_)
                  · have c10 : ¬ 1 = 0 := c10
                    refine wn_sp (pc' := 130) (w := nI 576) rfl rfl (by decide) ?_
                    refine wn_ic (pc' := 131) (w := nI 3) rfl rfl (by decide) ?_
                    refine wn_ld (pc' := 132) (q := 0) (kin := 2) (v := .ref (71)) rfl (fun _ _ _ => rfl) rfl rfl ?_
                    refine wn_get (pc' := 135) (v := .ref (77)) rfl rfl o_h8 rfl ?_
                    refine wn_ic (pc' := 136) (w := nI 5) rfl rfl (by decide) ?_
                    refine wn_ialdv (pc' := 137) (j := 5) (v := (nI (npW w))) rfl rfl ((fr_h8.2 77 (by decide)).trans q6) rfl (by omega) (by decide) (e9) ?_
                    refine wn_mulN (pc' := 138) rfl rfl ?_
                    refine wn_addN (pc' := 139) rfl rfl ?_
                    refine wn_st (pc' := 141) (q := 5) (kin := 0) (lv' := [(0, .ref (71)), (1, .int (nI (i))), (2, .int (nI (j))), (3, .int (nI (0))), (4, .int (nI (tkV t n p))), (5, .int (nI (576 + (3 * (npW w)))))]) rfl (fun _ _ _ => rfl) rfl (Nat.le_of_ble_eq_true rfl) rfl ?_
                    refine wn_ld (pc' := 142) (q := 0) (kin := 2) (v := .ref (71)) rfl (fun _ _ _ => rfl) rfl rfl ?_
                    refine wn_get (pc' := 145) (v := .ref (77)) rfl rfl o_h8 rfl ?_
                    refine wn_ld (pc' := 147) (q := 5) (kin := 0) (v := .int (nI (576 + (3 * (npW w))))) rfl (fun _ _ _ => rfl) rfl rfl ?_
                    refine wn_ld (pc' := 148) (q := 2) (kin := 0) (v := .int (nI (j))) rfl (fun _ _ _ => rfl) rfl rfl ?_
                    refine wn_iast (pc' := 149) (j := 576 + (3 * (npW w))) rfl rfl ((fr_h8.2 77 (by decide)).trans q6) rfl (by omega) (by decide) ?_
                    refine wn_ld (pc' := 150) (q := 0) (kin := 2) (v := .ref (71)) rfl (fun _ _ _ => rfl) rfl rfl ?_
                    refine wn_get (pc' := 153) (v := .ref (77)) rfl rfl (gs_ne (by decide) o_h8) rfl ?_
                    refine wn_ld (pc' := 155) (q := 5) (kin := 0) (v := .int (nI (576 + (3 * (npW w))))) rfl (fun _ _ _ => rfl) rfl rfl ?_
                    refine wn_ic (pc' := 156) (w := nI 1) rfl rfl (by decide) ?_
                    refine wn_addN (pc' := 157) rfl rfl ?_
                    refine wn_ld (pc' := 158) (q := 3) (kin := 0) (v := .int (nI (0))) rfl (fun _ _ _ => rfl) rfl rfl ?_
                    refine wn_iast (pc' := 159) (j := (576 + (3 * (npW w))) + 1) rfl rfl (gs_self ((fr_h8.2 77 (by decide)).trans q6)) rfl (by omega) (by decide) ?_
                    refine wn_ld (pc' := 160) (q := 0) (kin := 2) (v := .ref (71)) rfl (fun _ _ _ => rfl) rfl rfl ?_
                    refine wn_get (pc' := 163) (v := .ref (77)) rfl rfl (gs_ne (by decide) (gs_ne (by decide) o_h8)) rfl ?_
                    refine wn_ld (pc' := 165) (q := 5) (kin := 0) (v := .int (nI (576 + (3 * (npW w))))) rfl (fun _ _ _ => rfl) rfl rfl ?_
                    refine wn_ic (pc' := 166) (w := nI 2) rfl rfl (by decide) ?_
                    refine wn_addN (pc' := 167) rfl rfl ?_
                    refine wn_ld (pc' := 169) (q := 4) (kin := 0) (v := .int (nI (tkV t n p))) rfl (fun _ _ _ => rfl) rfl rfl ?_
                    refine wn_iast (pc' := 170) (j := (576 + (3 * (npW w))) + 2) rfl rfl (gs_self (gs_self ((fr_h8.2 77 (by decide)).trans q6))) rfl (by omega) (by decide) ?_
                    refine wn_ld (pc' := 171) (q := 0) (kin := 2) (v := .ref (71)) rfl (fun _ _ _ => rfl) rfl rfl ?_
                    refine wn_get (pc' := 174) (v := .ref (77)) rfl rfl (gs_ne (by decide) (gs_ne (by decide) (gs_ne (by decide) o_h8))) rfl ?_
                    refine wn_ic (pc' := 175) (w := nI 5) rfl rfl (by decide) ?_
                    refine wn_pu (pc' := 176) (st' := [.int (nI (5)), .ref (77), .int (nI (5)), .ref (77)]) rfl (fun _ _ _ => rfl) rfl rfl ?_
                    refine wn_ialdv (pc' := 177) (j := 5) (v := (nI (npW w))) rfl rfl (gs_self (gs_self (gs_self ((fr_h8.2 77 (by decide)).trans q6)))) rfl (by omega) (by decide) ((pk_un (by omega)).trans ((pk_un (by omega)).trans ((pk_un (by omega)).trans (e9)))) ?_
                    refine wn_ic (pc' := 178) (w := nI 1) rfl rfl (by decide) ?_
                    refine wn_addN (pc' := 179) rfl rfl ?_
                    refine wn_iast (pc' := 180) (j := 5) rfl rfl (gs_self (gs_self (gs_self ((fr_h8.2 77 (by decide)).trans q6)))) rfl (by omega) (by decide) ?_
                    have eR : prtR t n (((vaW w i : Nat) : Int) - 1) j p w = .inr (tkA t n p, prtW w j 0 (tkV t n p)) := (pI_f c1).trans ((pI_f c2).trans ((pI_f c3).trans ((pI_f c4).trans (pI_t w_h8))))
                    exact wn_vret rfl rfl ⟨rfl, (Fr.st (Fr.st (Fr.st (Fr.st (Fr.tr (Fr.rfl' [71, 77] h) (fw fr_h8) (fun _ q => q)) (by decide)) (by decide)) (by decide)) (by decide)), by rw [eR]; exact MT_r hv_h8 (gs_ne (by decide) (gs_ne (by decide) (gs_ne (by decide) (gs_ne (by decide) o_h8)))) (gs_self (gs_self (gs_self (gs_self ((fr_h8.2 77 (by decide)).trans q6)))))⟩
                  · have c10 : 1 = 0 := c10
                    exact absurd c10 (by decide)
                · have fr_h8 := Fr.tr (Fr.rfl' [71] h) f_h8 (fun _ q => q)
                  show Wn _ _ 81 _ [.int (nI (0))] h8 _
                  refine wn_jp (pc' := 117) rfl rfl ?_
                  refine wn_st (pc' := 119) (q := 4) (kin := 0) (lv' := [(0, .ref (71)), (1, .int (nI (i))), (2, .int (nI (j))), (3, .int (nI (0))), (4, .int (nI (0)))]) rfl (fun _ _ _ => rfl) rfl (Nat.le_of_ble_eq_true rfl) rfl ?_
                  refine wn_ld (pc' := 120) (q := 0) (kin := 2) (v := .ref (71)) rfl (fun _ _ _ => rfl) rfl rfl ?_
                  refine wn_virI (pc' := 123) rfl rfl (by decide) rfl rfl o_h8 (Nat.le_of_ble_eq_true rfl) (m_goodB _ _ _ _ _ _ _ _ _ _ _ _ _ _ nmF_nz o_h8) ?_
                  refine wn_ifN (t := 127) (f := 126) rfl rfl rfl (by omega) (fun c11 => ?_) (fun c11 => ?_)
                  · have c11 : ¬ 0 = 0 := c11
                    exact absurd c11 (by decide)
                  · have c11 : 0 = 0 := c11
                    have eR : prtR t n (((vaW w i : Nat) : Int) - 1) j p w = .inl (nmF t n p, tkF t n p) := (pI_f c1).trans ((pI_f c2).trans ((pI_f c3).trans ((pI_f c4).trans (pI_f w_h8))))
                    exact wn_vret rfl rfl ⟨rfl, (Fr.tr (Fr.rfl' [71, 77] h) (fw fr_h8) (fun _ q => q)), by rw [eR]; exact MT_l nmF_nz o_h8 ((fr_h8.2 77 (by decide)).trans q6)⟩
            · have c6 : ¬ 0 = 0 := c6
              exact absurd c6 (by decide)
        · have c4 : (isWd t n p 13) := c4
          refine wn_ic (pc' := 49) (w := nI 4) rfl rfl (by decide) ?_
          refine wn_jp (pc' := 53) rfl rfl ?_
          refine wn_st (pc' := 54) (q := 3) (kin := 0) (lv' := [(0, .ref (71)), (1, .int (nI (i))), (2, .int (nI (j))), (3, .int (nI (4)))]) rfl (fun _ _ _ => rfl) rfl (Nat.le_of_ble_eq_true rfl) rfl ?_
          refine wn_ld (pc' := 55) (q := 0) (kin := 2) (v := .ref (71)) rfl (fun _ _ _ => rfl) rfl rfl ?_
          refine wn_virI (pc' := 58) rfl rfl (by decide) rfl rfl q0 (Nat.le_of_ble_eq_true rfl) (m_good0 _ _ _ _ _ _ _ _ _ _ _ _ _ q0) ?_
          refine wn_ifN (t := 69) (f := 61) rfl rfl rfl (by omega) (fun c12 => ?_) (fun c12 => ?_)
          · have c12 : 1 = 0 := c12
            exact absurd c12 (by decide)
          · have c12 : ¬ 1 = 0 := c12
            refine wn_ld (pc' := 62) (q := 3) (kin := 0) (v := .int (nI (4))) rfl (fun _ _ _ => rfl) rfl rfl ?_
            refine wn_ifN (t := 69) (f := 65) rfl rfl rfl (by omega) (fun c13 => ?_) (fun c13 => ?_)
            · have c13 : 4 = 0 := c13
              exact absurd c13 (by decide)
            · have c13 : ¬ 4 = 0 := c13
              refine wn_ld (pc' := 66) (q := 0) (kin := 2) (v := .ref (71)) rfl (fun _ _ _ => rfl) rfl rfl ?_
              refine wn_virS (pc' := 69) rfl rfl (by decide) rfl rfl q0 (Nat.le_of_ble_eq_true rfl) (m_advance _ _ t n (tkA t n p) hn (tkA_le hp) hb th tl _ _ _ (nI 0) (-1) il up lo q0 q4) (fun r9 h14 e15 => ?_)
              obtain ⟨rfl, f_h14, vl_h14, hv_h14, o_h14⟩ := e15
              have fr_h14 := Fr.tr (Fr.rfl' [71] h) f_h14 (fun _ q => q)
              have := tkF_le (t := t) (p := (tkA t n p)) (tkA_le hp)
              have := tkA_ge (t := t) (n := n) (p := (tkA t n p))
              have := tkA_le (t := t) (p := (tkA t n p)) (tkA_le hp)
              have := tkK_le (t := t) (n := n) (p := (tkA t n p))
              show Wn _ _ 69 _ [] h14 _
              refine wn_ld (pc' := 70) (q := 3) (kin := 0) (v := .int (nI (4))) rfl (fun _ _ _ => rfl) rfl rfl ?_
              refine wn_ifN (t := 84) (f := 73) rfl rfl rfl (by omega) (fun c16 => ?_) (fun c16 => ?_)
              · have c16 : ¬ 4 = 0 := c16
                refine wn_ld (pc' := 85) (q := 3) (kin := 0) (v := .int (nI (4))) rfl (fun _ _ _ => rfl) rfl rfl ?_
                refine wn_ic (pc' := 86) (w := nI 1) rfl rfl (by decide) ?_
                refine wn_icmpN (t := 94) (f := 89) rfl rfl rfl (by omega) (by omega) (fun c17 => ?_) (fun c17 => ?_)
                · have c17 : 4 = 1 := c17
                  exact absurd c17 (by decide)
                · have c17 : ¬ 4 = 1 := c17
                  refine wn_ld (pc' := 90) (q := 3) (kin := 0) (v := .int (nI (4))) rfl (fun _ _ _ => rfl) rfl rfl ?_
                  refine wn_ic (pc' := 91) (w := nI 2) rfl rfl (by decide) ?_
                  refine wn_icmpN (t := 116) (f := 94) rfl rfl rfl (by omega) (by omega) (fun c18 => ?_) (fun c18 => ?_)
                  · have c18 : ¬ 4 = 2 := c18
                    refine wn_ic (pc' := 117) (w := nI 0) rfl rfl (by decide) ?_
                    refine wn_st (pc' := 119) (q := 4) (kin := 0) (lv' := [(0, .ref (71)), (1, .int (nI (i))), (2, .int (nI (j))), (3, .int (nI (4))), (4, .int (nI (0)))]) rfl (fun _ _ _ => rfl) rfl (Nat.le_of_ble_eq_true rfl) rfl ?_
                    refine wn_ld (pc' := 120) (q := 0) (kin := 2) (v := .ref (71)) rfl (fun _ _ _ => rfl) rfl rfl ?_
                    refine wn_virI (pc' := 123) rfl rfl (by decide) rfl rfl o_h14 (Nat.le_of_ble_eq_true rfl) (m_good0 _ _ _ _ _ _ _ _ _ _ _ _ _ o_h14) ?_
                    refine wn_ifN (t := 127) (f := 126) rfl rfl rfl (by omega) (fun c19 => ?_) (fun c19 => ?_)
                    · have c19 : ¬ 1 = 0 := c19
                      refine wn_sp (pc' := 130) (w := nI 576) rfl rfl (by decide) ?_
                      refine wn_ic (pc' := 131) (w := nI 3) rfl rfl (by decide) ?_
                      refine wn_ld (pc' := 132) (q := 0) (kin := 2) (v := .ref (71)) rfl (fun _ _ _ => rfl) rfl rfl ?_
                      refine wn_get (pc' := 135) (v := .ref (77)) rfl rfl o_h14 rfl ?_
                      refine wn_ic (pc' := 136) (w := nI 5) rfl rfl (by decide) ?_
                      refine wn_ialdv (pc' := 137) (j := 5) (v := (nI (npW w))) rfl rfl ((fr_h14.2 77 (by decide)).trans q6) rfl (by omega) (by decide) (e9) ?_
                      refine wn_mulN (pc' := 138) rfl rfl ?_
                      refine wn_addN (pc' := 139) rfl rfl ?_
                      refine wn_st (pc' := 141) (q := 5) (kin := 0) (lv' := [(0, .ref (71)), (1, .int (nI (i))), (2, .int (nI (j))), (3, .int (nI (4))), (4, .int (nI (0))), (5, .int (nI (576 + (3 * (npW w)))))]) rfl (fun _ _ _ => rfl) rfl (Nat.le_of_ble_eq_true rfl) rfl ?_
                      refine wn_ld (pc' := 142) (q := 0) (kin := 2) (v := .ref (71)) rfl (fun _ _ _ => rfl) rfl rfl ?_
                      refine wn_get (pc' := 145) (v := .ref (77)) rfl rfl o_h14 rfl ?_
                      refine wn_ld (pc' := 147) (q := 5) (kin := 0) (v := .int (nI (576 + (3 * (npW w))))) rfl (fun _ _ _ => rfl) rfl rfl ?_
                      refine wn_ld (pc' := 148) (q := 2) (kin := 0) (v := .int (nI (j))) rfl (fun _ _ _ => rfl) rfl rfl ?_
                      refine wn_iast (pc' := 149) (j := 576 + (3 * (npW w))) rfl rfl ((fr_h14.2 77 (by decide)).trans q6) rfl (by omega) (by decide) ?_
                      refine wn_ld (pc' := 150) (q := 0) (kin := 2) (v := .ref (71)) rfl (fun _ _ _ => rfl) rfl rfl ?_
                      refine wn_get (pc' := 153) (v := .ref (77)) rfl rfl (gs_ne (by decide) o_h14) rfl ?_
                      refine wn_ld (pc' := 155) (q := 5) (kin := 0) (v := .int (nI (576 + (3 * (npW w))))) rfl (fun _ _ _ => rfl) rfl rfl ?_
                      refine wn_ic (pc' := 156) (w := nI 1) rfl rfl (by decide) ?_
                      refine wn_addN (pc' := 157) rfl rfl ?_
                      refine wn_ld (pc' := 158) (q := 3) (kin := 0) (v := .int (nI (4))) rfl (fun _ _ _ => rfl) rfl rfl ?_
                      refine wn_iast (pc' := 159) (j := (576 + (3 * (npW w))) + 1) rfl rfl (gs_self ((fr_h14.2 77 (by decide)).trans q6)) rfl (by omega) (by decide) ?_
                      refine wn_ld (pc' := 160) (q := 0) (kin := 2) (v := .ref (71)) rfl (fun _ _ _ => rfl) rfl rfl ?_
                      refine wn_get (pc' := 163) (v := .ref (77)) rfl rfl (gs_ne (by decide) (gs_ne (by decide) o_h14)) rfl ?_
                      refine wn_ld (pc' := 165) (q := 5) (kin := 0) (v := .int (nI (576 + (3 * (npW w))))) rfl (fun _ _ _ => rfl) rfl rfl ?_
                      refine wn_ic (pc' := 166) (w := nI 2) rfl rfl (by decide) ?_
                      refine wn_addN (pc' := 167) rfl rfl ?_
                      refine wn_ld (pc' := 169) (q := 4) (kin := 0) (v := .int (nI (0))) rfl (fun _ _ _ => rfl) rfl rfl ?_
                      refine wn_iast (pc' := 170) (j := (576 + (3 * (npW w))) + 2) rfl rfl (gs_self (gs_self ((fr_h14.2 77 (by decide)).trans q6))) rfl (by omega) (by decide) ?_
                      refine wn_ld (pc' := 171) (q := 0) (kin := 2) (v := .ref (71)) rfl (fun _ _ _ => rfl) rfl rfl ?_
                      refine wn_get (pc' := 174) (v := .ref (77)) rfl rfl (gs_ne (by decide) (gs_ne (by decide) (gs_ne (by decide) o_h14))) rfl ?_
                      refine wn_ic (pc' := 175) (w := nI 5) rfl rfl (by decide) ?_
                      refine wn_pu (pc' := 176) (st' := [.int (nI (5)), .ref (77), .int (nI (5)), .ref (77)]) rfl (fun _ _ _ => rfl) rfl rfl ?_
                      refine wn_ialdv (pc' := 177) (j := 5) (v := (nI (npW w))) rfl rfl (gs_self (gs_self (gs_self ((fr_h14.2 77 (by decide)).trans q6)))) rfl (by omega) (by decide) ((pk_un (by omega)).trans ((pk_un (by omega)).trans ((pk_un (by omega)).trans (e9)))) ?_
                      refine wn_ic (pc' := 178) (w := nI 1) rfl rfl (by decide) ?_
                      refine wn_addN (pc' := 179) rfl rfl ?_
                      refine wn_iast (pc' := 180) (j := 5) rfl rfl (gs_self (gs_self (gs_self ((fr_h14.2 77 (by decide)).trans q6)))) rfl (by omega) (by decide) ?_
                      have eR : prtR t n (((vaW w i : Nat) : Int) - 1) j p w = .inr (tkA t n p, prtW w j 4 (0)) := (pI_f c1).trans ((pI_f c2).trans ((pI_f c3).trans (pI_t c4)))
                      exact wn_vret rfl rfl ⟨rfl, (Fr.st (Fr.st (Fr.st (Fr.st (Fr.tr (Fr.rfl' [71, 77] h) (fw fr_h14) (fun _ q => q)) (by decide)) (by decide)) (by decide)) (by decide)), by rw [eR]; exact MT_r hv_h14 (gs_ne (by decide) (gs_ne (by decide) (gs_ne (by decide) (gs_ne (by decide) o_h14)))) (gs_self (gs_self (gs_self (gs_self ((fr_h14.2 77 (by decide)).trans q6)))))⟩
                    · have c19 : 1 = 0 := c19
                      exact absurd c19 (by decide)
                  · have c18 : 4 = 2 := c18
                    exact absurd c18 (by decide)
              · have c16 : 4 = 0 := c16
                exact absurd c16 (by decide)
      · have c3 : (isWd t n p 1) := c3
        refine wn_ic (pc' := 36) (w := nI 3) rfl rfl (by decide) ?_
        refine wn_jp (pc' := 53) rfl rfl ?_
        refine wn_st (pc' := 54) (q := 3) (kin := 0) (lv' := [(0, .ref (71)), (1, .int (nI (i))), (2, .int (nI (j))), (3, .int (nI (3)))]) rfl (fun _ _ _ => rfl) rfl (Nat.le_of_ble_eq_true rfl) rfl ?_
        refine wn_ld (pc' := 55) (q := 0) (kin := 2) (v := .ref (71)) rfl (fun _ _ _ => rfl) rfl rfl ?_
        refine wn_virI (pc' := 58) rfl rfl (by decide) rfl rfl q0 (Nat.le_of_ble_eq_true rfl) (m_good0 _ _ _ _ _ _ _ _ _ _ _ _ _ q0) ?_
        refine wn_ifN (t := 69) (f := 61) rfl rfl rfl (by omega) (fun c20 => ?_) (fun c20 => ?_)
        · have c20 : 1 = 0 := c20
          exact absurd c20 (by decide)
        · have c20 : ¬ 1 = 0 := c20
          refine wn_ld (pc' := 62) (q := 3) (kin := 0) (v := .int (nI (3))) rfl (fun _ _ _ => rfl) rfl rfl ?_
          refine wn_ifN (t := 69) (f := 65) rfl rfl rfl (by omega) (fun c21 => ?_) (fun c21 => ?_)
          · have c21 : 3 = 0 := c21
            exact absurd c21 (by decide)
          · have c21 : ¬ 3 = 0 := c21
            refine wn_ld (pc' := 66) (q := 0) (kin := 2) (v := .ref (71)) rfl (fun _ _ _ => rfl) rfl rfl ?_
            refine wn_virS (pc' := 69) rfl rfl (by decide) rfl rfl q0 (Nat.le_of_ble_eq_true rfl) (m_advance _ _ t n (tkA t n p) hn (tkA_le hp) hb th tl _ _ _ (nI 0) (-1) il up lo q0 q4) (fun r9 h22 e23 => ?_)
            obtain ⟨rfl, f_h22, vl_h22, hv_h22, o_h22⟩ := e23
            have fr_h22 := Fr.tr (Fr.rfl' [71] h) f_h22 (fun _ q => q)
            have := tkF_le (t := t) (p := (tkA t n p)) (tkA_le hp)
            have := tkA_ge (t := t) (n := n) (p := (tkA t n p))
            have := tkA_le (t := t) (p := (tkA t n p)) (tkA_le hp)
            have := tkK_le (t := t) (n := n) (p := (tkA t n p))
            show Wn _ _ 69 _ [] h22 _
            refine wn_ld (pc' := 70) (q := 3) (kin := 0) (v := .int (nI (3))) rfl (fun _ _ _ => rfl) rfl rfl ?_
            refine wn_ifN (t := 84) (f := 73) rfl rfl rfl (by omega) (fun c24 => ?_) (fun c24 => ?_)
            · have c24 : ¬ 3 = 0 := c24
              refine wn_ld (pc' := 85) (q := 3) (kin := 0) (v := .int (nI (3))) rfl (fun _ _ _ => rfl) rfl rfl ?_
              refine wn_ic (pc' := 86) (w := nI 1) rfl rfl (by decide) ?_
              refine wn_icmpN (t := 94) (f := 89) rfl rfl rfl (by omega) (by omega) (fun c25 => ?_) (fun c25 => ?_)
              · have c25 : 3 = 1 := c25
                exact absurd c25 (by decide)
              · have c25 : ¬ 3 = 1 := c25
                refine wn_ld (pc' := 90) (q := 3) (kin := 0) (v := .int (nI (3))) rfl (fun _ _ _ => rfl) rfl rfl ?_
                refine wn_ic (pc' := 91) (w := nI 2) rfl rfl (by decide) ?_
                refine wn_icmpN (t := 116) (f := 94) rfl rfl rfl (by omega) (by omega) (fun c26 => ?_) (fun c26 => ?_)
                · have c26 : ¬ 3 = 2 := c26
                  refine wn_ic (pc' := 117) (w := nI 0) rfl rfl (by decide) ?_
                  refine wn_st (pc' := 119) (q := 4) (kin := 0) (lv' := [(0, .ref (71)), (1, .int (nI (i))), (2, .int (nI (j))), (3, .int (nI (3))), (4, .int (nI (0)))]) rfl (fun _ _ _ => rfl) rfl (Nat.le_of_ble_eq_true rfl) rfl ?_
                  refine wn_ld (pc' := 120) (q := 0) (kin := 2) (v := .ref (71)) rfl (fun _ _ _ => rfl) rfl rfl ?_
                  refine wn_virI (pc' := 123) rfl rfl (by decide) rfl rfl o_h22 (Nat.le_of_ble_eq_true rfl) (m_good0 _ _ _ _ _ _ _ _ _ _ _ _ _ o_h22) ?_
                  refine wn_ifN (t := 127) (f := 126) rfl rfl rfl (by omega) (fun c27 => ?_) (fun c27 => ?_)
                  · have c27 : ¬ 1 = 0 := c27
                    refine wn_sp (pc' := 130) (w := nI 576) rfl rfl (by decide) ?_
                    refine wn_ic (pc' := 131) (w := nI 3) rfl rfl (by decide) ?_
                    refine wn_ld (pc' := 132) (q := 0) (kin := 2) (v := .ref (71)) rfl (fun _ _ _ => rfl) rfl rfl ?_
                    refine wn_get (pc' := 135) (v := .ref (77)) rfl rfl o_h22 rfl ?_
                    refine wn_ic (pc' := 136) (w := nI 5) rfl rfl (by decide) ?_
                    refine wn_ialdv (pc' := 137) (j := 5) (v := (nI (npW w))) rfl rfl ((fr_h22.2 77 (by decide)).trans q6) rfl (by omega) (by decide) (e9) ?_
                    refine wn_mulN (pc' := 138) rfl rfl ?_
                    refine wn_addN (pc' := 139) rfl rfl ?_
                    refine wn_st (pc' := 141) (q := 5) (kin := 0) (lv' := [(0, .ref (71)), (1, .int (nI (i))), (2, .int (nI (j))), (3, .int (nI (3))), (4, .int (nI (0))), (5, .int (nI (576 + (3 * (npW w)))))]) rfl (fun _ _ _ => rfl) rfl (Nat.le_of_ble_eq_true rfl) rfl ?_
                    refine wn_ld (pc' := 142) (q := 0) (kin := 2) (v := .ref (71)) rfl (fun _ _ _ => rfl) rfl rfl ?_
                    refine wn_get (pc' := 145) (v := .ref (77)) rfl rfl o_h22 rfl ?_
                    refine wn_ld (pc' := 147) (q := 5) (kin := 0) (v := .int (nI (576 + (3 * (npW w))))) rfl (fun _ _ _ => rfl) rfl rfl ?_
                    refine wn_ld (pc' := 148) (q := 2) (kin := 0) (v := .int (nI (j))) rfl (fun _ _ _ => rfl) rfl rfl ?_
                    refine wn_iast (pc' := 149) (j := 576 + (3 * (npW w))) rfl rfl ((fr_h22.2 77 (by decide)).trans q6) rfl (by omega) (by decide) ?_
                    refine wn_ld (pc' := 150) (q := 0) (kin := 2) (v := .ref (71)) rfl (fun _ _ _ => rfl) rfl rfl ?_
                    refine wn_get (pc' := 153) (v := .ref (77)) rfl rfl (gs_ne (by decide) o_h22) rfl ?_
                    refine wn_ld (pc' := 155) (q := 5) (kin := 0) (v := .int (nI (576 + (3 * (npW w))))) rfl (fun _ _ _ => rfl) rfl rfl ?_
                    refine wn_ic (pc' := 156) (w := nI 1) rfl rfl (by decide) ?_
                    refine wn_addN (pc' := 157) rfl rfl ?_
                    refine wn_ld (pc' := 158) (q := 3) (kin := 0) (v := .int (nI (3))) rfl (fun _ _ _ => rfl) rfl rfl ?_
                    refine wn_iast (pc' := 159) (j := (576 + (3 * (npW w))) + 1) rfl rfl (gs_self ((fr_h22.2 77 (by decide)).trans q6)) rfl (by omega) (by decide) ?_
                    refine wn_ld (pc' := 160) (q := 0) (kin := 2) (v := .ref (71)) rfl (fun _ _ _ => rfl) rfl rfl ?_
                    refine wn_get (pc' := 163) (v := .ref (77)) rfl rfl (gs_ne (by decide) (gs_ne (by decide) o_h22)) rfl ?_
                    refine wn_ld (pc' := 165) (q := 5) (kin := 0) (v := .int (nI (576 + (3 * (npW w))))) rfl (fun _ _ _ => rfl) rfl rfl ?_
                    refine wn_ic (pc' := 166) (w := nI 2) rfl rfl (by decide) ?_
                    refine wn_addN (pc' := 167) rfl rfl ?_
                    refine wn_ld (pc' := 169) (q := 4) (kin := 0) (v := .int (nI (0))) rfl (fun _ _ _ => rfl) rfl rfl ?_
                    refine wn_iast (pc' := 170) (j := (576 + (3 * (npW w))) + 2) rfl rfl (gs_self (gs_self ((fr_h22.2 77 (by decide)).trans q6))) rfl (by omega) (by decide) ?_
                    refine wn_ld (pc' := 171) (q := 0) (kin := 2) (v := .ref (71)) rfl (fun _ _ _ => rfl) rfl rfl ?_
                    refine wn_get (pc' := 174) (v := .ref (77)) rfl rfl (gs_ne (by decide) (gs_ne (by decide) (gs_ne (by decide) o_h22))) rfl ?_
                    refine wn_ic (pc' := 175) (w := nI 5) rfl rfl (by decide) ?_
                    refine wn_pu (pc' := 176) (st' := [.int (nI (5)), .ref (77), .int (nI (5)), .ref (77)]) rfl (fun _ _ _ => rfl) rfl rfl ?_
                    refine wn_ialdv (pc' := 177) (j := 5) (v := (nI (npW w))) rfl rfl (gs_self (gs_self (gs_self ((fr_h22.2 77 (by decide)).trans q6)))) rfl (by omega) (by decide) ((pk_un (by omega)).trans ((pk_un (by omega)).trans ((pk_un (by omega)).trans (e9)))) ?_
                    refine wn_ic (pc' := 178) (w := nI 1) rfl rfl (by decide) ?_
                    refine wn_addN (pc' := 179) rfl rfl ?_
                    refine wn_iast (pc' := 180) (j := 5) rfl rfl (gs_self (gs_self (gs_self ((fr_h22.2 77 (by decide)).trans q6)))) rfl (by omega) (by decide) ?_
                    have eR : prtR t n (((vaW w i : Nat) : Int) - 1) j p w = .inr (tkA t n p, prtW w j 3 (0)) := (pI_f c1).trans ((pI_f c2).trans (pI_t c3))
                    exact wn_vret rfl rfl ⟨rfl, (Fr.st (Fr.st (Fr.st (Fr.st (Fr.tr (Fr.rfl' [71, 77] h) (fw fr_h22) (fun _ q => q)) (by decide)) (by decide)) (by decide)) (by decide)), by rw [eR]; exact MT_r hv_h22 (gs_ne (by decide) (gs_ne (by decide) (gs_ne (by decide) (gs_ne (by decide) o_h22)))) (gs_self (gs_self (gs_self (gs_self ((fr_h22.2 77 (by decide)).trans q6)))))⟩
                  · have c27 : 1 = 0 := c27
                    exact absurd c27 (by decide)
                · have c26 : 3 = 2 := c26
                  exact absurd c26 (by decide)
            · have c24 : 3 = 0 := c24
              exact absurd c24 (by decide)
    · have c2 : (isWd t n p 12) := c2
      refine wn_ic (pc' := 23) (w := nI 2) rfl rfl (by decide) ?_
      refine wn_jp (pc' := 53) rfl rfl ?_
      refine wn_st (pc' := 54) (q := 3) (kin := 0) (lv' := [(0, .ref (71)), (1, .int (nI (i))), (2, .int (nI (j))), (3, .int (nI (2)))]) rfl (fun _ _ _ => rfl) rfl (Nat.le_of_ble_eq_true rfl) rfl ?_
      refine wn_ld (pc' := 55) (q := 0) (kin := 2) (v := .ref (71)) rfl (fun _ _ _ => rfl) rfl rfl ?_
      refine wn_virI (pc' := 58) rfl rfl (by decide) rfl rfl q0 (Nat.le_of_ble_eq_true rfl) (m_good0 _ _ _ _ _ _ _ _ _ _ _ _ _ q0) ?_
      refine wn_ifN (t := 69) (f := 61) rfl rfl rfl (by omega) (fun c28 => ?_) (fun c28 => ?_)
      · have c28 : 1 = 0 := c28
        exact absurd c28 (by decide)
      · have c28 : ¬ 1 = 0 := c28
        refine wn_ld (pc' := 62) (q := 3) (kin := 0) (v := .int (nI (2))) rfl (fun _ _ _ => rfl) rfl rfl ?_
        refine wn_ifN (t := 69) (f := 65) rfl rfl rfl (by omega) (fun c29 => ?_) (fun c29 => ?_)
        · have c29 : 2 = 0 := c29
          exact absurd c29 (by decide)
        · have c29 : ¬ 2 = 0 := c29
          refine wn_ld (pc' := 66) (q := 0) (kin := 2) (v := .ref (71)) rfl (fun _ _ _ => rfl) rfl rfl ?_
          refine wn_virS (pc' := 69) rfl rfl (by decide) rfl rfl q0 (Nat.le_of_ble_eq_true rfl) (m_advance _ _ t n (tkA t n p) hn (tkA_le hp) hb th tl _ _ _ (nI 0) (-1) il up lo q0 q4) (fun r9 h30 e31 => ?_)
          obtain ⟨rfl, f_h30, vl_h30, hv_h30, o_h30⟩ := e31
          have fr_h30 := Fr.tr (Fr.rfl' [71] h) f_h30 (fun _ q => q)
          have := tkF_le (t := t) (p := (tkA t n p)) (tkA_le hp)
          have := tkA_ge (t := t) (n := n) (p := (tkA t n p))
          have := tkA_le (t := t) (p := (tkA t n p)) (tkA_le hp)
          have := tkK_le (t := t) (n := n) (p := (tkA t n p))
          show Wn _ _ 69 _ [] h30 _
          refine wn_ld (pc' := 70) (q := 3) (kin := 0) (v := .int (nI (2))) rfl (fun _ _ _ => rfl) rfl rfl ?_
          refine wn_ifN (t := 84) (f := 73) rfl rfl rfl (by omega) (fun c32 => ?_) (fun c32 => ?_)
          · have c32 : ¬ 2 = 0 := c32
            refine wn_ld (pc' := 85) (q := 3) (kin := 0) (v := .int (nI (2))) rfl (fun _ _ _ => rfl) rfl rfl ?_
            refine wn_ic (pc' := 86) (w := nI 1) rfl rfl (by decide) ?_
            refine wn_icmpN (t := 94) (f := 89) rfl rfl rfl (by omega) (by omega) (fun c33 => ?_) (fun c33 => ?_)
            · have c33 : 2 = 1 := c33
              exact absurd c33 (by decide)
            · have c33 : ¬ 2 = 1 := c33
              refine wn_ld (pc' := 90) (q := 3) (kin := 0) (v := .int (nI (2))) rfl (fun _ _ _ => rfl) rfl rfl ?_
              refine wn_ic (pc' := 91) (w := nI 2) rfl rfl (by decide) ?_
              refine wn_icmpN (t := 116) (f := 94) rfl rfl rfl (by omega) (by omega) (fun c34 => ?_) (fun c34 => ?_)
              · have c34 : ¬ 2 = 2 := c34
                exact absurd c34 (by decide)
              · have c34 : 2 = 2 := c34
                refine wn_ld (pc' := 95) (q := 0) (kin := 2) (v := .ref (71)) rfl (fun _ _ _ => rfl) rfl rfl ?_
                refine wn_ic (pc' := 96) (w := nI 0) rfl rfl (by decide) ?_
                refine wn_ld (pc' := 97) (q := 0) (kin := 2) (v := .ref (71)) rfl (fun _ _ _ => rfl) rfl rfl ?_
                refine wn_get (pc' := 100) (v := .ref (77)) rfl rfl o_h30 rfl ?_
                refine wn_sp (pc' := 103) (w := nI 176) rfl rfl (by decide) ?_
                refine wn_ic (pc' := 104) (w := nI 4) rfl rfl (by decide) ?_
                refine wn_ld (pc' := 105) (q := 1) (kin := 0) (v := .int (nI (i))) rfl (fun _ _ _ => rfl) rfl rfl ?_
                refine wn_mulN (pc' := 106) rfl rfl ?_
                refine wn_addN (pc' := 107) rfl rfl ?_
                have := wf_vab hJ.wf (show i < ntW w by omega)
                refine wn_ialdv (pc' := 108) (j := 176 + (4 * i)) (v := (nI (vaW w i))) rfl rfl ((fr_h30.2 77 (by decide)).trans q6) rfl (by omega) (by decide) (wf_va hJ.wf (by omega)) ?_
                refine wn_ic (pc' := 109) (w := nI 1) rfl rfl (by decide) ?_
                refine wn_pu (pc' := 110) (st' := [.int ((nI (vaW w i)) - (nI (1))), .int (nI (0)), .ref (71)]) rfl (fun _ _ _ => rfl) rfl rfl ?_
                refine wn_virS (pc' := 113) rfl rfl (by decide) rfl rfl o_h30 (Nat.le_of_ble_eq_true rfl) (m_num0 _ _ t n (tkA t n p) hn (tkA_le hp) hb th tl _ il up lo hv_h30 o_h30 ((fr_h30.2 75 (by decide)).trans q4) 0 (by omega) ((nI (vaW w i)) - (nI (1))) (((vaW w i : Nat) : Int) - 1) (sub1 (by omega)) (by omega)) (fun r9 h35 e36 => ?_)
                obtain ⟨f_h35, ⟨w_h35, rfl, vl_h35, hv_h35, o_h35⟩ | ⟨w_h35, rfl, o_h35⟩⟩ := e36
                · have fr_h35 := Fr.tr fr_h30 f_h35 (fun _ q => q)
                  have := tkF_le (t := t) (p := (tkA t n (tkA t n p))) (tkA_le (tkA_le hp))
                  have := tkA_ge (t := t) (n := n) (p := (tkA t n (tkA t n p)))
                  have := tkA_le (t := t) (p := (tkA t n (tkA t n p))) (tkA_le (tkA_le hp))
                  have := tkK_le (t := t) (n := n) (p := (tkA t n (tkA t n p)))
                  have b1_h35 := w_h35.2.1
                  have b2_h35 := w_h35.2.2
                  have g_h35 := nm_gt w_h35
                  show Wn _ _ 113 _ [.int (nI (tkV t n (tkA t n p)))] h35 _
                  refine wn_jp (pc' := 117) rfl rfl ?_
                  refine wn_st (pc' := 119) (q := 4) (kin := 0) (lv' := [(0, .ref (71)), (1, .int (nI (i))), (2, .int (nI (j))), (3, .int (nI (2))), (4, .int (nI (tkV t n (tkA t n p))))]) rfl (fun _ _ _ => rfl) rfl (Nat.le_of_ble_eq_true rfl) rfl ?_
                  refine wn_ld (pc' := 120) (q := 0) (kin := 2) (v := .ref (71)) rfl (fun _ _ _ => rfl) rfl rfl ?_
                  refine wn_virI (pc' := 123) rfl rfl (by decide) rfl rfl o_h35 (Nat.le_of_ble_eq_true rfl) (m_good0 _ _ _ _ _ _ _ _ _ _ _ _ _ o_h35) ?_
                  refine wn_ifN (t := 127) (f := 126) rfl rfl rfl (by omega) (fun c37 => ?_) (fun c37 => ?_)
                  · have c37 : ¬ 1 = 0 := c37
                    refine wn_sp (pc' := 130) (w := nI 576) rfl rfl (by decide) ?_
                    refine wn_ic (pc' := 131) (w := nI 3) rfl rfl (by decide) ?_
                    refine wn_ld (pc' := 132) (q := 0) (kin := 2) (v := .ref (71)) rfl (fun _ _ _ => rfl) rfl rfl ?_
                    refine wn_get (pc' := 135) (v := .ref (77)) rfl rfl o_h35 rfl ?_
                    refine wn_ic (pc' := 136) (w := nI 5) rfl rfl (by decide) ?_
                    refine wn_ialdv (pc' := 137) (j := 5) (v := (nI (npW w))) rfl rfl ((fr_h35.2 77 (by decide)).trans q6) rfl (by omega) (by decide) (e9) ?_
                    refine wn_mulN (pc' := 138) rfl rfl ?_
                    refine wn_addN (pc' := 139) rfl rfl ?_
                    refine wn_st (pc' := 141) (q := 5) (kin := 0) (lv' := [(0, .ref (71)), (1, .int (nI (i))), (2, .int (nI (j))), (3, .int (nI (2))), (4, .int (nI (tkV t n (tkA t n p)))), (5, .int (nI (576 + (3 * (npW w)))))]) rfl (fun _ _ _ => rfl) rfl (Nat.le_of_ble_eq_true rfl) rfl ?_
                    refine wn_ld (pc' := 142) (q := 0) (kin := 2) (v := .ref (71)) rfl (fun _ _ _ => rfl) rfl rfl ?_
                    refine wn_get (pc' := 145) (v := .ref (77)) rfl rfl o_h35 rfl ?_
                    refine wn_ld (pc' := 147) (q := 5) (kin := 0) (v := .int (nI (576 + (3 * (npW w))))) rfl (fun _ _ _ => rfl) rfl rfl ?_
                    refine wn_ld (pc' := 148) (q := 2) (kin := 0) (v := .int (nI (j))) rfl (fun _ _ _ => rfl) rfl rfl ?_
                    refine wn_iast (pc' := 149) (j := 576 + (3 * (npW w))) rfl rfl ((fr_h35.2 77 (by decide)).trans q6) rfl (by omega) (by decide) ?_
                    refine wn_ld (pc' := 150) (q := 0) (kin := 2) (v := .ref (71)) rfl (fun _ _ _ => rfl) rfl rfl ?_
                    refine wn_get (pc' := 153) (v := .ref (77)) rfl rfl (gs_ne (by decide) o_h35) rfl ?_
                    refine wn_ld (pc' := 155) (q := 5) (kin := 0) (v := .int (nI (576 + (3 * (npW w))))) rfl (fun _ _ _ => rfl) rfl rfl ?_
                    refine wn_ic (pc' := 156) (w := nI 1) rfl rfl (by decide) ?_
                    refine wn_addN (pc' := 157) rfl rfl ?_
                    refine wn_ld (pc' := 158) (q := 3) (kin := 0) (v := .int (nI (2))) rfl (fun _ _ _ => rfl) rfl rfl ?_
                    refine wn_iast (pc' := 159) (j := (576 + (3 * (npW w))) + 1) rfl rfl (gs_self ((fr_h35.2 77 (by decide)).trans q6)) rfl (by omega) (by decide) ?_
                    refine wn_ld (pc' := 160) (q := 0) (kin := 2) (v := .ref (71)) rfl (fun _ _ _ => rfl) rfl rfl ?_
                    refine wn_get (pc' := 163) (v := .ref (77)) rfl rfl (gs_ne (by decide) (gs_ne (by decide) o_h35)) rfl ?_
                    refine wn_ld (pc' := 165) (q := 5) (kin := 0) (v := .int (nI (576 + (3 * (npW w))))) rfl (fun _ _ _ => rfl) rfl rfl ?_
                    refine wn_ic (pc' := 166) (w := nI 2) rfl rfl (by decide) ?_
                    refine wn_addN (pc' := 167) rfl rfl ?_
                    refine wn_ld (pc' := 169) (q := 4) (kin := 0) (v := .int (nI (tkV t n (tkA t n p)))) rfl (fun _ _ _ => rfl) rfl rfl ?_
                    refine wn_iast (pc' := 170) (j := (576 + (3 * (npW w))) + 2) rfl rfl (gs_self (gs_self ((fr_h35.2 77 (by decide)).trans q6))) rfl (by omega) (by decide) ?_
                    refine wn_ld (pc' := 171) (q := 0) (kin := 2) (v := .ref (71)) rfl (fun _ _ _ => rfl) rfl rfl ?_
                    refine wn_get (pc' := 174) (v := .ref (77)) rfl rfl (gs_ne (by decide) (gs_ne (by decide) (gs_ne (by decide) o_h35))) rfl ?_
                    refine wn_ic (pc' := 175) (w := nI 5) rfl rfl (by decide) ?_
                    refine wn_pu (pc' := 176) (st' := [.int (nI (5)), .ref (77), .int (nI (5)), .ref (77)]) rfl (fun _ _ _ => rfl) rfl rfl ?_
                    refine wn_ialdv (pc' := 177) (j := 5) (v := (nI (npW w))) rfl rfl (gs_self (gs_self (gs_self ((fr_h35.2 77 (by decide)).trans q6)))) rfl (by omega) (by decide) ((pk_un (by omega)).trans ((pk_un (by omega)).trans ((pk_un (by omega)).trans (e9)))) ?_
                    refine wn_ic (pc' := 178) (w := nI 1) rfl rfl (by decide) ?_
                    refine wn_addN (pc' := 179) rfl rfl ?_
                    refine wn_iast (pc' := 180) (j := 5) rfl rfl (gs_self (gs_self (gs_self ((fr_h35.2 77 (by decide)).trans q6)))) rfl (by omega) (by decide) ?_
                    have eR : prtR t n (((vaW w i : Nat) : Int) - 1) j p w = .inr (tkA t n (tkA t n p), prtW w j 2 (tkV t n (tkA t n p))) := (pI_f c1).trans ((pI_t c2).trans (pI_t w_h35))
                    exact wn_vret rfl rfl ⟨rfl, (Fr.st (Fr.st (Fr.st (Fr.st (Fr.tr (Fr.rfl' [71, 77] h) (fw fr_h35) (fun _ q => q)) (by decide)) (by decide)) (by decide)) (by decide)), by rw [eR]; exact MT_r hv_h35 (gs_ne (by decide) (gs_ne (by decide) (gs_ne (by decide) (gs_ne (by decide) o_h35)))) (gs_self (gs_self (gs_self (gs_self ((fr_h35.2 77 (by decide)).trans q6)))))⟩
                  · have c37 : 1 = 0 := c37
                    exact absurd c37 (by decide)
                · have fr_h35 := Fr.tr fr_h30 f_h35 (fun _ q => q)
                  show Wn _ _ 113 _ [.int (nI (0))] h35 _
                  refine wn_jp (pc' := 117) rfl rfl ?_
                  refine wn_st (pc' := 119) (q := 4) (kin := 0) (lv' := [(0, .ref (71)), (1, .int (nI (i))), (2, .int (nI (j))), (3, .int (nI (2))), (4, .int (nI (0)))]) rfl (fun _ _ _ => rfl) rfl (Nat.le_of_ble_eq_true rfl) rfl ?_
                  refine wn_ld (pc' := 120) (q := 0) (kin := 2) (v := .ref (71)) rfl (fun _ _ _ => rfl) rfl rfl ?_
                  refine wn_virI (pc' := 123) rfl rfl (by decide) rfl rfl o_h35 (Nat.le_of_ble_eq_true rfl) (m_goodB _ _ _ _ _ _ _ _ _ _ _ _ _ _ nmF_nz o_h35) ?_
                  refine wn_ifN (t := 127) (f := 126) rfl rfl rfl (by omega) (fun c38 => ?_) (fun c38 => ?_)
                  · have c38 : ¬ 0 = 0 := c38
                    exact absurd c38 (by decide)
                  · have c38 : 0 = 0 := c38
                    have eR : prtR t n (((vaW w i : Nat) : Int) - 1) j p w = .inl (nmF t n (tkA t n p), tkF t n (tkA t n p)) := (pI_f c1).trans ((pI_t c2).trans (pI_f w_h35))
                    exact wn_vret rfl rfl ⟨rfl, (Fr.tr (Fr.rfl' [71, 77] h) (fw fr_h35) (fun _ q => q)), by rw [eR]; exact MT_l nmF_nz o_h35 ((fr_h35.2 77 (by decide)).trans q6)⟩
          · have c32 : 2 = 0 := c32
            exact absurd c32 (by decide)
  · have c1 : (isWd t n p 11) := c1
    refine wn_ic (pc' := 10) (w := nI 1) rfl rfl (by decide) ?_
    refine wn_jp (pc' := 53) rfl rfl ?_
    refine wn_st (pc' := 54) (q := 3) (kin := 0) (lv' := [(0, .ref (71)), (1, .int (nI (i))), (2, .int (nI (j))), (3, .int (nI (1)))]) rfl (fun _ _ _ => rfl) rfl (Nat.le_of_ble_eq_true rfl) rfl ?_
    refine wn_ld (pc' := 55) (q := 0) (kin := 2) (v := .ref (71)) rfl (fun _ _ _ => rfl) rfl rfl ?_
    refine wn_virI (pc' := 58) rfl rfl (by decide) rfl rfl q0 (Nat.le_of_ble_eq_true rfl) (m_good0 _ _ _ _ _ _ _ _ _ _ _ _ _ q0) ?_
    refine wn_ifN (t := 69) (f := 61) rfl rfl rfl (by omega) (fun c39 => ?_) (fun c39 => ?_)
    · have c39 : 1 = 0 := c39
      exact absurd c39 (by decide)
    · have c39 : ¬ 1 = 0 := c39
      refine wn_ld (pc' := 62) (q := 3) (kin := 0) (v := .int (nI (1))) rfl (fun _ _ _ => rfl) rfl rfl ?_
      refine wn_ifN (t := 69) (f := 65) rfl rfl rfl (by omega) (fun c40 => ?_) (fun c40 => ?_)
      · have c40 : 1 = 0 := c40
        exact absurd c40 (by decide)
      · have c40 : ¬ 1 = 0 := c40
        refine wn_ld (pc' := 66) (q := 0) (kin := 2) (v := .ref (71)) rfl (fun _ _ _ => rfl) rfl rfl ?_
        refine wn_virS (pc' := 69) rfl rfl (by decide) rfl rfl q0 (Nat.le_of_ble_eq_true rfl) (m_advance _ _ t n (tkA t n p) hn (tkA_le hp) hb th tl _ _ _ (nI 0) (-1) il up lo q0 q4) (fun r9 h41 e42 => ?_)
        obtain ⟨rfl, f_h41, vl_h41, hv_h41, o_h41⟩ := e42
        have fr_h41 := Fr.tr (Fr.rfl' [71] h) f_h41 (fun _ q => q)
        have := tkF_le (t := t) (p := (tkA t n p)) (tkA_le hp)
        have := tkA_ge (t := t) (n := n) (p := (tkA t n p))
        have := tkA_le (t := t) (p := (tkA t n p)) (tkA_le hp)
        have := tkK_le (t := t) (n := n) (p := (tkA t n p))
        show Wn _ _ 69 _ [] h41 _
        refine wn_ld (pc' := 70) (q := 3) (kin := 0) (v := .int (nI (1))) rfl (fun _ _ _ => rfl) rfl rfl ?_
        refine wn_ifN (t := 84) (f := 73) rfl rfl rfl (by omega) (fun c43 => ?_) (fun c43 => ?_)
        · have c43 : ¬ 1 = 0 := c43
          refine wn_ld (pc' := 85) (q := 3) (kin := 0) (v := .int (nI (1))) rfl (fun _ _ _ => rfl) rfl rfl ?_
          refine wn_ic (pc' := 86) (w := nI 1) rfl rfl (by decide) ?_
          refine wn_icmpN (t := 94) (f := 89) rfl rfl rfl (by omega) (by omega) (fun c44 => ?_) (fun c44 => ?_)
          · have c44 : 1 = 1 := c44
            refine wn_ld (pc' := 95) (q := 0) (kin := 2) (v := .ref (71)) rfl (fun _ _ _ => rfl) rfl rfl ?_
            refine wn_ic (pc' := 96) (w := nI 0) rfl rfl (by decide) ?_
            refine wn_ld (pc' := 97) (q := 0) (kin := 2) (v := .ref (71)) rfl (fun _ _ _ => rfl) rfl rfl ?_
            refine wn_get (pc' := 100) (v := .ref (77)) rfl rfl o_h41 rfl ?_
            refine wn_sp (pc' := 103) (w := nI 176) rfl rfl (by decide) ?_
            refine wn_ic (pc' := 104) (w := nI 4) rfl rfl (by decide) ?_
            refine wn_ld (pc' := 105) (q := 1) (kin := 0) (v := .int (nI (i))) rfl (fun _ _ _ => rfl) rfl rfl ?_
            refine wn_mulN (pc' := 106) rfl rfl ?_
            refine wn_addN (pc' := 107) rfl rfl ?_
            have := wf_vab hJ.wf (show i < ntW w by omega)
            refine wn_ialdv (pc' := 108) (j := 176 + (4 * i)) (v := (nI (vaW w i))) rfl rfl ((fr_h41.2 77 (by decide)).trans q6) rfl (by omega) (by decide) (wf_va hJ.wf (by omega)) ?_
            refine wn_ic (pc' := 109) (w := nI 1) rfl rfl (by decide) ?_
            refine wn_pu (pc' := 110) (st' := [.int ((nI (vaW w i)) - (nI (1))), .int (nI (0)), .ref (71)]) rfl (fun _ _ _ => rfl) rfl rfl ?_
            refine wn_virS (pc' := 113) rfl rfl (by decide) rfl rfl o_h41 (Nat.le_of_ble_eq_true rfl) (m_num0 _ _ t n (tkA t n p) hn (tkA_le hp) hb th tl _ il up lo hv_h41 o_h41 ((fr_h41.2 75 (by decide)).trans q4) 0 (by omega) ((nI (vaW w i)) - (nI (1))) (((vaW w i : Nat) : Int) - 1) (sub1 (by omega)) (by omega)) (fun r9 h45 e46 => ?_)
            obtain ⟨f_h45, ⟨w_h45, rfl, vl_h45, hv_h45, o_h45⟩ | ⟨w_h45, rfl, o_h45⟩⟩ := e46
            · have fr_h45 := Fr.tr fr_h41 f_h45 (fun _ q => q)
              have := tkF_le (t := t) (p := (tkA t n (tkA t n p))) (tkA_le (tkA_le hp))
              have := tkA_ge (t := t) (n := n) (p := (tkA t n (tkA t n p)))
              have := tkA_le (t := t) (p := (tkA t n (tkA t n p))) (tkA_le (tkA_le hp))
              have := tkK_le (t := t) (n := n) (p := (tkA t n (tkA t n p)))
              have b1_h45 := w_h45.2.1
              have b2_h45 := w_h45.2.2
              have g_h45 := nm_gt w_h45
              show Wn _ _ 113 _ [.int (nI (tkV t n (tkA t n p)))] h45 _
              refine wn_jp (pc' := 117) rfl rfl ?_
              refine wn_st (pc' := 119) (q := 4) (kin := 0) (lv' := [(0, .ref (71)), (1, .int (nI (i))), (2, .int (nI (j))), (3, .int (nI (1))), (4, .int (nI (tkV t n (tkA t n p))))]) rfl (fun _ _ _ => rfl) rfl (Nat.le_of_ble_eq_true rfl) rfl ?_
              refine wn_ld (pc' := 120) (q := 0) (kin := 2) (v := .ref (71)) rfl (fun _ _ _ => rfl) rfl rfl ?_
              refine wn_virI (pc' := 123) rfl rfl (by decide) rfl rfl o_h45 (Nat.le_of_ble_eq_true rfl) (m_good0 _ _ _ _ _ _ _ _ _ _ _ _ _ o_h45) ?_
              refine wn_ifN (t := 127) (f := 126) rfl rfl rfl (by omega) (fun c47 => ?_) (fun c47 => ?_)
              · have c47 : ¬ 1 = 0 := c47
                refine wn_sp (pc' := 130) (w := nI 576) rfl rfl (by decide) ?_
                refine wn_ic (pc' := 131) (w := nI 3) rfl rfl (by decide) ?_
                refine wn_ld (pc' := 132) (q := 0) (kin := 2) (v := .ref (71)) rfl (fun _ _ _ => rfl) rfl rfl ?_
                refine wn_get (pc' := 135) (v := .ref (77)) rfl rfl o_h45 rfl ?_
                refine wn_ic (pc' := 136) (w := nI 5) rfl rfl (by decide) ?_
                refine wn_ialdv (pc' := 137) (j := 5) (v := (nI (npW w))) rfl rfl ((fr_h45.2 77 (by decide)).trans q6) rfl (by omega) (by decide) (e9) ?_
                refine wn_mulN (pc' := 138) rfl rfl ?_
                refine wn_addN (pc' := 139) rfl rfl ?_
                refine wn_st (pc' := 141) (q := 5) (kin := 0) (lv' := [(0, .ref (71)), (1, .int (nI (i))), (2, .int (nI (j))), (3, .int (nI (1))), (4, .int (nI (tkV t n (tkA t n p)))), (5, .int (nI (576 + (3 * (npW w)))))]) rfl (fun _ _ _ => rfl) rfl (Nat.le_of_ble_eq_true rfl) rfl ?_
                refine wn_ld (pc' := 142) (q := 0) (kin := 2) (v := .ref (71)) rfl (fun _ _ _ => rfl) rfl rfl ?_
                refine wn_get (pc' := 145) (v := .ref (77)) rfl rfl o_h45 rfl ?_
                refine wn_ld (pc' := 147) (q := 5) (kin := 0) (v := .int (nI (576 + (3 * (npW w))))) rfl (fun _ _ _ => rfl) rfl rfl ?_
                refine wn_ld (pc' := 148) (q := 2) (kin := 0) (v := .int (nI (j))) rfl (fun _ _ _ => rfl) rfl rfl ?_
                refine wn_iast (pc' := 149) (j := 576 + (3 * (npW w))) rfl rfl ((fr_h45.2 77 (by decide)).trans q6) rfl (by omega) (by decide) ?_
                refine wn_ld (pc' := 150) (q := 0) (kin := 2) (v := .ref (71)) rfl (fun _ _ _ => rfl) rfl rfl ?_
                refine wn_get (pc' := 153) (v := .ref (77)) rfl rfl (gs_ne (by decide) o_h45) rfl ?_
                refine wn_ld (pc' := 155) (q := 5) (kin := 0) (v := .int (nI (576 + (3 * (npW w))))) rfl (fun _ _ _ => rfl) rfl rfl ?_
                refine wn_ic (pc' := 156) (w := nI 1) rfl rfl (by decide) ?_
                refine wn_addN (pc' := 157) rfl rfl ?_
                refine wn_ld (pc' := 158) (q := 3) (kin := 0) (v := .int (nI (1))) rfl (fun _ _ _ => rfl) rfl rfl ?_
                refine wn_iast (pc' := 159) (j := (576 + (3 * (npW w))) + 1) rfl rfl (gs_self ((fr_h45.2 77 (by decide)).trans q6)) rfl (by omega) (by decide) ?_
                refine wn_ld (pc' := 160) (q := 0) (kin := 2) (v := .ref (71)) rfl (fun _ _ _ => rfl) rfl rfl ?_
                refine wn_get (pc' := 163) (v := .ref (77)) rfl rfl (gs_ne (by decide) (gs_ne (by decide) o_h45)) rfl ?_
                refine wn_ld (pc' := 165) (q := 5) (kin := 0) (v := .int (nI (576 + (3 * (npW w))))) rfl (fun _ _ _ => rfl) rfl rfl ?_
                refine wn_ic (pc' := 166) (w := nI 2) rfl rfl (by decide) ?_
                refine wn_addN (pc' := 167) rfl rfl ?_
                refine wn_ld (pc' := 169) (q := 4) (kin := 0) (v := .int (nI (tkV t n (tkA t n p)))) rfl (fun _ _ _ => rfl) rfl rfl ?_
                refine wn_iast (pc' := 170) (j := (576 + (3 * (npW w))) + 2) rfl rfl (gs_self (gs_self ((fr_h45.2 77 (by decide)).trans q6))) rfl (by omega) (by decide) ?_
                refine wn_ld (pc' := 171) (q := 0) (kin := 2) (v := .ref (71)) rfl (fun _ _ _ => rfl) rfl rfl ?_
                refine wn_get (pc' := 174) (v := .ref (77)) rfl rfl (gs_ne (by decide) (gs_ne (by decide) (gs_ne (by decide) o_h45))) rfl ?_
                refine wn_ic (pc' := 175) (w := nI 5) rfl rfl (by decide) ?_
                refine wn_pu (pc' := 176) (st' := [.int (nI (5)), .ref (77), .int (nI (5)), .ref (77)]) rfl (fun _ _ _ => rfl) rfl rfl ?_
                refine wn_ialdv (pc' := 177) (j := 5) (v := (nI (npW w))) rfl rfl (gs_self (gs_self (gs_self ((fr_h45.2 77 (by decide)).trans q6)))) rfl (by omega) (by decide) ((pk_un (by omega)).trans ((pk_un (by omega)).trans ((pk_un (by omega)).trans (e9)))) ?_
                refine wn_ic (pc' := 178) (w := nI 1) rfl rfl (by decide) ?_
                refine wn_addN (pc' := 179) rfl rfl ?_
                refine wn_iast (pc' := 180) (j := 5) rfl rfl (gs_self (gs_self (gs_self ((fr_h45.2 77 (by decide)).trans q6)))) rfl (by omega) (by decide) ?_
                have eR : prtR t n (((vaW w i : Nat) : Int) - 1) j p w = .inr (tkA t n (tkA t n p), prtW w j 1 (tkV t n (tkA t n p))) := (pI_t c1).trans (pI_t w_h45)
                exact wn_vret rfl rfl ⟨rfl, (Fr.st (Fr.st (Fr.st (Fr.st (Fr.tr (Fr.rfl' [71, 77] h) (fw fr_h45) (fun _ q => q)) (by decide)) (by decide)) (by decide)) (by decide)), by rw [eR]; exact MT_r hv_h45 (gs_ne (by decide) (gs_ne (by decide) (gs_ne (by decide) (gs_ne (by decide) o_h45)))) (gs_self (gs_self (gs_self (gs_self ((fr_h45.2 77 (by decide)).trans q6)))))⟩
              · have c47 : 1 = 0 := c47
                exact absurd c47 (by decide)
            · have fr_h45 := Fr.tr fr_h41 f_h45 (fun _ q => q)
              show Wn _ _ 113 _ [.int (nI (0))] h45 _
              refine wn_jp (pc' := 117) rfl rfl ?_
              refine wn_st (pc' := 119) (q := 4) (kin := 0) (lv' := [(0, .ref (71)), (1, .int (nI (i))), (2, .int (nI (j))), (3, .int (nI (1))), (4, .int (nI (0)))]) rfl (fun _ _ _ => rfl) rfl (Nat.le_of_ble_eq_true rfl) rfl ?_
              refine wn_ld (pc' := 120) (q := 0) (kin := 2) (v := .ref (71)) rfl (fun _ _ _ => rfl) rfl rfl ?_
              refine wn_virI (pc' := 123) rfl rfl (by decide) rfl rfl o_h45 (Nat.le_of_ble_eq_true rfl) (m_goodB _ _ _ _ _ _ _ _ _ _ _ _ _ _ nmF_nz o_h45) ?_
              refine wn_ifN (t := 127) (f := 126) rfl rfl rfl (by omega) (fun c48 => ?_) (fun c48 => ?_)
              · have c48 : ¬ 0 = 0 := c48
                exact absurd c48 (by decide)
              · have c48 : 0 = 0 := c48
                have eR : prtR t n (((vaW w i : Nat) : Int) - 1) j p w = .inl (nmF t n (tkA t n p), tkF t n (tkA t n p)) := (pI_t c1).trans (pI_f w_h45)
                exact wn_vret rfl rfl ⟨rfl, (Fr.tr (Fr.rfl' [71, 77] h) (fw fr_h45) (fun _ q => q)), by rw [eR]; exact MT_l nmF_nz o_h45 ((fr_h45.2 77 (by decide)).trans q6)⟩
          · have c44 : ¬ 1 = 1 := c44
            exact absurd c44 (by decide)
        · have c43 : 1 = 0 := c43
          exact absurd c43 (by decide)

