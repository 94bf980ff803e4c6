/-! COPIES, BACK -/
theorem cp_in {α : Type} {f g : Nat → α} {n k : Nat} (h : k < n) : va_cpy f g 0 0 n k = f k := by
  unfold va_cpy
  rw [if_pos (by omega)]; exact congrArg f (by omega)
def VoiceS (h : aH) (q : Nat) : Prop := ∃ (x : Int32) (hv hc : Nat → Int32), isO h q 7 [.int x, .ref (q + 1), .ref (q + 2)] ∧ isI h (q + 1) 10 hv ∧ isZ h (q + 2) 10 hc
def NotesS (h : aH) (q : Nat) : Prop := ∃ (x : Int32) (an wk : Nat → Int32), isO h q 2 [.int x, .ref (q + 1), .ref (q + 2)] ∧ isI h (q + 1) 1200 an ∧ isI h (q + 2) 24 wk
theorem VoiceS.kp {h h' : aH} {q : Nat} (H : VoiceS h q) (hk : ∀ k, q ≤ k → k < q + 3 → h'[k]? = h[k]?) : VoiceS h' q := by
  obtain ⟨x, a, b, h0, h1, h2⟩ := H
  exact ⟨x, a, b, h0.kp (hk _ (by omega) (by omega)), h1.kp (hk _ (by omega) (by omega)), h2.kp (hk _ (by omega) (by omega))⟩
theorem NotesS.kp {h h' : aH} {q : Nat} (H : NotesS h q) (hk : ∀ k, q ≤ k → k < q + 3 → h'[k]? = h[k]?) : NotesS h' q := by
  obtain ⟨x, a, b, h0, h1, h2⟩ := H
  exact ⟨x, a, b, h0.kp (hk _ (by omega) (by omega)), h1.kp (hk _ (by omega) (by omega)), h2.kp (hk _ (by omega) (by omega))⟩
theorem VoiceR.s {h : aH} {q : Nat} {w : Nat → Int32} (H : VoiceR h q w) : VoiceS h q := by
  obtain ⟨a, b, h0, h1, h2, _⟩ := H
  exact ⟨_, a, b, h0, h1, h2⟩
theorem NotesR.s {h : aH} {q : Nat} {w : Nat → Int32} (H : NotesR h q w) : NotesS h q := by
  obtain ⟨a, b, h0, h1, h2, _⟩ := H
  exact ⟨_, a, b, h0, h1, h2⟩
theorem LandR.s {h : aH} {q : Nat} {w : Nat → Int32} (H : LandR h q w) (H2 : LawsR h (q + 9) w) : LandS h q := by
  obtain ⟨sz, rf, rt, rv, ag, vr, sd, tl, l0, l1, l2, l3, l4, l5, l6, l7, l8, g1, g2, g3, g4, g5⟩ := H
  obtain ⟨sec, it, fi, se, sg, lst, rs, rp, pj, pk, pv, k0, k1, k2, k3, k4, k5, k6, k7, k8, k9, k10, k11, k12, k13⟩ := H2
  exact ⟨_, _, _, _, _, _, sz, rf, rt, rv, ag, vr, sd, tl, it, fi, se, sg, lst, rs, rp, pj, pk, pv, l0, l1, l2, l3, l4, l5, l6, l7, l8, g3, k1, k2, k3, k4, k5, k6, k7, k8, k9, k10, k11⟩
theorem x_cpLaws (d : Nat) (h : aH) (q qs : Nat) (w : Nat → Int32) (hWf : WfW w) (hd : q + 11 ≤ qs ∨ qs + 11 ≤ q) (x4 x5 : Int32) (it2 fi2 se2 sg2 l92 rs2 rp2 pj2 pk2 pv2 : Nat → Int32) (d0 : isO h q 1 [.int (x4), .ref (q + 1), .ref (q + 2), .ref (q + 3), .ref (q + 4), .ref (q + 5), .ref (q + 6), .ref (q + 7), .int (x5), .ref (q + 8), .ref (q + 9), .ref (q + 10)]) (d1 : isI h (q + 1) 20 it2) (d2 : isI h (q + 2) 20 fi2) (d3 : isI h (q + 3) 20 se2) (d4 : isI h (q + 4) 20 sg2) (d5 : isI h (q + 5) 20 l92) (d6 : isI h (q + 6) 20 rs2) (d7 : isI h (q + 7) 20 rp2) (d8 : isI h (q + 8) 240 pj2) (d9 : isI h (q + 9) 240 pk2) (d10 : isI h (q + 10) 240 pv2) (R : LawsR h qs w) : Sp (Rn (d + 1)) 16 [.ref (q), .ref (qs)] h (fun r9 h9 => r9 = none ∧ h9.length = h.length ∧ (∀ k, k < q ∨ q + 11 ≤ k → h9[k]? = h[k]?) ∧ LawsR h9 q w) := by
  obtain ⟨sec, it, fi, se, sg, l9, rs, rp, pj, pk, pv, k0, k1, k2, k3, k4, k5, k6, k7, k8, k9, k10, k11, k12, k13⟩ := id R
  obtain ⟨⟨e7, e8⟩, ⟨e9, e10⟩⟩ := Wf_m hWf
  refine Sp_of (by decide) (Nat.le_of_ble_eq_true rfl) ?_
  show Wn _ _ 0 [(0, .ref (q)), (1, .ref (qs))] [] _ _
  refine wn_ld (pc' := 1) (q := 0) (kin := 2) (v := .ref (q)) rfl (fun _ _ _ => rfl) rfl rfl ?_
  refine wn_ld (pc' := 2) (q := 1) (kin := 2) (v := .ref (qs)) rfl (fun _ _ _ => rfl) rfl rfl ?_
  refine wn_get (pc' := 5) (v := .int (w 4)) rfl rfl k1 rfl ?_
  refine wn_put (pc' := 8) rfl rfl d0 (Nat.le_of_ble_eq_true rfl) ⟨rfl, rfl⟩ ?_
  show Wn _ _ 8 _ [] (h.set q (.inr (1, [.int (w 4), .ref (q + 1), .ref (q + 2), .ref (q + 3), .ref (q + 4), .ref (q + 5), .ref (q + 6), .ref (q + 7), .int (x5), .ref (q + 8), .ref (q + 9), .ref (q + 10)]))) _
  refine wn_ld (pc' := 9) (q := 0) (kin := 2) (v := .ref (q)) rfl (fun _ _ _ => rfl) rfl rfl ?_
  refine wn_ld (pc' := 10) (q := 1) (kin := 2) (v := .ref (qs)) rfl (fun _ _ _ => rfl) rfl rfl ?_
  refine wn_get (pc' := 13) (v := .int (w 5)) rfl rfl (gs_ne (by omega) k1) rfl ?_
  refine wn_put (pc' := 16) rfl rfl (gs_self d0) (Nat.le_of_ble_eq_true rfl) ⟨rfl, rfl⟩ ?_
  show Wn _ _ 16 _ [] ((h.set q (.inr (1, [.int (w 4), .ref (q + 1), .ref (q + 2), .ref (q + 3), .ref (q + 4), .ref (q + 5), .ref (q + 6), .ref (q + 7), .int (x5), .ref (q + 8), .ref (q + 9), .ref (q + 10)]))).set q (.inr (1, [.int (w 4), .ref (q + 1), .ref (q + 2), .ref (q + 3), .ref (q + 4), .ref (q + 5), .ref (q + 6), .ref (q + 7), .int (w 5), .ref (q + 8), .ref (q + 9), .ref (q + 10)]))) _
  refine wn_ld (pc' := 17) (q := 1) (kin := 2) (v := .ref (qs)) rfl (fun _ _ _ => rfl) rfl rfl ?_
  refine wn_get (pc' := 20) (v := .ref (qs + 1)) rfl rfl (gs_ne (by omega) (gs_ne (by omega) k1)) rfl ?_
  refine wn_ic (pc' := 21) (w := nI 0) rfl rfl (by decide) ?_
  refine wn_ld (pc' := 22) (q := 0) (kin := 2) (v := .ref (q)) rfl (fun _ _ _ => rfl) rfl rfl ?_
  refine wn_get (pc' := 25) (v := .ref (q + 1)) rfl rfl (gs_self (gs_self d0)) rfl ?_
  refine wn_ic (pc' := 26) (w := nI 0) rfl rfl (by decide) ?_
  refine wn_bp (pc' := 28) (w := nI 20) rfl rfl (by decide) ?_
  refine wn_cpyI (pc' := 31) rfl rfl (by decide) (gs_ne (by omega) (gs_ne (by omega) k2)) (gs_ne (by omega) (gs_ne (by omega) d1)) (by omega) (by omega) (by decide) (by decide) ?_
  refine wn_ld (pc' := 32) (q := 1) (kin := 2) (v := .ref (qs)) rfl (fun _ _ _ => rfl) rfl rfl ?_
  refine wn_get (pc' := 35) (v := .ref (qs + 2)) rfl rfl (gs_ne (by omega) (gs_ne (by omega) (gs_ne (by omega) k1))) rfl ?_
  refine wn_ic (pc' := 36) (w := nI 0) rfl rfl (by decide) ?_
  refine wn_ld (pc' := 37) (q := 0) (kin := 2) (v := .ref (q)) rfl (fun _ _ _ => rfl) rfl rfl ?_
  refine wn_get (pc' := 40) (v := .ref (q + 2)) rfl rfl (gs_ne (by omega) (gs_self (gs_self d0))) rfl ?_
  refine wn_ic (pc' := 41) (w := nI 0) rfl rfl (by decide) ?_
  refine wn_bp (pc' := 43) (w := nI 20) rfl rfl (by decide) ?_
  refine wn_cpyI (pc' := 46) rfl rfl (by decide) (gs_ne (by omega) (gs_ne (by omega) (gs_ne (by omega) k3))) (gs_ne (by omega) (gs_ne (by omega) (gs_ne (by omega) d2))) (by omega) (by omega) (by decide) (by decide) ?_
  refine wn_ld (pc' := 47) (q := 1) (kin := 2) (v := .ref (qs)) rfl (fun _ _ _ => rfl) rfl rfl ?_
  refine wn_get (pc' := 50) (v := .ref (qs + 3)) rfl rfl (gs_ne (by omega) (gs_ne (by omega) (gs_ne (by omega) (gs_ne (by omega) k1)))) rfl ?_
  refine wn_ic (pc' := 51) (w := nI 0) rfl rfl (by decide) ?_
  refine wn_ld (pc' := 52) (q := 0) (kin := 2) (v := .ref (q)) rfl (fun _ _ _ => rfl) rfl rfl ?_
  refine wn_get (pc' := 55) (v := .ref (q + 3)) rfl rfl (gs_ne (by omega) (gs_ne (by omega) (gs_self (gs_self d0)))) rfl ?_
  refine wn_ic (pc' := 56) (w := nI 0) rfl rfl (by decide) ?_
  refine wn_bp (pc' := 58) (w := nI 20) rfl rfl (by decide) ?_
  refine wn_cpyI (pc' := 61) rfl rfl (by decide) (gs_ne (by omega) (gs_ne (by omega) (gs_ne (by omega) (gs_ne (by omega) k4)))) (gs_ne (by omega) (gs_ne (by omega) (gs_ne (by omega) (gs_ne (by omega) d3)))) (by omega) (by omega) (by decide) (by decide) ?_
  refine wn_ld (pc' := 62) (q := 1) (kin := 2) (v := .ref (qs)) rfl (fun _ _ _ => rfl) rfl rfl ?_
  refine wn_get (pc' := 65) (v := .ref (qs + 4)) rfl rfl (gs_ne (by omega) (gs_ne (by omega) (gs_ne (by omega) (gs_ne (by omega) (gs_ne (by omega) k1))))) rfl ?_
  refine wn_ic (pc' := 66) (w := nI 0) rfl rfl (by decide) ?_
  refine wn_ld (pc' := 67) (q := 0) (kin := 2) (v := .ref (q)) rfl (fun _ _ _ => rfl) rfl rfl ?_
  refine wn_get (pc' := 70) (v := .ref (q + 4)) rfl rfl (gs_ne (by omega) (gs_ne (by omega) (gs_ne (by omega) (gs_self (gs_self d0))))) rfl ?_
  refine wn_ic (pc' := 71) (w := nI 0) rfl rfl (by decide) ?_
  refine wn_bp (pc' := 73) (w := nI 20) rfl rfl (by decide) ?_
  refine wn_cpyI (pc' := 76) rfl rfl (by decide) (gs_ne (by omega) (gs_ne (by omega) (gs_ne (by omega) (gs_ne (by omega) (gs_ne (by omega) k5))))) (gs_ne (by omega) (gs_ne (by omega) (gs_ne (by omega) (gs_ne (by omega) (gs_ne (by omega) d4))))) (by omega) (by omega) (by decide) (by decide) ?_
  refine wn_ld (pc' := 77) (q := 1) (kin := 2) (v := .ref (qs)) rfl (fun _ _ _ => rfl) rfl rfl ?_
  refine wn_get (pc' := 80) (v := .ref (qs + 5)) rfl rfl (gs_ne (by omega) (gs_ne (by omega) (gs_ne (by omega) (gs_ne (by omega) (gs_ne (by omega) (gs_ne (by omega) k1)))))) rfl ?_
  refine wn_ic (pc' := 81) (w := nI 0) rfl rfl (by decide) ?_
  refine wn_ld (pc' := 82) (q := 0) (kin := 2) (v := .ref (q)) rfl (fun _ _ _ => rfl) rfl rfl ?_
  refine wn_get (pc' := 85) (v := .ref (q + 5)) rfl rfl (gs_ne (by omega) (gs_ne (by omega) (gs_ne (by omega) (gs_ne (by omega) (gs_self (gs_self d0)))))) rfl ?_
  refine wn_ic (pc' := 86) (w := nI 0) rfl rfl (by decide) ?_
  refine wn_bp (pc' := 88) (w := nI 20) rfl rfl (by decide) ?_
  refine wn_cpyI (pc' := 91) rfl rfl (by decide) (gs_ne (by omega) (gs_ne (by omega) (gs_ne (by omega) (gs_ne (by omega) (gs_ne (by omega) (gs_ne (by omega) k6)))))) (gs_ne (by omega) (gs_ne (by omega) (gs_ne (by omega) (gs_ne (by omega) (gs_ne (by omega) (gs_ne (by omega) d5)))))) (by omega) (by omega) (by decide) (by decide) ?_
  refine wn_ld (pc' := 92) (q := 1) (kin := 2) (v := .ref (qs)) rfl (fun _ _ _ => rfl) rfl rfl ?_
  refine wn_get (pc' := 95) (v := .ref (qs + 6)) rfl rfl (gs_ne (by omega) (gs_ne (by omega) (gs_ne (by omega) (gs_ne (by omega) (gs_ne (by omega) (gs_ne (by omega) (gs_ne (by omega) k1))))))) rfl ?_
  refine wn_ic (pc' := 96) (w := nI 0) rfl rfl (by decide) ?_
  refine wn_ld (pc' := 97) (q := 0) (kin := 2) (v := .ref (q)) rfl (fun _ _ _ => rfl) rfl rfl ?_
  refine wn_get (pc' := 100) (v := .ref (q + 6)) rfl rfl (gs_ne (by omega) (gs_ne (by omega) (gs_ne (by omega) (gs_ne (by omega) (gs_ne (by omega) (gs_self (gs_self d0))))))) rfl ?_
  refine wn_ic (pc' := 101) (w := nI 0) rfl rfl (by decide) ?_
  refine wn_bp (pc' := 103) (w := nI 20) rfl rfl (by decide) ?_
  refine wn_cpyI (pc' := 106) rfl rfl (by decide) (gs_ne (by omega) (gs_ne (by omega) (gs_ne (by omega) (gs_ne (by omega) (gs_ne (by omega) (gs_ne (by omega) (gs_ne (by omega) k7))))))) (gs_ne (by omega) (gs_ne (by omega) (gs_ne (by omega) (gs_ne (by omega) (gs_ne (by omega) (gs_ne (by omega) (gs_ne (by omega) d6))))))) (by omega) (by omega) (by decide) (by decide) ?_
  refine wn_ld (pc' := 107) (q := 1) (kin := 2) (v := .ref (qs)) rfl (fun _ _ _ => rfl) rfl rfl ?_
  refine wn_get (pc' := 110) (v := .ref (qs + 7)) rfl rfl (gs_ne (by omega) (gs_ne (by omega) (gs_ne (by omega) (gs_ne (by omega) (gs_ne (by omega) (gs_ne (by omega) (gs_ne (by omega) (gs_ne (by omega) k1)))))))) rfl ?_
  refine wn_ic (pc' := 111) (w := nI 0) rfl rfl (by decide) ?_
  refine wn_ld (pc' := 112) (q := 0) (kin := 2) (v := .ref (q)) rfl (fun _ _ _ => rfl) rfl rfl ?_
  refine wn_get (pc' := 115) (v := .ref (q + 7)) rfl rfl (gs_ne (by omega) (gs_ne (by omega) (gs_ne (by omega) (gs_ne (by omega) (gs_ne (by omega) (gs_ne (by omega) (gs_self (gs_self d0)))))))) rfl ?_
  refine wn_ic (pc' := 116) (w := nI 0) rfl rfl (by decide) ?_
  refine wn_bp (pc' := 118) (w := nI 20) rfl rfl (by decide) ?_
  refine wn_cpyI (pc' := 121) rfl rfl (by decide) (gs_ne (by omega) (gs_ne (by omega) (gs_ne (by omega) (gs_ne (by omega) (gs_ne (by omega) (gs_ne (by omega) (gs_ne (by omega) (gs_ne (by omega) k8)))))))) (gs_ne (by omega) (gs_ne (by omega) (gs_ne (by omega) (gs_ne (by omega) (gs_ne (by omega) (gs_ne (by omega) (gs_ne (by omega) (gs_ne (by omega) d7)))))))) (by omega) (by omega) (by decide) (by decide) ?_
  refine wn_ld (pc' := 122) (q := 1) (kin := 2) (v := .ref (qs)) rfl (fun _ _ _ => rfl) rfl rfl ?_
  refine wn_get (pc' := 125) (v := .ref (qs + 8)) rfl rfl (gs_ne (by omega) (gs_ne (by omega) (gs_ne (by omega) (gs_ne (by omega) (gs_ne (by omega) (gs_ne (by omega) (gs_ne (by omega) (gs_ne (by omega) (gs_ne (by omega) k1))))))))) rfl ?_
  refine wn_ic (pc' := 126) (w := nI 0) rfl rfl (by decide) ?_
  refine wn_ld (pc' := 127) (q := 0) (kin := 2) (v := .ref (q)) rfl (fun _ _ _ => rfl) rfl rfl ?_
  refine wn_get (pc' := 130) (v := .ref (q + 8)) rfl rfl (gs_ne (by omega) (gs_ne (by omega) (gs_ne (by omega) (gs_ne (by omega) (gs_ne (by omega) (gs_ne (by omega) (gs_ne (by omega) (gs_self (gs_self d0))))))))) rfl ?_
  refine wn_ic (pc' := 131) (w := nI 0) rfl rfl (by decide) ?_
  refine wn_sp (pc' := 134) (w := nI 240) rfl rfl (by decide) ?_
  refine wn_cpyI (pc' := 137) rfl rfl (by decide) (gs_ne (by omega) (gs_ne (by omega) (gs_ne (by omega) (gs_ne (by omega) (gs_ne (by omega) (gs_ne (by omega) (gs_ne (by omega) (gs_ne (by omega) (gs_ne (by omega) k9))))))))) (gs_ne (by omega) (gs_ne (by omega) (gs_ne (by omega) (gs_ne (by omega) (gs_ne (by omega) (gs_ne (by omega) (gs_ne (by omega) (gs_ne (by omega) (gs_ne (by omega) d8))))))))) (by omega) (by omega) (by decide) (by decide) ?_
  refine wn_ld (pc' := 138) (q := 1) (kin := 2) (v := .ref (qs)) rfl (fun _ _ _ => rfl) rfl rfl ?_
  refine wn_get (pc' := 141) (v := .ref (qs + 9)) rfl rfl (gs_ne (by omega) (gs_ne (by omega) (gs_ne (by omega) (gs_ne (by omega) (gs_ne (by omega) (gs_ne (by omega) (gs_ne (by omega) (gs_ne (by omega) (gs_ne (by omega) (gs_ne (by omega) k1)))))))))) rfl ?_
  refine wn_ic (pc' := 142) (w := nI 0) rfl rfl (by decide) ?_
  refine wn_ld (pc' := 143) (q := 0) (kin := 2) (v := .ref (q)) rfl (fun _ _ _ => rfl) rfl rfl ?_
  refine wn_get (pc' := 146) (v := .ref (q + 9)) rfl rfl (gs_ne (by omega) (gs_ne (by omega) (gs_ne (by omega) (gs_ne (by omega) (gs_ne (by omega) (gs_ne (by omega) (gs_ne (by omega) (gs_ne (by omega) (gs_self (gs_self d0)))))))))) rfl ?_
  refine wn_ic (pc' := 147) (w := nI 0) rfl rfl (by decide) ?_
  refine wn_sp (pc' := 150) (w := nI 240) rfl rfl (by decide) ?_
  refine wn_cpyI (pc' := 153) rfl rfl (by decide) (gs_ne (by omega) (gs_ne (by omega) (gs_ne (by omega) (gs_ne (by omega) (gs_ne (by omega) (gs_ne (by omega) (gs_ne (by omega) (gs_ne (by omega) (gs_ne (by omega) (gs_ne (by omega) k10)))))))))) (gs_ne (by omega) (gs_ne (by omega) (gs_ne (by omega) (gs_ne (by omega) (gs_ne (by omega) (gs_ne (by omega) (gs_ne (by omega) (gs_ne (by omega) (gs_ne (by omega) (gs_ne (by omega) d9)))))))))) (by omega) (by omega) (by decide) (by decide) ?_
  refine wn_ld (pc' := 154) (q := 1) (kin := 2) (v := .ref (qs)) rfl (fun _ _ _ => rfl) rfl rfl ?_
  refine wn_get (pc' := 157) (v := .ref (qs + 10)) rfl rfl (gs_ne (by omega) (gs_ne (by omega) (gs_ne (by omega) (gs_ne (by omega) (gs_ne (by omega) (gs_ne (by omega) (gs_ne (by omega) (gs_ne (by omega) (gs_ne (by omega) (gs_ne (by omega) (gs_ne (by omega) k1))))))))))) rfl ?_
  refine wn_ic (pc' := 158) (w := nI 0) rfl rfl (by decide) ?_
  refine wn_ld (pc' := 159) (q := 0) (kin := 2) (v := .ref (q)) rfl (fun _ _ _ => rfl) rfl rfl ?_
  refine wn_get (pc' := 162) (v := .ref (q + 10)) rfl rfl (gs_ne (by omega) (gs_ne (by omega) (gs_ne (by omega) (gs_ne (by omega) (gs_ne (by omega) (gs_ne (by omega) (gs_ne (by omega) (gs_ne (by omega) (gs_ne (by omega) (gs_self (gs_self d0))))))))))) rfl ?_
  refine wn_ic (pc' := 163) (w := nI 0) rfl rfl (by decide) ?_
  refine wn_sp (pc' := 166) (w := nI 240) rfl rfl (by decide) ?_
  refine wn_cpyI (pc' := 169) rfl rfl (by decide) (gs_ne (by omega) (gs_ne (by omega) (gs_ne (by omega) (gs_ne (by omega) (gs_ne (by omega) (gs_ne (by omega) (gs_ne (by omega) (gs_ne (by omega) (gs_ne (by omega) (gs_ne (by omega) (gs_ne (by omega) k11))))))))))) (gs_ne (by omega) (gs_ne (by omega) (gs_ne (by omega) (gs_ne (by omega) (gs_ne (by omega) (gs_ne (by omega) (gs_ne (by omega) (gs_ne (by omega) (gs_ne (by omega) (gs_ne (by omega) (gs_ne (by omega) d10))))))))))) (by omega) (by omega) (by decide) (by decide) ?_
  refine wn_vret rfl rfl ⟨rfl, (Fr.st (Fr.st (Fr.st (Fr.st (Fr.st (Fr.st (Fr.st (Fr.st (Fr.st (Fr.st (Fr.st (Fr.st (Fr.rfl' [q, q + 1, q + 2, q + 3, q + 4, q + 5, q + 6, q + 7, q + 8, q + 9, q + 10] h) (by simp)) (by simp)) (by simp)) (by simp)) (by simp)) (by simp)) (by simp)) (by simp)) (by simp)) (by simp)) (by simp)) (by simp)).1, fun k hk => (Fr.st (Fr.st (Fr.st (Fr.st (Fr.st (Fr.st (Fr.st (Fr.st (Fr.st (Fr.st (Fr.st (Fr.st (Fr.rfl' [q, q + 1, q + 2, q + 3, q + 4, q + 5, q + 6, q + 7, q + 8, q + 9, q + 10] h) (by simp)) (by simp)) (by simp)) (by simp)) (by simp)) (by simp)) (by simp)) (by simp)) (by simp)) (by simp)) (by simp)) (by simp)).2 k (by simp only [List.mem_cons, List.not_mem_nil, or_false]; omega), sec, _, _, _, _, _, _, _, _, _, _, k0, (gs_ne (by omega) (gs_ne (by omega) (gs_ne (by omega) (gs_ne (by omega) (gs_ne (by omega) (gs_ne (by omega) (gs_ne (by omega) (gs_ne (by omega) (gs_ne (by omega) (gs_ne (by omega) (gs_self (gs_self d0)))))))))))), (gs_ne (by omega) (gs_ne (by omega) (gs_ne (by omega) (gs_ne (by omega) (gs_ne (by omega) (gs_ne (by omega) (gs_ne (by omega) (gs_ne (by omega) (gs_ne (by omega) (gs_self (gs_ne (by omega) (gs_ne (by omega) d1)))))))))))), (gs_ne (by omega) (gs_ne (by omega) (gs_ne (by omega) (gs_ne (by omega) (gs_ne (by omega) (gs_ne (by omega) (gs_ne (by omega) (gs_ne (by omega) (gs_self (gs_ne (by omega) (gs_ne (by omega) (gs_ne (by omega) d2)))))))))))), (gs_ne (by omega) (gs_ne (by omega) (gs_ne (by omega) (gs_ne (by omega) (gs_ne (by omega) (gs_ne (by omega) (gs_ne (by omega) (gs_self (gs_ne (by omega) (gs_ne (by omega) (gs_ne (by omega) (gs_ne (by omega) d3)))))))))))), (gs_ne (by omega) (gs_ne (by omega) (gs_ne (by omega) (gs_ne (by omega) (gs_ne (by omega) (gs_ne (by omega) (gs_self (gs_ne (by omega) (gs_ne (by omega) (gs_ne (by omega) (gs_ne (by omega) (gs_ne (by omega) d4)))))))))))), (gs_ne (by omega) (gs_ne (by omega) (gs_ne (by omega) (gs_ne (by omega) (gs_ne (by omega) (gs_self (gs_ne (by omega) (gs_ne (by omega) (gs_ne (by omega) (gs_ne (by omega) (gs_ne (by omega) (gs_ne (by omega) d5)))))))))))), (gs_ne (by omega) (gs_ne (by omega) (gs_ne (by omega) (gs_ne (by omega) (gs_self (gs_ne (by omega) (gs_ne (by omega) (gs_ne (by omega) (gs_ne (by omega) (gs_ne (by omega) (gs_ne (by omega) (gs_ne (by omega) d6)))))))))))), (gs_ne (by omega) (gs_ne (by omega) (gs_ne (by omega) (gs_self (gs_ne (by omega) (gs_ne (by omega) (gs_ne (by omega) (gs_ne (by omega) (gs_ne (by omega) (gs_ne (by omega) (gs_ne (by omega) (gs_ne (by omega) d7)))))))))))), (gs_ne (by omega) (gs_ne (by omega) (gs_self (gs_ne (by omega) (gs_ne (by omega) (gs_ne (by omega) (gs_ne (by omega) (gs_ne (by omega) (gs_ne (by omega) (gs_ne (by omega) (gs_ne (by omega) (gs_ne (by omega) d8)))))))))))), (gs_ne (by omega) (gs_self (gs_ne (by omega) (gs_ne (by omega) (gs_ne (by omega) (gs_ne (by omega) (gs_ne (by omega) (gs_ne (by omega) (gs_ne (by omega) (gs_ne (by omega) (gs_ne (by omega) (gs_ne (by omega) d9)))))))))))), (gs_self (gs_ne (by omega) (gs_ne (by omega) (gs_ne (by omega) (gs_ne (by omega) (gs_ne (by omega) (gs_ne (by omega) (gs_ne (by omega) (gs_ne (by omega) (gs_ne (by omega) (gs_ne (by omega) (gs_ne (by omega) d10)))))))))))), fun l hl => ?_, fun k hk => ?_⟩
  · obtain ⟨a1, a2, a3, a4, a5, a6, a7⟩ := k12 l hl
    exact ⟨(cp_in (by omega)).trans a1, (cp_in (by omega)).trans a2, (cp_in (by omega)).trans a3, (cp_in (by omega)).trans a4, (cp_in (by omega)).trans a5, (cp_in (by omega)).trans a6, (cp_in (by omega)).trans a7⟩
  · obtain ⟨a1, a2, a3⟩ := k13 k hk
    exact ⟨(cp_in (by omega)).trans a1, (cp_in (by omega)).trans a2, (cp_in (by omega)).trans a3⟩

theorem x_cpLand (d : Nat) (h : aH) (q qs : Nat) (w : Nat → Int32) (hWf : WfW w) (hd : q + 20 ≤ qs ∨ qs + 20 ≤ q) (S : LandS h q) (R : LandR h qs w) (R2 : LawsR h (qs + 9) w) : Sp (Rn (d + 2)) 10 [.ref (q), .ref (qs)] h (fun r9 h9 => r9 = none ∧ h9.length = h.length ∧ (∀ k, k < q ∨ q + 20 ≤ k → h9[k]? = h[k]?) ∧ LandR h9 q w ∧ LawsR h9 (q + 9) w) := by
  obtain ⟨x0, x1, x2, x3, x4, x5, sz2, rf2, rt2, rv2, ag2, vr2, sd2, tl2, it2, fi2, se2, sg2, l92, rs2, rp2, pj2, pk2, pv2, d0, d1, d2, d3, d4, d5, d6, d7, d8, d9, d10, d11, d12, d13, d14, d15, d16, d17, d18, d19, d20⟩ := id S
  obtain ⟨sz, rf, rt, rv, ag, vr, sd, tl, l0, l1, l2, l3, l4, l5, l6, l7, l8, g1, g2, g3, g4, g5⟩ := id R
  obtain ⟨⟨e1, e2⟩, ⟨e3, e4⟩, ⟨e5, e6⟩⟩ := Wf_n hWf
  refine Sp_of (by decide) (Nat.le_of_ble_eq_true rfl) ?_
  show Wn _ _ 0 [(0, .ref (q)), (1, .ref (qs))] [] _ _
  refine wn_ld (pc' := 1) (q := 0) (kin := 2) (v := .ref (q)) rfl (fun _ _ _ => rfl) rfl rfl ?_
  refine wn_ld (pc' := 2) (q := 1) (kin := 2) (v := .ref (qs)) rfl (fun _ _ _ => rfl) rfl rfl ?_
  refine wn_get (pc' := 5) (v := .int (w 0)) rfl rfl l0 rfl ?_
  refine wn_put (pc' := 8) rfl rfl d0 (Nat.le_of_ble_eq_true rfl) ⟨rfl, rfl⟩ ?_
  show Wn _ _ 8 _ [] (h.set q (.inr (0, [.int (w 0), .int (x1), .int (x2), .int (x3), .ref (q + 1), .ref (q + 2), .ref (q + 3), .ref (q + 4), .ref (q + 5), .ref (q + 6), .ref (q + 7), .ref (q + 8), .ref (q + 9)]))) _
  refine wn_ld (pc' := 9) (q := 0) (kin := 2) (v := .ref (q)) rfl (fun _ _ _ => rfl) rfl rfl ?_
  refine wn_ld (pc' := 10) (q := 1) (kin := 2) (v := .ref (qs)) rfl (fun _ _ _ => rfl) rfl rfl ?_
  refine wn_get (pc' := 13) (v := .int (w 1)) rfl rfl (gs_ne (by omega) l0) rfl ?_
  refine wn_put (pc' := 16) rfl rfl (gs_self d0) (Nat.le_of_ble_eq_true rfl) ⟨rfl, rfl⟩ ?_
  show Wn _ _ 16 _ [] ((h.set q (.inr (0, [.int (w 0), .int (x1), .int (x2), .int (x3), .ref (q + 1), .ref (q + 2), .ref (q + 3), .ref (q + 4), .ref (q + 5), .ref (q + 6), .ref (q + 7), .ref (q + 8), .ref (q + 9)]))).set q (.inr (0, [.int (w 0), .int (w 1), .int (x2), .int (x3), .ref (q + 1), .ref (q + 2), .ref (q + 3), .ref (q + 4), .ref (q + 5), .ref (q + 6), .ref (q + 7), .ref (q + 8), .ref (q + 9)]))) _
  refine wn_ld (pc' := 17) (q := 0) (kin := 2) (v := .ref (q)) rfl (fun _ _ _ => rfl) rfl rfl ?_
  refine wn_ld (pc' := 18) (q := 1) (kin := 2) (v := .ref (qs)) rfl (fun _ _ _ => rfl) rfl rfl ?_
  refine wn_get (pc' := 21) (v := .int (w 2)) rfl rfl (gs_ne (by omega) (gs_ne (by omega) l0)) rfl ?_
  refine wn_put (pc' := 24) rfl rfl (gs_self (gs_self d0)) (Nat.le_of_ble_eq_true rfl) ⟨rfl, rfl⟩ ?_
  show Wn _ _ 24 _ [] (((h.set q (.inr (0, [.int (w 0), .int (x1), .int (x2), .int (x3), .ref (q + 1), .ref (q + 2), .ref (q + 3), .ref (q + 4), .ref (q + 5), .ref (q + 6), .ref (q + 7), .ref (q + 8), .ref (q + 9)]))).set q (.inr (0, [.int (w 0), .int (w 1), .int (x2), .int (x3), .ref (q + 1), .ref (q + 2), .ref (q + 3), .ref (q + 4), .ref (q + 5), .ref (q + 6), .ref (q + 7), .ref (q + 8), .ref (q + 9)]))).set q (.inr (0, [.int (w 0), .int (w 1), .int (w 2), .int (x3), .ref (q + 1), .ref (q + 2), .ref (q + 3), .ref (q + 4), .ref (q + 5), .ref (q + 6), .ref (q + 7), .ref (q + 8), .ref (q + 9)]))) _
  refine wn_ld (pc' := 25) (q := 0) (kin := 2) (v := .ref (q)) rfl (fun _ _ _ => rfl) rfl rfl ?_
  refine wn_ld (pc' := 26) (q := 1) (kin := 2) (v := .ref (qs)) rfl (fun _ _ _ => rfl) rfl rfl ?_
  refine wn_get (pc' := 29) (v := .int (w 3)) rfl rfl (gs_ne (by omega) (gs_ne (by omega) (gs_ne (by omega) l0))) rfl ?_
  refine wn_put (pc' := 32) rfl rfl (gs_self (gs_self (gs_self d0))) (Nat.le_of_ble_eq_true rfl) ⟨rfl, rfl⟩ ?_
  show Wn _ _ 32 _ [] ((((h.set q (.inr (0, [.int (w 0), .int (x1), .int (x2), .int (x3), .ref (q + 1), .ref (q + 2), .ref (q + 3), .ref (q + 4), .ref (q + 5), .ref (q + 6), .ref (q + 7), .ref (q + 8), .ref (q + 9)]))).set q (.inr (0, [.int (w 0), .int (w 1), .int (x2), .int (x3), .ref (q + 1), .ref (q + 2), .ref (q + 3), .ref (q + 4), .ref (q + 5), .ref (q + 6), .ref (q + 7), .ref (q + 8), .ref (q + 9)]))).set q (.inr (0, [.int (w 0), .int (w 1), .int (w 2), .int (x3), .ref (q + 1), .ref (q + 2), .ref (q + 3), .ref (q + 4), .ref (q + 5), .ref (q + 6), .ref (q + 7), .ref (q + 8), .ref (q + 9)]))).set q (.inr (0, [.int (w 0), .int (w 1), .int (w 2), .int (w 3), .ref (q + 1), .ref (q + 2), .ref (q + 3), .ref (q + 4), .ref (q + 5), .ref (q + 6), .ref (q + 7), .ref (q + 8), .ref (q + 9)]))) _
  refine wn_ld (pc' := 33) (q := 1) (kin := 2) (v := .ref (qs)) rfl (fun _ _ _ => rfl) rfl rfl ?_
  refine wn_get (pc' := 36) (v := .ref (qs + 1)) rfl rfl (gs_ne (by omega) (gs_ne (by omega) (gs_ne (by omega) (gs_ne (by omega) l0)))) rfl ?_
  refine wn_ic (pc' := 37) (w := nI 0) rfl rfl (by decide) ?_
  refine wn_ld (pc' := 38) (q := 0) (kin := 2) (v := .ref (q)) rfl (fun _ _ _ => rfl) rfl rfl ?_
  refine wn_get (pc' := 41) (v := .ref (q + 1)) rfl rfl (gs_self (gs_self (gs_self (gs_self d0)))) rfl ?_
  refine wn_ic (pc' := 42) (w := nI 0) rfl rfl (by decide) ?_
  refine wn_bp (pc' := 44) (w := nI 24) rfl rfl (by decide) ?_
  refine wn_cpyI (pc' := 47) rfl rfl (by decide) (gs_ne (by omega) (gs_ne (by omega) (gs_ne (by omega) (gs_ne (by omega) l1)))) (gs_ne (by omega) (gs_ne (by omega) (gs_ne (by omega) (gs_ne (by omega) d1)))) (by omega) (by omega) (by decide) (by decide) ?_
  refine wn_ld (pc' := 48) (q := 1) (kin := 2) (v := .ref (qs)) rfl (fun _ _ _ => rfl) rfl rfl ?_
  refine wn_get (pc' := 51) (v := .ref (qs + 2)) rfl rfl (gs_ne (by omega) (gs_ne (by omega) (gs_ne (by omega) (gs_ne (by omega) (gs_ne (by omega) l0))))) rfl ?_
  refine wn_ic (pc' := 52) (w := nI 0) rfl rfl (by decide) ?_
  refine wn_ld (pc' := 53) (q := 0) (kin := 2) (v := .ref (q)) rfl (fun _ _ _ => rfl) rfl rfl ?_
  refine wn_get (pc' := 56) (v := .ref (q + 2)) rfl rfl (gs_ne (by omega) (gs_self (gs_self (gs_self (gs_self d0))))) rfl ?_
  refine wn_ic (pc' := 57) (w := nI 0) rfl rfl (by decide) ?_
  refine wn_bp (pc' := 59) (w := nI 40) rfl rfl (by decide) ?_
  refine wn_cpyI (pc' := 62) rfl rfl (by decide) (gs_ne (by omega) (gs_ne (by omega) (gs_ne (by omega) (gs_ne (by omega) (gs_ne (by omega) l2))))) (gs_ne (by omega) (gs_ne (by omega) (gs_ne (by omega) (gs_ne (by omega) (gs_ne (by omega) d2))))) (by omega) (by omega) (by decide) (by decide) ?_
  refine wn_ld (pc' := 63) (q := 1) (kin := 2) (v := .ref (qs)) rfl (fun _ _ _ => rfl) rfl rfl ?_
  refine wn_get (pc' := 66) (v := .ref (qs + 3)) rfl rfl (gs_ne (by omega) (gs_ne (by omega) (gs_ne (by omega) (gs_ne (by omega) (gs_ne (by omega) (gs_ne (by omega) l0)))))) rfl ?_
  refine wn_ic (pc' := 67) (w := nI 0) rfl rfl (by decide) ?_
  refine wn_ld (pc' := 68) (q := 0) (kin := 2) (v := .ref (q)) rfl (fun _ _ _ => rfl) rfl rfl ?_
  refine wn_get (pc' := 71) (v := .ref (q + 3)) rfl rfl (gs_ne (by omega) (gs_ne (by omega) (gs_self (gs_self (gs_self (gs_self d0)))))) rfl ?_
  refine wn_ic (pc' := 72) (w := nI 0) rfl rfl (by decide) ?_
  refine wn_bp (pc' := 74) (w := nI 40) rfl rfl (by decide) ?_
  refine wn_cpyI (pc' := 77) rfl rfl (by decide) (gs_ne (by omega) (gs_ne (by omega) (gs_ne (by omega) (gs_ne (by omega) (gs_ne (by omega) (gs_ne (by omega) l3)))))) (gs_ne (by omega) (gs_ne (by omega) (gs_ne (by omega) (gs_ne (by omega) (gs_ne (by omega) (gs_ne (by omega) d3)))))) (by omega) (by omega) (by decide) (by decide) ?_
  refine wn_ld (pc' := 78) (q := 1) (kin := 2) (v := .ref (qs)) rfl (fun _ _ _ => rfl) rfl rfl ?_
  refine wn_get (pc' := 81) (v := .ref (qs + 4)) rfl rfl (gs_ne (by omega) (gs_ne (by omega) (gs_ne (by omega) (gs_ne (by omega) (gs_ne (by omega) (gs_ne (by omega) (gs_ne (by omega) l0))))))) rfl ?_
  refine wn_ic (pc' := 82) (w := nI 0) rfl rfl (by decide) ?_
  refine wn_ld (pc' := 83) (q := 0) (kin := 2) (v := .ref (q)) rfl (fun _ _ _ => rfl) rfl rfl ?_
  refine wn_get (pc' := 86) (v := .ref (q + 4)) rfl rfl (gs_ne (by omega) (gs_ne (by omega) (gs_ne (by omega) (gs_self (gs_self (gs_self (gs_self d0))))))) rfl ?_
  refine wn_ic (pc' := 87) (w := nI 0) rfl rfl (by decide) ?_
  refine wn_bp (pc' := 89) (w := nI 40) rfl rfl (by decide) ?_
  refine wn_cpyZ (pc' := 92) rfl rfl (by decide) (gs_ne (by omega) (gs_ne (by omega) (gs_ne (by omega) (gs_ne (by omega) (gs_ne (by omega) (gs_ne (by omega) (gs_ne (by omega) l4))))))) (gs_ne (by omega) (gs_ne (by omega) (gs_ne (by omega) (gs_ne (by omega) (gs_ne (by omega) (gs_ne (by omega) (gs_ne (by omega) d4))))))) (fun x hx => (g3 x hx).1) (by omega) (by omega) (by decide) (by decide) ?_
  refine wn_ld (pc' := 93) (q := 1) (kin := 2) (v := .ref (qs)) rfl (fun _ _ _ => rfl) rfl rfl ?_
  refine wn_get (pc' := 96) (v := .ref (qs + 5)) rfl rfl (gs_ne (by omega) (gs_ne (by omega) (gs_ne (by omega) (gs_ne (by omega) (gs_ne (by omega) (gs_ne (by omega) (gs_ne (by omega) (gs_ne (by omega) l0)))))))) rfl ?_
  refine wn_ic (pc' := 97) (w := nI 0) rfl rfl (by decide) ?_
  refine wn_ld (pc' := 98) (q := 0) (kin := 2) (v := .ref (q)) rfl (fun _ _ _ => rfl) rfl rfl ?_
  refine wn_get (pc' := 101) (v := .ref (q + 5)) rfl rfl (gs_ne (by omega) (gs_ne (by omega) (gs_ne (by omega) (gs_ne (by omega) (gs_self (gs_self (gs_self (gs_self d0)))))))) rfl ?_
  refine wn_ic (pc' := 102) (w := nI 0) rfl rfl (by decide) ?_
  refine wn_bp (pc' := 104) (w := nI 40) rfl rfl (by decide) ?_
  refine wn_cpyZ (pc' := 107) rfl rfl (by decide) (gs_ne (by omega) (gs_ne (by omega) (gs_ne (by omega) (gs_ne (by omega) (gs_ne (by omega) (gs_ne (by omega) (gs_ne (by omega) (gs_ne (by omega) l5)))))))) (gs_ne (by omega) (gs_ne (by omega) (gs_ne (by omega) (gs_ne (by omega) (gs_ne (by omega) (gs_ne (by omega) (gs_ne (by omega) (gs_ne (by omega) d5)))))))) (fun x hx => (g3 x hx).2) (by omega) (by omega) (by decide) (by decide) ?_
  refine wn_ld (pc' := 108) (q := 1) (kin := 2) (v := .ref (qs)) rfl (fun _ _ _ => rfl) rfl rfl ?_
  refine wn_get (pc' := 111) (v := .ref (qs + 6)) rfl rfl (gs_ne (by omega) (gs_ne (by omega) (gs_ne (by omega) (gs_ne (by omega) (gs_ne (by omega) (gs_ne (by omega) (gs_ne (by omega) (gs_ne (by omega) (gs_ne (by omega) l0))))))))) rfl ?_
  refine wn_ic (pc' := 112) (w := nI 0) rfl rfl (by decide) ?_
  refine wn_ld (pc' := 113) (q := 0) (kin := 2) (v := .ref (q)) rfl (fun _ _ _ => rfl) rfl rfl ?_
  refine wn_get (pc' := 116) (v := .ref (q + 6)) rfl rfl (gs_ne (by omega) (gs_ne (by omega) (gs_ne (by omega) (gs_ne (by omega) (gs_ne (by omega) (gs_self (gs_self (gs_self (gs_self d0))))))))) rfl ?_
  refine wn_ic (pc' := 117) (w := nI 0) rfl rfl (by decide) ?_
  refine wn_bp (pc' := 119) (w := nI 10) rfl rfl (by decide) ?_
  refine wn_cpyI (pc' := 122) rfl rfl (by decide) (gs_ne (by omega) (gs_ne (by omega) (gs_ne (by omega) (gs_ne (by omega) (gs_ne (by omega) (gs_ne (by omega) (gs_ne (by omega) (gs_ne (by omega) (gs_ne (by omega) l6))))))))) (gs_ne (by omega) (gs_ne (by omega) (gs_ne (by omega) (gs_ne (by omega) (gs_ne (by omega) (gs_ne (by omega) (gs_ne (by omega) (gs_ne (by omega) (gs_ne (by omega) d6))))))))) (by omega) (by omega) (by decide) (by decide) ?_
  refine wn_ld (pc' := 123) (q := 1) (kin := 2) (v := .ref (qs)) rfl (fun _ _ _ => rfl) rfl rfl ?_
  refine wn_get (pc' := 126) (v := .ref (qs + 7)) rfl rfl (gs_ne (by omega) (gs_ne (by omega) (gs_ne (by omega) (gs_ne (by omega) (gs_ne (by omega) (gs_ne (by omega) (gs_ne (by omega) (gs_ne (by omega) (gs_ne (by omega) (gs_ne (by omega) l0)))))))))) rfl ?_
  refine wn_ic (pc' := 127) (w := nI 0) rfl rfl (by decide) ?_
  refine wn_ld (pc' := 128) (q := 0) (kin := 2) (v := .ref (q)) rfl (fun _ _ _ => rfl) rfl rfl ?_
  refine wn_get (pc' := 131) (v := .ref (q + 7)) rfl rfl (gs_ne (by omega) (gs_ne (by omega) (gs_ne (by omega) (gs_ne (by omega) (gs_ne (by omega) (gs_ne (by omega) (gs_self (gs_self (gs_self (gs_self d0)))))))))) rfl ?_
  refine wn_ic (pc' := 132) (w := nI 0) rfl rfl (by decide) ?_
  refine wn_bp (pc' := 134) (w := nI 10) rfl rfl (by decide) ?_
  refine wn_cpyI (pc' := 137) rfl rfl (by decide) (gs_ne (by omega) (gs_ne (by omega) (gs_ne (by omega) (gs_ne (by omega) (gs_ne (by omega) (gs_ne (by omega) (gs_ne (by omega) (gs_ne (by omega) (gs_ne (by omega) (gs_ne (by omega) l7)))))))))) (gs_ne (by omega) (gs_ne (by omega) (gs_ne (by omega) (gs_ne (by omega) (gs_ne (by omega) (gs_ne (by omega) (gs_ne (by omega) (gs_ne (by omega) (gs_ne (by omega) (gs_ne (by omega) d7)))))))))) (by omega) (by omega) (by decide) (by decide) ?_
  refine wn_ld (pc' := 138) (q := 1) (kin := 2) (v := .ref (qs)) rfl (fun _ _ _ => rfl) rfl rfl ?_
  refine wn_get (pc' := 141) (v := .ref (qs + 8)) rfl rfl (gs_ne (by omega) (gs_ne (by omega) (gs_ne (by omega) (gs_ne (by omega) (gs_ne (by omega) (gs_ne (by omega) (gs_ne (by omega) (gs_ne (by omega) (gs_ne (by omega) (gs_ne (by omega) (gs_ne (by omega) l0))))))))))) rfl ?_
  refine wn_ic (pc' := 142) (w := nI 0) rfl rfl (by decide) ?_
  refine wn_ld (pc' := 143) (q := 0) (kin := 2) (v := .ref (q)) rfl (fun _ _ _ => rfl) rfl rfl ?_
  refine wn_get (pc' := 146) (v := .ref (q + 8)) rfl rfl (gs_ne (by omega) (gs_ne (by omega) (gs_ne (by omega) (gs_ne (by omega) (gs_ne (by omega) (gs_ne (by omega) (gs_ne (by omega) (gs_self (gs_self (gs_self (gs_self d0))))))))))) rfl ?_
  refine wn_ic (pc' := 147) (w := nI 0) rfl rfl (by decide) ?_
  refine wn_sp (pc' := 150) (w := nI 240) rfl rfl (by decide) ?_
  refine wn_cpyI (pc' := 153) rfl rfl (by decide) (gs_ne (by omega) (gs_ne (by omega) (gs_ne (by omega) (gs_ne (by omega) (gs_ne (by omega) (gs_ne (by omega) (gs_ne (by omega) (gs_ne (by omega) (gs_ne (by omega) (gs_ne (by omega) (gs_ne (by omega) l8))))))))))) (gs_ne (by omega) (gs_ne (by omega) (gs_ne (by omega) (gs_ne (by omega) (gs_ne (by omega) (gs_ne (by omega) (gs_ne (by omega) (gs_ne (by omega) (gs_ne (by omega) (gs_ne (by omega) (gs_ne (by omega) d8))))))))))) (by omega) (by omega) (by decide) (by decide) ?_
  refine wn_ld (pc' := 154) (q := 0) (kin := 2) (v := .ref (q)) rfl (fun _ _ _ => rfl) rfl rfl ?_
  refine wn_get (pc' := 157) (v := .ref (q + 9)) rfl rfl (gs_ne (by omega) (gs_ne (by omega) (gs_ne (by omega) (gs_ne (by omega) (gs_ne (by omega) (gs_ne (by omega) (gs_ne (by omega) (gs_ne (by omega) (gs_self (gs_self (gs_self (gs_self d0)))))))))))) rfl ?_
  refine wn_ld (pc' := 158) (q := 1) (kin := 2) (v := .ref (qs)) rfl (fun _ _ _ => rfl) rfl rfl ?_
  refine wn_get (pc' := 161) (v := .ref (qs + 9)) rfl rfl (gs_ne (by omega) (gs_ne (by omega) (gs_ne (by omega) (gs_ne (by omega) (gs_ne (by omega) (gs_ne (by omega) (gs_ne (by omega) (gs_ne (by omega) (gs_ne (by omega) (gs_ne (by omega) (gs_ne (by omega) (gs_ne (by omega) l0)))))))))))) rfl ?_
  refine wn_virS (pc' := 164) rfl rfl (by decide) rfl rfl (gs_ne (by omega) (gs_ne (by omega) (gs_ne (by omega) (gs_ne (by omega) (gs_ne (by omega) (gs_ne (by omega) (gs_ne (by omega) (gs_ne (by omega) (gs_ne (by omega) (gs_ne (by omega) (gs_ne (by omega) (gs_ne (by omega) d10)))))))))))) (Nat.le_of_ble_eq_true rfl) (x_cpLaws _ _ (q + 9) (qs + 9) w hWf (by omega) x4 x5 it2 fi2 se2 sg2 l92 rs2 rp2 pj2 pk2 pv2 (d10.kp ((Fr.st (Fr.st (Fr.st (Fr.st (Fr.st (Fr.st (Fr.st (Fr.st (Fr.st (Fr.st (Fr.st (Fr.st (Fr.rfl' [q, q + 1, q + 2, q + 3, q + 4, q + 5, q + 6, q + 7, q + 8] h) (by simp)) (by simp)) (by simp)) (by simp)) (by simp)) (by simp)) (by simp)) (by simp)) (by simp)) (by simp)) (by simp)) (by simp)).2 _ (by simp only [List.mem_cons, List.not_mem_nil, or_false]; omega))) (d11.kp ((Fr.st (Fr.st (Fr.st (Fr.st (Fr.st (Fr.st (Fr.st (Fr.st (Fr.st (Fr.st (Fr.st (Fr.st (Fr.rfl' [q, q + 1, q + 2, q + 3, q + 4, q + 5, q + 6, q + 7, q + 8] h) (by simp)) (by simp)) (by simp)) (by simp)) (by simp)) (by simp)) (by simp)) (by simp)) (by simp)) (by simp)) (by simp)) (by simp)).2 _ (by simp only [List.mem_cons, List.not_mem_nil, or_false]; omega))) (d12.kp ((Fr.st (Fr.st (Fr.st (Fr.st (Fr.st (Fr.st (Fr.st (Fr.st (Fr.st (Fr.st (Fr.st (Fr.st (Fr.rfl' [q, q + 1, q + 2, q + 3, q + 4, q + 5, q + 6, q + 7, q + 8] h) (by simp)) (by simp)) (by simp)) (by simp)) (by simp)) (by simp)) (by simp)) (by simp)) (by simp)) (by simp)) (by simp)) (by simp)).2 _ (by simp only [List.mem_cons, List.not_mem_nil, or_false]; omega))) (d13.kp ((Fr.st (Fr.st (Fr.st (Fr.st (Fr.st (Fr.st (Fr.st (Fr.st (Fr.st (Fr.st (Fr.st (Fr.st (Fr.rfl' [q, q + 1, q + 2, q + 3, q + 4, q + 5, q + 6, q + 7, q + 8] h) (by simp)) (by simp)) (by simp)) (by simp)) (by simp)) (by simp)) (by simp)) (by simp)) (by simp)) (by simp)) (by simp)) (by simp)).2 _ (by simp only [List.mem_cons, List.not_mem_nil, or_false]; omega))) (d14.kp ((Fr.st (Fr.st (Fr.st (Fr.st (Fr.st (Fr.st (Fr.st (Fr.st (Fr.st (Fr.st (Fr.st (Fr.st (Fr.rfl' [q, q + 1, q + 2, q + 3, q + 4, q + 5, q + 6, q + 7, q + 8] h) (by simp)) (by simp)) (by simp)) (by simp)) (by simp)) (by simp)) (by simp)) (by simp)) (by simp)) (by simp)) (by simp)) (by simp)).2 _ (by simp only [List.mem_cons, List.not_mem_nil, or_false]; omega))) (d15.kp ((Fr.st (Fr.st (Fr.st (Fr.st (Fr.st (Fr.st (Fr.st (Fr.st (Fr.st (Fr.st (Fr.st (Fr.st (Fr.rfl' [q, q + 1, q + 2, q + 3, q + 4, q + 5, q + 6, q + 7, q + 8] h) (by simp)) (by simp)) (by simp)) (by simp)) (by simp)) (by simp)) (by simp)) (by simp)) (by simp)) (by simp)) (by simp)) (by simp)).2 _ (by simp only [List.mem_cons, List.not_mem_nil, or_false]; omega))) (d16.kp ((Fr.st (Fr.st (Fr.st (Fr.st (Fr.st (Fr.st (Fr.st (Fr.st (Fr.st (Fr.st (Fr.st (Fr.st (Fr.rfl' [q, q + 1, q + 2, q + 3, q + 4, q + 5, q + 6, q + 7, q + 8] h) (by simp)) (by simp)) (by simp)) (by simp)) (by simp)) (by simp)) (by simp)) (by simp)) (by simp)) (by simp)) (by simp)) (by simp)).2 _ (by simp only [List.mem_cons, List.not_mem_nil, or_false]; omega))) (d17.kp ((Fr.st (Fr.st (Fr.st (Fr.st (Fr.st (Fr.st (Fr.st (Fr.st (Fr.st (Fr.st (Fr.st (Fr.st (Fr.rfl' [q, q + 1, q + 2, q + 3, q + 4, q + 5, q + 6, q + 7, q + 8] h) (by simp)) (by simp)) (by simp)) (by simp)) (by simp)) (by simp)) (by simp)) (by simp)) (by simp)) (by simp)) (by simp)) (by simp)).2 _ (by simp only [List.mem_cons, List.not_mem_nil, or_false]; omega))) (d18.kp ((Fr.st (Fr.st (Fr.st (Fr.st (Fr.st (Fr.st (Fr.st (Fr.st (Fr.st (Fr.st (Fr.st (Fr.st (Fr.rfl' [q, q + 1, q + 2, q + 3, q + 4, q + 5, q + 6, q + 7, q + 8] h) (by simp)) (by simp)) (by simp)) (by simp)) (by simp)) (by simp)) (by simp)) (by simp)) (by simp)) (by simp)) (by simp)) (by simp)).2 _ (by simp only [List.mem_cons, List.not_mem_nil, or_false]; omega))) (d19.kp ((Fr.st (Fr.st (Fr.st (Fr.st (Fr.st (Fr.st (Fr.st (Fr.st (Fr.st (Fr.st (Fr.st (Fr.st (Fr.rfl' [q, q + 1, q + 2, q + 3, q + 4, q + 5, q + 6, q + 7, q + 8] h) (by simp)) (by simp)) (by simp)) (by simp)) (by simp)) (by simp)) (by simp)) (by simp)) (by simp)) (by simp)) (by simp)) (by simp)).2 _ (by simp only [List.mem_cons, List.not_mem_nil, or_false]; omega))) (d20.kp ((Fr.st (Fr.st (Fr.st (Fr.st (Fr.st (Fr.st (Fr.st (Fr.st (Fr.st (Fr.st (Fr.st (Fr.st (Fr.rfl' [q, q + 1, q + 2, q + 3, q + 4, q + 5, q + 6, q + 7, q + 8] h) (by simp)) (by simp)) (by simp)) (by simp)) (by simp)) (by simp)) (by simp)) (by simp)) (by simp)) (by simp)) (by simp)) (by simp)).2 _ (by simp only [List.mem_cons, List.not_mem_nil, or_false]; omega))) (R2.kp (fun k p1 p2 => (Fr.st (Fr.st (Fr.st (Fr.st (Fr.st (Fr.st (Fr.st (Fr.st (Fr.st (Fr.st (Fr.st (Fr.st (Fr.rfl' [q, q + 1, q + 2, q + 3, q + 4, q + 5, q + 6, q + 7, q + 8] h) (by simp)) (by simp)) (by simp)) (by simp)) (by simp)) (by simp)) (by simp)) (by simp)) (by simp)) (by simp)) (by simp)) (by simp)).2 k (by simp only [List.mem_cons, List.not_mem_nil, or_false]; omega)))) (fun r9 h1 e2 => ?_)
  obtain ⟨rfl, l_h1, k_h1, R_h1⟩ := e2
  show Wn _ _ 164 _ [] h1 _
  refine wn_vret rfl rfl ⟨rfl, l_h1.trans (Fr.st (Fr.st (Fr.st (Fr.st (Fr.st (Fr.st (Fr.st (Fr.st (Fr.st (Fr.st (Fr.st (Fr.st (Fr.rfl' [q, q + 1, q + 2, q + 3, q + 4, q + 5, q + 6, q + 7, q + 8] h) (by simp)) (by simp)) (by simp)) (by simp)) (by simp)) (by simp)) (by simp)) (by simp)) (by simp)) (by simp)) (by simp)) (by simp)).1, fun k hk => (k_h1 k (by omega)).trans ((Fr.st (Fr.st (Fr.st (Fr.st (Fr.st (Fr.st (Fr.st (Fr.st (Fr.st (Fr.st (Fr.st (Fr.st (Fr.rfl' [q, q + 1, q + 2, q + 3, q + 4, q + 5, q + 6, q + 7, q + 8] h) (by simp)) (by simp)) (by simp)) (by simp)) (by simp)) (by simp)) (by simp)) (by simp)) (by simp)) (by simp)) (by simp)) (by simp)).2 k (by simp only [List.mem_cons, List.not_mem_nil, or_false]; omega)), ⟨_, _, _, _, _, _, _, _, (k_h1 _ (by omega)).trans (gs_ne (by omega) (gs_ne (by omega) (gs_ne (by omega) (gs_ne (by omega) (gs_ne (by omega) (gs_ne (by omega) (gs_ne (by omega) (gs_ne (by omega) (gs_self (gs_self (gs_self (gs_self d0)))))))))))), (k_h1 _ (by omega)).trans (gs_ne (by omega) (gs_ne (by omega) (gs_ne (by omega) (gs_ne (by omega) (gs_ne (by omega) (gs_ne (by omega) (gs_ne (by omega) (gs_self (gs_ne (by omega) (gs_ne (by omega) (gs_ne (by omega) (gs_ne (by omega) d1)))))))))))), (k_h1 _ (by omega)).trans (gs_ne (by omega) (gs_ne (by omega) (gs_ne (by omega) (gs_ne (by omega) (gs_ne (by omega) (gs_ne (by omega) (gs_self (gs_ne (by omega) (gs_ne (by omega) (gs_ne (by omega) (gs_ne (by omega) (gs_ne (by omega) d2)))))))))))), (k_h1 _ (by omega)).trans (gs_ne (by omega) (gs_ne (by omega) (gs_ne (by omega) (gs_ne (by omega) (gs_ne (by omega) (gs_self (gs_ne (by omega) (gs_ne (by omega) (gs_ne (by omega) (gs_ne (by omega) (gs_ne (by omega) (gs_ne (by omega) d3)))))))))))), (k_h1 _ (by omega)).trans (gs_ne (by omega) (gs_ne (by omega) (gs_ne (by omega) (gs_ne (by omega) (gs_self (gs_ne (by omega) (gs_ne (by omega) (gs_ne (by omega) (gs_ne (by omega) (gs_ne (by omega) (gs_ne (by omega) (gs_ne (by omega) d4)))))))))))), (k_h1 _ (by omega)).trans (gs_ne (by omega) (gs_ne (by omega) (gs_ne (by omega) (gs_self (gs_ne (by omega) (gs_ne (by omega) (gs_ne (by omega) (gs_ne (by omega) (gs_ne (by omega) (gs_ne (by omega) (gs_ne (by omega) (gs_ne (by omega) d5)))))))))))), (k_h1 _ (by omega)).trans (gs_ne (by omega) (gs_ne (by omega) (gs_self (gs_ne (by omega) (gs_ne (by omega) (gs_ne (by omega) (gs_ne (by omega) (gs_ne (by omega) (gs_ne (by omega) (gs_ne (by omega) (gs_ne (by omega) (gs_ne (by omega) d6)))))))))))), (k_h1 _ (by omega)).trans (gs_ne (by omega) (gs_self (gs_ne (by omega) (gs_ne (by omega) (gs_ne (by omega) (gs_ne (by omega) (gs_ne (by omega) (gs_ne (by omega) (gs_ne (by omega) (gs_ne (by omega) (gs_ne (by omega) (gs_ne (by omega) d7)))))))))))), (k_h1 _ (by omega)).trans (gs_self (gs_ne (by omega) (gs_ne (by omega) (gs_ne (by omega) (gs_ne (by omega) (gs_ne (by omega) (gs_ne (by omega) (gs_ne (by omega) (gs_ne (by omega) (gs_ne (by omega) (gs_ne (by omega) (gs_ne (by omega) d8)))))))))))), fun v hv => (cp_in (by omega)).trans (g1 v hv), fun r hr => ?_, fun r hr => ?_, fun i hi => ?_, fun p hp => (cp_in hp).trans (g5 p hp)⟩, R_h1⟩
  · obtain ⟨a1, a2, a3, a4⟩ := g2 r hr
    exact ⟨(cp_in (by omega)).trans a1, (cp_in (by omega)).trans a2, (cp_in (by omega)).trans a3, (cp_in (by omega)).trans a4⟩
  · rw [cp_in hr, cp_in hr]; exact g3 r hr
  · exact ⟨(cp_in (by omega)).trans (g4 i hi).1, (cp_in (by omega)).trans (g4 i hi).2⟩

theorem x_cpVoice (d : Nat) (h : aH) (q qs : Nat) (w : Nat → Int32) (hWf : WfW w) (hd : q + 3 ≤ qs ∨ qs + 3 ≤ q) (S : VoiceS h q) (R : VoiceR h qs w) : Sp (Rn (d + 1)) 63 [.ref (q), .ref (qs)] h (fun r9 h9 => r9 = none ∧ h9.length = h.length ∧ (∀ k, k < q ∨ q + 3 ≤ k → h9[k]? = h[k]?) ∧ VoiceR h9 q w) := by
  obtain ⟨x, hv2, hc2, d0, d1, d2⟩ := id S
  obtain ⟨hv, hc, y0, y1, y2, y3, y4⟩ := id R
  obtain ⟨⟨e1, e2⟩, ⟨e3, e4⟩, ⟨e5, e6⟩⟩ := Wf_n hWf
  refine Sp_of (by decide) (Nat.le_of_ble_eq_true rfl) ?_
  show Wn _ _ 0 [(0, .ref (q)), (1, .ref (qs))] [] _ _
  refine wn_ld (pc' := 1) (q := 0) (kin := 2) (v := .ref (q)) rfl (fun _ _ _ => rfl) rfl rfl ?_
  refine wn_ld (pc' := 2) (q := 1) (kin := 2) (v := .ref (qs)) rfl (fun _ _ _ => rfl) rfl rfl ?_
  refine wn_get (pc' := 5) (v := .int (nI (hdN w (ntW w)))) rfl rfl y0 rfl ?_
  refine wn_put (pc' := 8) rfl rfl d0 (Nat.le_of_ble_eq_true rfl) ⟨rfl, rfl⟩ ?_
  show Wn _ _ 8 _ [] (h.set q (.inr (7, [.int (nI (hdN w (ntW w))), .ref (q + 1), .ref (q + 2)]))) _
  refine wn_ld (pc' := 9) (q := 1) (kin := 2) (v := .ref (qs)) rfl (fun _ _ _ => rfl) rfl rfl ?_
  refine wn_get (pc' := 12) (v := .ref (qs + 1)) rfl rfl (gs_ne (by omega) y0) rfl ?_
  refine wn_ic (pc' := 13) (w := nI 0) rfl rfl (by decide) ?_
  refine wn_ld (pc' := 14) (q := 0) (kin := 2) (v := .ref (q)) rfl (fun _ _ _ => rfl) rfl rfl ?_
  refine wn_get (pc' := 17) (v := .ref (q + 1)) rfl rfl (gs_self d0) rfl ?_
  refine wn_ic (pc' := 18) (w := nI 0) rfl rfl (by decide) ?_
  refine wn_bp (pc' := 20) (w := nI 10) rfl rfl (by decide) ?_
  refine wn_cpyI (pc' := 23) rfl rfl (by decide) (gs_ne (by omega) y1) (gs_ne (by omega) d1) (by omega) (by omega) (by decide) (by decide) ?_
  refine wn_ld (pc' := 24) (q := 1) (kin := 2) (v := .ref (qs)) rfl (fun _ _ _ => rfl) rfl rfl ?_
  refine wn_get (pc' := 27) (v := .ref (qs + 2)) rfl rfl (gs_ne (by omega) (gs_ne (by omega) y0)) rfl ?_
  refine wn_ic (pc' := 28) (w := nI 0) rfl rfl (by decide) ?_
  refine wn_ld (pc' := 29) (q := 0) (kin := 2) (v := .ref (q)) rfl (fun _ _ _ => rfl) rfl rfl ?_
  refine wn_get (pc' := 32) (v := .ref (q + 2)) rfl rfl (gs_ne (by omega) (gs_self d0)) rfl ?_
  refine wn_ic (pc' := 33) (w := nI 0) rfl rfl (by decide) ?_
  refine wn_bp (pc' := 35) (w := nI 10) rfl rfl (by decide) ?_
  refine wn_cpyZ (pc' := 38) rfl rfl (by decide) (gs_ne (by omega) (gs_ne (by omega) y2)) (gs_ne (by omega) (gs_ne (by omega) d2)) (fun x hx => (y3 x hx).2) (by omega) (by omega) (by decide) (by decide) ?_
  refine wn_vret rfl rfl ⟨rfl, (Fr.st (Fr.st (Fr.st (Fr.rfl' [q, q + 1, q + 2] h) (by simp)) (by simp)) (by simp)).1, fun k hk => (Fr.st (Fr.st (Fr.st (Fr.rfl' [q, q + 1, q + 2] h) (by simp)) (by simp)) (by simp)).2 k (by simp only [List.mem_cons, List.not_mem_nil, or_false]; omega), _, _, (gs_ne (by omega) (gs_ne (by omega) (gs_self d0))), (gs_ne (by omega) (gs_self (gs_ne (by omega) d1))), (gs_self (gs_ne (by omega) (gs_ne (by omega) d2))), fun i hi => ?_, fun i hi hne => ?_⟩
  · rw [cp_in hi, cp_in hi]; exact y3 i hi
  · exact (cp_in (by omega)).trans (y4 i hi hne)

theorem x_cpNotes (d : Nat) (h : aH) (q qs : Nat) (w : Nat → Int32) (hd : q + 3 ≤ qs ∨ qs + 3 ≤ q) (S : NotesS h q) (R : NotesR h qs w) : Sp (Rn (d + 1)) 22 [.ref (q), .ref (qs)] h (fun r9 h9 => r9 = none ∧ h9.length = h.length ∧ (∀ k, k < q ∨ q + 3 ≤ k → h9[k]? = h[k]?) ∧ NotesR h9 q w) := by
  obtain ⟨x, an2, wk2, d0, d1, d2⟩ := id S
  obtain ⟨an, wk, n0, n1, n2, n3, n4⟩ := id R
  refine Sp_of (by decide) (Nat.le_of_ble_eq_true rfl) ?_
  show Wn _ _ 0 [(0, .ref (q)), (1, .ref (qs))] [] _ _
  refine wn_ld (pc' := 1) (q := 0) (kin := 2) (v := .ref (q)) rfl (fun _ _ _ => rfl) rfl rfl ?_
  refine wn_ld (pc' := 2) (q := 1) (kin := 2) (v := .ref (qs)) rfl (fun _ _ _ => rfl) rfl rfl ?_
  refine wn_get (pc' := 5) (v := .int (nI (ntS w 1200))) rfl rfl n0 rfl ?_
  refine wn_put (pc' := 8) rfl rfl d0 (Nat.le_of_ble_eq_true rfl) ⟨rfl, rfl⟩ ?_
  show Wn _ _ 8 _ [] (h.set q (.inr (2, [.int (nI (ntS w 1200)), .ref (q + 1), .ref (q + 2)]))) _
  refine wn_ld (pc' := 9) (q := 1) (kin := 2) (v := .ref (qs)) rfl (fun _ _ _ => rfl) rfl rfl ?_
  refine wn_get (pc' := 12) (v := .ref (qs + 1)) rfl rfl (gs_ne (by omega) n0) rfl ?_
  refine wn_ic (pc' := 13) (w := nI 0) rfl rfl (by decide) ?_
  refine wn_ld (pc' := 14) (q := 0) (kin := 2) (v := .ref (q)) rfl (fun _ _ _ => rfl) rfl rfl ?_
  refine wn_get (pc' := 17) (v := .ref (q + 1)) rfl rfl (gs_self d0) rfl ?_
  refine wn_ic (pc' := 18) (w := nI 0) rfl rfl (by decide) ?_
  refine wn_sp (pc' := 21) (w := nI 1200) rfl rfl (by decide) ?_
  refine wn_cpyI (pc' := 24) rfl rfl (by decide) (gs_ne (by omega) n1) (gs_ne (by omega) d1) (by omega) (by omega) (by decide) (by decide) ?_
  refine wn_ld (pc' := 25) (q := 1) (kin := 2) (v := .ref (qs)) rfl (fun _ _ _ => rfl) rfl rfl ?_
  refine wn_get (pc' := 28) (v := .ref (qs + 2)) rfl rfl (gs_ne (by omega) (gs_ne (by omega) n0)) rfl ?_
  refine wn_ic (pc' := 29) (w := nI 0) rfl rfl (by decide) ?_
  refine wn_ld (pc' := 30) (q := 0) (kin := 2) (v := .ref (q)) rfl (fun _ _ _ => rfl) rfl rfl ?_
  refine wn_get (pc' := 33) (v := .ref (q + 2)) rfl rfl (gs_ne (by omega) (gs_self d0)) rfl ?_
  refine wn_ic (pc' := 34) (w := nI 0) rfl rfl (by decide) ?_
  refine wn_bp (pc' := 36) (w := nI 24) rfl rfl (by decide) ?_
  refine wn_cpyI (pc' := 39) rfl rfl (by decide) (gs_ne (by omega) (gs_ne (by omega) n2)) (gs_ne (by omega) (gs_ne (by omega) d2)) (by omega) (by omega) (by decide) (by decide) ?_
  refine wn_vret rfl rfl ⟨rfl, (Fr.st (Fr.st (Fr.st (Fr.rfl' [q, q + 1, q + 2] h) (by simp)) (by simp)) (by simp)).1, fun k hk => (Fr.st (Fr.st (Fr.st (Fr.rfl' [q, q + 1, q + 2] h) (by simp)) (by simp)) (by simp)).2 k (by simp only [List.mem_cons, List.not_mem_nil, or_false]; omega), _, _, (gs_ne (by omega) (gs_ne (by omega) (gs_self d0))), (gs_ne (by omega) (gs_self (gs_ne (by omega) d1))), (gs_self (gs_ne (by omega) (gs_ne (by omega) d2))), fun p hp => (cp_in hp).trans (n3 p hp), fun v hv => (cp_in hv).trans (n4 v hv)⟩

/-- one scene is the class's own, the other an image -/
def Opp (p q v n ps qs vs ns : Nat) : Prop := (p = 23 ∧ (q = 24 ∨ q = 3) ∧ v = 44 ∧ n = 47 ∧ 85 ≤ ps ∧ qs = ps + 1 ∧ vs = ps + 21 ∧ ns = ps + 24) ∨ (ps = 23 ∧ (qs = 24 ∨ qs = 3) ∧ vs = 44 ∧ ns = 47 ∧ 85 ≤ p ∧ q = p + 1 ∧ v = p + 21 ∧ n = p + 24)
theorem x_cpScene (d : Nat) (h : aH) (p q v n ps qs vs ns : Nat) (w : Nat → Int32) (hWf : WfW w) (hd : Opp p q v n ps qs vs ns) (d0 : isO h p 4 [.ref q, .ref v, .ref n]) (S1 : LandS h q) (S2 : VoiceS h v) (S3 : NotesS h n) (R : SceneR h ps qs vs ns w) : Sp (Rn (d + 3)) 43 [.ref (p), .ref (ps)] h (fun r9 h9 => r9 = none ∧ h9.length = h.length ∧ (∀ k, k < q ∨ q + 20 ≤ k → k < v ∨ v + 3 ≤ k → k < n ∨ n + 3 ≤ k → h9[k]? = h[k]?) ∧ SceneR h9 p q v n w) := by
  obtain ⟨s0, R1, R2, R3, R4⟩ := id R
  have ⟨x0, x1, x2, x3, _, _, _, _, _, _, _, _, _, _, _, _, _, _, _, _, _, _, _, _, dq, _⟩ := S1
  obtain ⟨xv, _, _, dv, _⟩ := id S2
  obtain ⟨xn, _, _, dn, _⟩ := id S3
  unfold Opp at hd
  refine Sp_of (by decide) (Nat.le_of_ble_eq_true rfl) ?_
  show Wn _ _ 0 [(0, .ref (p)), (1, .ref (ps))] [] _ _
  refine wn_ld (pc' := 1) (q := 0) (kin := 2) (v := .ref (p)) rfl (fun _ _ _ => rfl) rfl rfl ?_
  refine wn_get (pc' := 4) (v := .ref (q)) rfl rfl d0 rfl ?_
  refine wn_ld (pc' := 5) (q := 1) (kin := 2) (v := .ref (ps)) rfl (fun _ _ _ => rfl) rfl rfl ?_
  refine wn_get (pc' := 8) (v := .ref (qs)) rfl rfl s0 rfl ?_
  refine wn_virS (pc' := 11) rfl rfl (by decide) rfl rfl dq (Nat.le_of_ble_eq_true rfl) (x_cpLand _ _ q qs w hWf (by omega) S1 R1 R2) (fun r9 h1 e2 => ?_)
  obtain ⟨rfl, l_h1, k_h1, L_h1, W_h1⟩ := e2
  show Wn _ _ 11 _ [] h1 _
  refine wn_ld (pc' := 12) (q := 0) (kin := 2) (v := .ref (p)) rfl (fun _ _ _ => rfl) rfl rfl ?_
  refine wn_get (pc' := 15) (v := .ref (v)) rfl rfl ((k_h1 p (by omega)).trans d0) rfl ?_
  refine wn_ld (pc' := 16) (q := 1) (kin := 2) (v := .ref (ps)) rfl (fun _ _ _ => rfl) rfl rfl ?_
  refine wn_get (pc' := 19) (v := .ref (vs)) rfl rfl ((k_h1 ps (by omega)).trans s0) rfl ?_
  refine wn_virS (pc' := 22) rfl rfl (by decide) rfl rfl ((k_h1 v (by omega)).trans dv) (Nat.le_of_ble_eq_true rfl) (x_cpVoice _ _ v vs w hWf (by omega) (S2.kp (fun k p1 p2 => k_h1 k (by omega))) (R3.kp (fun k p1 p2 => k_h1 k (by omega)))) (fun r9 h3 e4 => ?_)
  obtain ⟨rfl, l_h3, k_h3, V_h3⟩ := e4
  show Wn _ _ 22 _ [] h3 _
  refine wn_ld (pc' := 23) (q := 0) (kin := 2) (v := .ref (p)) rfl (fun _ _ _ => rfl) rfl rfl ?_
  refine wn_get (pc' := 26) (v := .ref (n)) rfl rfl ((k_h3 p (by omega)).trans ((k_h1 p (by omega)).trans d0)) rfl ?_
  refine wn_ld (pc' := 27) (q := 1) (kin := 2) (v := .ref (ps)) rfl (fun _ _ _ => rfl) rfl rfl ?_
  refine wn_get (pc' := 30) (v := .ref (ns)) rfl rfl ((k_h3 ps (by omega)).trans ((k_h1 ps (by omega)).trans s0)) rfl ?_
  refine wn_virS (pc' := 33) rfl rfl (by decide) rfl rfl ((k_h3 n (by omega)).trans ((k_h1 n (by omega)).trans dn)) (Nat.le_of_ble_eq_true rfl) (x_cpNotes _ _ n ns w (by omega) ((S3.kp (fun k p1 p2 => k_h1 k (by omega))).kp (fun k p1 p2 => k_h3 k (by omega))) ((R4.kp (fun k p1 p2 => k_h1 k (by omega))).kp (fun k p1 p2 => k_h3 k (by omega)))) (fun r9 h5 e6 => ?_)
  obtain ⟨rfl, l_h5, k_h5, N_h5⟩ := e6
  show Wn _ _ 33 _ [] h5 _
  exact wn_vret rfl rfl ⟨rfl, l_h5.trans (l_h3.trans l_h1), fun k q1 q2 q3 => (k_h5 k q3).trans ((k_h3 k q2).trans (k_h1 k q1)), ((k_h5 p (by omega)).trans ((k_h3 p (by omega)).trans ((k_h1 p (by omega)).trans d0))), (L_h1.kp (fun k p1 p2 => k_h3 k (by omega))).kp (fun k p1 p2 => k_h5 k (by omega)), (W_h1.kp (fun k p1 p2 => k_h3 k (by omega))).kp (fun k p1 p2 => k_h5 k (by omega)), V_h3.kp (fun k p1 p2 => k_h5 k (by omega)), N_h5⟩

theorem x_startWith (d : Nat) (h : aH) (q0 q1 : Nat) (re st : Nat → Int32) (s0 : isO h 52 6 [.ref q0, .ref 53, .ref 54, .ref 55, .ref 56, .ref 57]) (s1 : isI h 53 10 re) (s2 : isI h 54 10 st) : Sp (Rn (d + 1)) 49 [.ref (52), .ref (q1)] h (fun r9 h9 => r9 = none ∧ Fr [52, 53, 54] h h9 ∧ isO h9 52 6 [.ref q1, .ref 53, .ref 54, .ref 55, .ref 56, .ref 57] ∧ ∃ re1 st1, isI h9 53 10 re1 ∧ isI h9 54 10 st1 ∧ ∀ k, k < 10 → re1 k = -1 ∧ st1 k = 0) := by
  refine Sp_of (by decide) (Nat.le_of_ble_eq_true rfl) ?_
  show Wn _ _ 0 [(0, .ref (52)), (1, .ref (q1))] [] _ _
  refine wn_ld (pc' := 1) (q := 0) (kin := 2) (v := .ref (52)) rfl (fun _ _ _ => rfl) rfl rfl ?_
  refine wn_ld (pc' := 2) (q := 1) (kin := 2) (v := .ref (q1)) rfl (fun _ _ _ => rfl) rfl rfl ?_
  refine wn_put (pc' := 5) rfl rfl s0 (Nat.le_of_ble_eq_true rfl) ⟨rfl, rfl⟩ ?_
  show Wn _ _ 5 _ [] (h.set 52 (.inr (6, [.ref (q1), .ref (53), .ref (54), .ref (55), .ref (56), .ref (57)]))) _
  refine wn_ic (pc' := 6) (w := nI 0) rfl rfl (by decide) ?_
  refine wn_st (pc' := 7) (q := 2) (kin := 0) (lv' := [(0, .ref (52)), (1, .ref (q1)), (2, .int (nI (0)))]) rfl (fun _ _ _ => rfl) rfl (Nat.le_of_ble_eq_true rfl) rfl ?_
  have lp2 : ∀ (n_lp2 : Nat) (g1 : aH) (re1 : Nat → Int32) (st1 : Nat → Int32) (k : Nat), 10 + 1 ≤ k + n_lp2 → Fr [52, 53, 54] h g1 → isO g1 52 6 [.ref (q1), .ref (53), .ref (54), .ref (55), .ref (56), .ref (57)] → isI g1 53 10 re1 → isI g1 54 10 st1 → k ≤ 10 → (∀ j, j < k → re1 j = -1 ∧ st1 j = 0) → Wn (Rn (d + 0)) 49 7 [(0, .ref (52)), (1, .ref (q1)), (2, .int (nI (k)))] [] (g1) (fun r9 h9 => r9 = none ∧ Fr [52, 53, 54] h h9 ∧ isO h9 52 6 [.ref q1, .ref 53, .ref 54, .ref 55, .ref 56, .ref 57] ∧ ∃ re1 st1, isI h9 53 10 re1 ∧ isI h9 54 10 st1 ∧ ∀ k, k < 10 → re1 k = -1 ∧ st1 k = 0) := by
    intro n_lp2
    induction n_lp2 with
    | zero => intro g1 re1 st1 k hm_lp2 hf_g1 c_52_g1 c_53_g1 c_54_g1 hk hV; exfalso; omega
    | succ n_lp2 ih_lp2 =>
      intro g1 re1 st1 k hm_lp2 hf_g1 c_52_g1 c_53_g1 c_54_g1 hk hV
      refine wn_ld (pc' := 8) (q := 2) (kin := 0) (v := .int (nI (k))) rfl (fun _ _ _ => rfl) rfl rfl ?_
      refine wn_bp (pc' := 10) (w := nI 10) rfl rfl (by decide) ?_
      refine wn_icmpN (t := 33) (f := 13) rfl rfl rfl (by omega) (by omega) (fun c3 => ?_) (fun c3 => ?_)
      · have c3 : 10 ≤ k := c3
        exact wn_vret rfl rfl ⟨rfl, hf_g1, c_52_g1, _, _, c_53_g1, c_54_g1, fun k hk => hV k (by omega)⟩
      · have c3 : k < 10 := c3
        refine wn_ld (pc' := 14) (q := 0) (kin := 2) (v := .ref (52)) rfl (fun _ _ _ => rfl) rfl rfl ?_
        refine wn_get (pc' := 17) (v := .ref (53)) rfl rfl c_52_g1 rfl ?_
        refine wn_ld (pc' := 18) (q := 2) (kin := 0) (v := .int (nI (k))) rfl (fun _ _ _ => rfl) rfl rfl ?_
        refine wn_ic (pc' := 19) (w := -1) rfl rfl (by decide) ?_
        refine wn_iast (pc' := 20) (j := k) rfl rfl c_53_g1 rfl (by omega) (by decide) ?_
        refine wn_ld (pc' := 21) (q := 0) (kin := 2) (v := .ref (52)) rfl (fun _ _ _ => rfl) rfl rfl ?_
        refine wn_get (pc' := 24) (v := .ref (54)) rfl rfl (gs_ne (by decide) c_52_g1) rfl ?_
        refine wn_ld (pc' := 25) (q := 2) (kin := 0) (v := .int (nI (k))) rfl (fun _ _ _ => rfl) rfl rfl ?_
        refine wn_ic (pc' := 26) (w := nI 0) rfl rfl (by decide) ?_
        refine wn_iast (pc' := 27) (j := k) rfl rfl (gs_ne (by decide) c_54_g1) rfl (by omega) (by decide) ?_
        refine wn_incN (n := 1) (pc' := 30) (lv' := [(0, .ref (52)), (1, .ref (q1)), (2, .int (nI (k + 1)))]) rfl rfl rfl (Nat.le_of_ble_eq_true rfl) rfl (by decide) ?_
        refine wn_jp (pc' := 7) rfl rfl ?_
        refine wn_weak (lv' := [(0, .ref (52)), (1, .ref (q1)), (2, .int (nI (k + 1)))]) (by simp) ?_
        have z9 := ih_lp2 ((g1.set 53 (.inl (0, 10, .inl (upd re1 (k) ((-1)))))).set 54 (.inl (0, 10, .inl (upd st1 (k) ((nI (0))))))) (upd re1 (k) ((-1))) (upd st1 (k) ((nI (0)))) (k + 1) (by omega) (Fr.st (Fr.st hf_g1 (by decide)) (by decide)) (gs_ne (by decide) (gs_ne (by decide) c_52_g1)) (gs_ne (by decide) (gs_self c_53_g1)) (gs_self (gs_ne (by decide) c_54_g1)) (by omega) (fun j hq => by by_cases e : j = k; (subst e; rw [pk_us, pk_us]; exact ⟨rfl, rfl⟩); (rw [pk_un e, pk_un e]; exact hV j (by omega)))
        exact z9
  refine wn_weak (lv' := [(0, .ref (52)), (1, .ref (q1)), (2, .int (nI (0)))]) (by simp) ?_
  have z9 := lp2 (10 + 1) (h.set 52 (.inr (6, [.ref (q1), .ref (53), .ref (54), .ref (55), .ref (56), .ref (57)]))) re st 0 (by omega) (Fr.st (Fr.rfl' [52, 53, 54] h) (by decide)) (gs_self s0) (gs_ne (by decide) s1) (gs_ne (by decide) s2) (by omega) (fun _ q => absurd q (by omega))
  exact z9

