/-! LAND: the case -/
theorem ntS_z {w : Nat → Int32} {n : Nat} (h : ∀ p, p < n → w (1476 + p) = 0) : ntS w n = 0 := by
  induction n with
  | zero => rfl
  | succ n ih =>
    show ntS w n + (w (1476 + n)).toNatClampNeg = 0
    rw [ih (fun p hp => h p (by omega)), h n (by omega)]; decide
theorem kase_2 : CaseI Rq 68 173 [] := by
  intro h hR
  obtain ⟨w, tp, tl, im, hi, fk, fp, mn, wd, nu, ⟨g1, g8, g9⟩, ⟨g2, g3, g4⟩, HM, HC⟩ := id hR
  obtain ⟨ls, lr, ct, bu, lb, ft, ta, un, ln, k9, s9, a9, n9, ig, sg, b0, b1, b2, b3, b4, b5, b6, b7, b8, b9, b10, b11, b12, b13, b14, b15, b16, b17⟩ := id HC
  obtain ⟨re, stl, vr, ne, ms, s0, s1, s2, s3, s4, s5, s6⟩ := id b7
  obtain ⟨th, sz, at9, fr, tk, vl, il, up, lo, fv, fs, sa9, tn, le, mv, q0, q1, q2, q3, q4, q5, q6, q7, q8, q9, q10, q11, q12, q13, q14⟩ := id HM
  obtain ⟨c23, cL, cW, cV, cN⟩ := id b6
  obtain ⟨r1, h1, x1, r, L1, W1, X⟩ := x_land 692 h tp ct tl ls lr fs g2 b0 b1 b2 b3 fk fp ln k9 s9 a9 n9 b4 b5 c23 cV.s cN.s s0 re stl s1 s2
  have hk7 : ∀ k, 71 ≤ k → k < 85 → h1[k]? = h[k]? := by
    rcases r with e | ⟨p, w'⟩
    · obtain ⟨_, _, hk, _⟩ := X
      exact fun k p1 p2 => hk k (by omega) (by omega) (by omega)
    · obtain ⟨_, _, hk, _⟩ := X
      exact fun k p1 p2 => hk k (by omega) (by omega) (by omega) (by omega) (by omega) (by omega)
  obtain ⟨r2, h2, x2, r', L2, W2, Y⟩ := m_land 692 h1 tp tl w fs g2 g3 th sz at9 fr tk vl fk fp il up lo (q0.kp (hk7 _ (by omega) (by omega))) (q1.kp (hk7 _ (by omega) (by omega))) (q4.kp (hk7 _ (by omega) (by omega))) (q6.kp (hk7 _ (by omega) (by omega)))
  obtain rfl := LinR_d L1 L2
  have q0' := q0.kp (hk7 71 (by omega) (by omega))
  rcases r with e | ⟨p, w'⟩
  · obtain ⟨rfl, l1, hk, o0, ⟨p', o2⟩, S⟩ := X
    obtain ⟨rfl, F2, sz', at', fr', tk', vl', f', m71, m77⟩ := Y
    have k2 : ∀ k, k ≠ 71 → k ≠ 77 → h2[k]? = h1[k]? := fun k a b => F2.2 k (by simp only [List.mem_cons, List.not_mem_nil, or_false]; omega)
    have k3 : ∀ k, 71 ≤ k → k < 85 → k ≠ 71 → k ≠ 77 → h2[k]? = h[k]? := fun k a b c d => (k2 k c d).trans (hk7 k a b)
    have HM2 : RepM h2 w tp 0 im hi (nI e.1) (nI e.2) mn wd nu := ⟨th, sz', at', fr', tk', vl', il, up, lo, fv, f', sa9, tn, le, mv, m71, q1.kp (k3 _ (by omega) (by omega) (by omega) (by omega)), q2.kp (k3 _ (by omega) (by omega) (by omega) (by omega)), q3.kp (k3 _ (by omega) (by omega) (by omega) (by omega)), q4.kp (k3 _ (by omega) (by omega) (by omega) (by omega)), q5.kp (k3 _ (by omega) (by omega) (by omega) (by omega)), m77, q7.kp (k3 _ (by omega) (by omega) (by omega) (by omega)), q8.kp (k3 _ (by omega) (by omega) (by omega) (by omega)), q9.kp (k3 _ (by omega) (by omega) (by omega) (by omega)), q10.kp (k3 _ (by omega) (by omega) (by omega) (by omega)), q11.kp (k3 _ (by omega) (by omega) (by omega) (by omega)), q12.kp (k3 _ (by omega) (by omega) (by omega) (by omega)), q13.kp (k3 _ (by omega) (by omega) (by omega) (by omega)), q14⟩
    have HC1 : RepC h1 w tp 0 im hi (nI e.1) (nI e.2) mn wd nu := by
      refine ⟨ls, lr, ct, bu, lb, ft, ta, un, _, _, _, _, _, ig, sg, b0, o0, b2.kp (hk _ (by omega) (by omega) (by omega)), b3, o2, S, b6.kp (hk _ (by omega) (by omega) (by omega)) (fun k p1 p2 => hk k (by omega) (by omega) (by omega)) (fun k p1 p2 => hk k (by omega) (by omega) (by omega)) (fun k p1 p2 => hk k (by omega) (by omega) (by omega)), b7.kp (fun k p1 p2 => hk k (by omega) (by omega) (by omega)), b8.kp (hk _ (by omega) (by omega) (by omega)), b9.kp (hk _ (by omega) (by omega) (by omega)), b10.kp (hk _ (by omega) (by omega) (by omega)), b11.kp (hk _ (by omega) (by omega) (by omega)), b12.kp (hk _ (by omega) (by omega) (by omega)), b13.kp (hk _ (by omega) (by omega) (by omega)), fun k p1 => ?_, b15, b16.kp (hk _ (by omega) (by omega) (by omega)), fun k p1 => ?_⟩
      · rcases b14 k p1 with c | ⟨d1, q, d2, d3, d4, d5⟩
        · exact Or.inl c
        · exact Or.inr ⟨d1, q, d2, d3, d4.kp (hk _ (by omega) (by omega) (by omega)) (fun k p1 p2 => hk k (by omega) (by omega) (by omega)) (fun k p1 p2 => hk k (by omega) (by omega) (by omega)) (fun k p1 p2 => hk k (by omega) (by omega) (by omega)), d5⟩
      · obtain ⟨d1, d2, nm, d3, d4⟩ := b17 k p1
        exact ⟨d1, d2.kp (hk _ (by omega) (by omega) (by omega)), nm, d3.kp (hk _ (by omega) (by omega) (by omega)), d4⟩
    have HC2 := HC1.kp (h' := h2) (fun k p => k2 k (by omega) (by omega))
    exact ⟨_, h1, h2, 0, 0, _, _, by decide, by decide, b1, x1, q0', x2, w, tp, 0, im, hi, nI e.1, nI e.2, mn, wd, nu, ⟨g1, g8, g9⟩, ⟨by omega, g3, g4⟩, HM2, HC2⟩
  · obtain ⟨rfl, l1, hk, o0, ⟨y1, y2, y3, y4, y5, o2⟩, o23, LR, LW, ⟨o44, hv, hc, i45, i46, hz⟩, ⟨o47, an, wk, i48, i49, na, nw⟩, o52, re1, st1, i53, i54, z1⟩ := X
    obtain ⟨rfl, F2, sz', at', fr', tk', vl', m71, m72, m77⟩ := Y
    obtain ⟨J, _, _, _⟩ := id W1
    have E : ∀ p, p < 2676 → cpW w' w 2676 p = w' p := fun p hp => cpW_e hp
    have wf := cg_wf (w := w') (w' := cpW w' w 2676) E J.wf
    have A9 := cg_a (w := w') (w' := cpW w' w 2676) E
    obtain ⟨_, _, _, _, _, _, _, f1, f2, f3, f4⟩ := id J
    have bv := wf.1.2.1.2
    have bt := wf.1.2.2.2.1.2
    have nv := ag_nv A9
    have nt := ag_nt A9
    have z8 : ∀ i, i < ntW (cpW w' w 2676) → cpW w' w 2676 (178 + 4 * i) = -1 := fun i hi => (E _ (by omega)).trans (f2 i (by omega))
    have zN : ∀ p, p < 1200 → cpW w' w 2676 (1476 + p) = 0 := fun p hp => (E _ (by omega)).trans (f4 p hp)
    have zV : ∀ v, v < nvW (cpW w' w 2676) → cpW w' w 2676 (9 + 2 * v) = -1 := fun v hv => (E _ (by omega)).trans (f1 v (by omega))
    have e8 := hdN_z z8
    have eS := ntS_z zN
    have w8 : Hd8 (cpW w' w 2676) := by unfold Hd8; rw [e8]; omega
    have k2 : ∀ k, k ≠ 71 → k ≠ 72 → k ≠ 77 → h2[k]? = h1[k]? := fun k a b c => F2.2 k (by simp only [List.mem_cons, List.not_mem_nil, or_false]; omega)
    have k3 : ∀ k, 71 ≤ k → k < 85 → k ≠ 71 → k ≠ 72 → k ≠ 77 → h2[k]? = h[k]? := fun k a b c d e => (k2 k c d e).trans (hk7 k a b)
    have HM2 : RepM h2 (cpW w' w 2676) tp 0 im hi (nI 0) (-1) mn wd nu := ⟨th, sz', at', fr', tk', vl', nI 0, up, lo, fv, w', sa9, tn, le, mv, m71, m72, q2.kp (k3 _ (by omega) (by omega) (by omega) (by omega) (by omega)), q3.kp (k3 _ (by omega) (by omega) (by omega) (by omega) (by omega)), q4.kp (k3 _ (by omega) (by omega) (by omega) (by omega) (by omega)), q5.kp (k3 _ (by omega) (by omega) (by omega) (by omega) (by omega)), m77, q7.kp (k3 _ (by omega) (by omega) (by omega) (by omega) (by omega)), q8.kp (k3 _ (by omega) (by omega) (by omega) (by omega) (by omega)), q9.kp (k3 _ (by omega) (by omega) (by omega) (by omega) (by omega)), q10.kp (k3 _ (by omega) (by omega) (by omega) (by omega) (by omega)), q11.kp (k3 _ (by omega) (by omega) (by omega) (by omega) (by omega)), q12.kp (k3 _ (by omega) (by omega) (by omega) (by omega) (by omega)), q13.kp (k3 _ (by omega) (by omega) (by omega) (by omega) (by omega)), Or.inl rfl⟩
    have HC1 : RepC h1 (cpW w' w 2676) tp 0 im hi (nI 0) (-1) mn wd nu := by
      refine ⟨lr, ls, ct, bu, lb, ft, ta, un, _, _, _, _, _, ig, sg, by omega, o0, b2.kp (hk _ (by omega) (by omega) (by omega) (by omega) (by omega) (by omega)), b3, o2, (cL.s cW).kp (fun k p1 p2 => hk k (by omega) (by omega) (by omega) (by omega) (by omega) (by omega)), ⟨o23, LR.ag J.wf A9, LW.ag J.wf A9, ⟨hv, hc, by rw [e8]; exact o44, i45, i46, fun i hi => ⟨?_, Or.inl (hz i hi).2⟩, fun i hi c => absurd (z8 i hi) c⟩, ⟨an, wk, by rw [eS]; exact o47, i48, i49, fun p hp => (na p hp).trans (zN p hp).symm, fun v hv => ?_⟩⟩, ⟨re1, st1, vr, ne, ms, o52, i53, i54, s3.kp (hk _ (by omega) (by omega) (by omega) (by omega) (by omega) (by omega)), s4.kp (hk _ (by omega) (by omega) (by omega) (by omega) (by omega) (by omega)), s5.kp (hk _ (by omega) (by omega) (by omega) (by omega) (by omega) (by omega)), fun i hi => Or.inl (z1 i hi)⟩, b8.kp (hk _ (by omega) (by omega) (by omega) (by omega) (by omega) (by omega)), b9.kp (hk _ (by omega) (by omega) (by omega) (by omega) (by omega) (by omega)), b10.kp (hk _ (by omega) (by omega) (by omega) (by omega) (by omega) (by omega)), b11.kp (hk _ (by omega) (by omega) (by omega) (by omega) (by omega) (by omega)), b12.kp (hk _ (by omega) (by omega) (by omega) (by omega) (by omega) (by omega)), b13.kp (hk _ (by omega) (by omega) (by omega) (by omega) (by omega) (by omega)), fun k p1 => ?_, b15, b16.kp (hk _ (by omega) (by omega) (by omega) (by omega) (by omega) (by omega)), fun k p1 => ?_⟩
      · split
        · exact (hz i hi).1.trans (z8 i (by assumption)).symm
        · exact (hz i hi).1
      · split
        · exact (nw v hv).trans (zV v (by assumption)).symm
        · exact nw v hv
      · rcases b14 k p1 with c | ⟨d1, q, d2, d3, d4, d5⟩
        · exact Or.inl c
        · exact Or.inr ⟨d1, q, d2, d3, d4.kp (hk _ (by omega) (by omega) (by omega) (by omega) (by omega) (by omega)) (fun k p1 p2 => hk k (by omega) (by omega) (by omega) (by omega) (by omega) (by omega)) (fun k p1 p2 => hk k (by omega) (by omega) (by omega) (by omega) (by omega) (by omega)) (fun k p1 p2 => hk k (by omega) (by omega) (by omega) (by omega) (by omega) (by omega)), d5⟩
      · obtain ⟨d1, d2, nm, d3, d4⟩ := b17 k p1
        exact ⟨d1, d2.kp (hk _ (by omega) (by omega) (by omega) (by omega) (by omega) (by omega)), nm, d3.kp (hk _ (by omega) (by omega) (by omega) (by omega) (by omega) (by omega)), d4⟩
    have HC2 := HC1.kp (h' := h2) (fun k p => k2 k (by omega) (by omega) (by omega))
    exact ⟨_, h1, h2, 0, 0, _, _, by decide, by decide, b1, x1, q0', x2, cpW w' w 2676, tp, 0, im, hi, nI 0, -1, mn, wd, nu, ⟨wf, w8, g9⟩, ⟨by omega, g3, g4⟩, HM2, HC2⟩
