/-! what doesn't touch the cells of a picture leaves it -/
theorem gs_self {h : aH} {k : Nat} {x x0 : aE} (h0 : h[k]? = some x0) : (h.set k x)[k]? = some x := by
  rw [List.getElem?_set_self (List.getElem?_eq_some_iff.mp h0).1]
theorem gs_ne {h : aH} {k k' : Nat} {x y : aE} (hn : k ≠ k') (h0 : h[k']? = some y) : (h.set k x)[k']? = some y := by
  rw [List.getElem?_set_ne hn]
  exact h0
theorem isO.kp {h h' : aH} {k ci : Nat} {fs : List Value} (H : isO h k ci fs) (e : h'[k]? = h[k]?) : isO h' k ci fs := e.trans H
theorem isI.kp {h h' : aH} {k n : Nat} {f : Nat → Int32} (H : isI h k n f) (e : h'[k]? = h[k]?) : isI h' k n f := e.trans H
theorem isB.kp {h h' : aH} {k n : Nat} {f : Nat → Int32} (H : isB h k n f) (e : h'[k]? = h[k]?) : isB h' k n f := e.trans H
theorem isZ.kp {h h' : aH} {k n : Nat} {f : Nat → Int32} (H : isZ h k n f) (e : h'[k]? = h[k]?) : isZ h' k n f := e.trans H
theorem isJ.kp {h h' : aH} {k n : Nat} {f : Nat → Int64} (H : isJ h k n f) (e : h'[k]? = h[k]?) : isJ h' k n f := e.trans H
theorem isA.kp {h h' : aH} {t k n : Nat} {f : Nat → Option Nat} (H : isA h t k n f) (e : h'[k]? = h[k]?) : isA h' t k n f := e.trans H
theorem LandR.kp {h h' : aH} {q : Nat} {w : Nat → Int32} (H : LandR h q w) (hk : ∀ k, q ≤ k → k < q + 9 → h'[k]? = h[k]?) : LandR h' q w := by
  obtain ⟨sz, rf, rt, rv, ag, vr, sd, tl, a0, a1, a2, a3, a4, a5, a6, a7, a8, a9, a10, a11, a12, a13⟩ := H
  exact ⟨sz, rf, rt, rv, ag, vr, sd, tl, a0.kp (hk _ (by omega) (by omega)), a1.kp (hk _ (by omega) (by omega)), a2.kp (hk _ (by omega) (by omega)), a3.kp (hk _ (by omega) (by omega)), a4.kp (hk _ (by omega) (by omega)), a5.kp (hk _ (by omega) (by omega)), a6.kp (hk _ (by omega) (by omega)), a7.kp (hk _ (by omega) (by omega)), a8.kp (hk _ (by omega) (by omega)), a9, a10, a11, a12, a13⟩
theorem LawsR.kp {h h' : aH} {q : Nat} {w : Nat → Int32} (H : LawsR h q w) (hk : ∀ k, q ≤ k → k < q + 11 → h'[k]? = h[k]?) : LawsR h' q w := by
  obtain ⟨sec, it, fi, se, sg, ls, rs, rp, pj, pk, pv, a0, a1, a2, a3, a4, a5, a6, a7, a8, a9, a10, a11, a12, a13⟩ := H
  exact ⟨sec, it, fi, se, sg, ls, rs, rp, pj, pk, pv, a0, a1.kp (hk _ (by omega) (by omega)), a2.kp (hk _ (by omega) (by omega)), a3.kp (hk _ (by omega) (by omega)), a4.kp (hk _ (by omega) (by omega)), a5.kp (hk _ (by omega) (by omega)), a6.kp (hk _ (by omega) (by omega)), a7.kp (hk _ (by omega) (by omega)), a8.kp (hk _ (by omega) (by omega)), a9.kp (hk _ (by omega) (by omega)), a10.kp (hk _ (by omega) (by omega)), a11.kp (hk _ (by omega) (by omega)), a12, a13⟩
theorem VoiceR.kp {h h' : aH} {q : Nat} {w : Nat → Int32} (H : VoiceR h q w) (hk : ∀ k, q ≤ k → k < q + 3 → h'[k]? = h[k]?) : VoiceR h' q w := by
  obtain ⟨hv, hc, a0, a1, a2, a3, a4⟩ := H
  exact ⟨hv, hc, a0.kp (hk _ (by omega) (by omega)), a1.kp (hk _ (by omega) (by omega)), a2.kp (hk _ (by omega) (by omega)), a3, a4⟩
theorem NotesR.kp {h h' : aH} {q : Nat} {w : Nat → Int32} (H : NotesR h q w) (hk : ∀ k, q ≤ k → k < q + 3 → h'[k]? = h[k]?) : NotesR h' q w := by
  obtain ⟨an, wk, a0, a1, a2, a3, a4⟩ := H
  exact ⟨an, wk, a0.kp (hk _ (by omega) (by omega)), a1.kp (hk _ (by omega) (by omega)), a2.kp (hk _ (by omega) (by omega)), a3, a4⟩
theorem SpreadR.kp {h h' : aH} {q : Nat} {w : Nat → Int32} (H : SpreadR h q w) (hk : ∀ k, 52 ≤ k → k < 58 → h'[k]? = h[k]?) : SpreadR h' q w := by
  obtain ⟨re, stl, vr, ne, ms, a0, a1, a2, a3, a4, a5, a6⟩ := H
  exact ⟨re, stl, vr, ne, ms, a0.kp (hk _ (by omega) (by omega)), a1.kp (hk _ (by omega) (by omega)), a2.kp (hk _ (by omega) (by omega)), a3.kp (hk _ (by omega) (by omega)), a4.kp (hk _ (by omega) (by omega)), a5.kp (hk _ (by omega) (by omega)), a6⟩
theorem LandS.kp {h h' : aH} {q : Nat} (H : LandS h q) (hk : ∀ k, q ≤ k → k < q + 20 → h'[k]? = h[k]?) : LandS h' q := by
  obtain ⟨x0, x1, x2, x3, x4, x5, sz, rf, rt, rv, ag, vr, sd, tl, it, fi, se, sg, ls, rs, rp, pj, pk, pv, a0, a1, a2, a3, a4, a5, a6, a7, a8, a9, a10, a11, a12, a13, a14, a15, a16, a17, a18, a19, a20⟩ := H
  exact ⟨x0, x1, x2, x3, x4, x5, sz, rf, rt, rv, ag, vr, sd, tl, it, fi, se, sg, ls, rs, rp, pj, pk, pv, a0.kp (hk _ (by omega) (by omega)), a1.kp (hk _ (by omega) (by omega)), a2.kp (hk _ (by omega) (by omega)), a3.kp (hk _ (by omega) (by omega)), a4.kp (hk _ (by omega) (by omega)), a5.kp (hk _ (by omega) (by omega)), a6.kp (hk _ (by omega) (by omega)), a7.kp (hk _ (by omega) (by omega)), a8.kp (hk _ (by omega) (by omega)), a9, a10.kp (hk _ (by omega) (by omega)), a11.kp (hk _ (by omega) (by omega)), a12.kp (hk _ (by omega) (by omega)), a13.kp (hk _ (by omega) (by omega)), a14.kp (hk _ (by omega) (by omega)), a15.kp (hk _ (by omega) (by omega)), a16.kp (hk _ (by omega) (by omega)), a17.kp (hk _ (by omega) (by omega)), a18.kp (hk _ (by omega) (by omega)), a19.kp (hk _ (by omega) (by omega)), a20.kp (hk _ (by omega) (by omega))⟩
theorem SceneR.kp {h h' : aH} {q qL qV qN : Nat} {w : Nat → Int32} (H : SceneR h q qL qV qN w) (h0 : h'[q]? = h[q]?) (h1 : ∀ k, qL ≤ k → k < qL + 20 → h'[k]? = h[k]?) (h2 : ∀ k, qV ≤ k → k < qV + 3 → h'[k]? = h[k]?) (h3 : ∀ k, qN ≤ k → k < qN + 3 → h'[k]? = h[k]?) : SceneR h' q qL qV qN w := by
  obtain ⟨a0, a1, a2, a3, a4⟩ := H
  exact ⟨a0.kp h0, a1.kp (fun k p1 p2 => h1 k p1 (by omega)), a2.kp (fun k p1 p2 => h1 k (by omega) (by omega)), a3.kp h2, a4.kp h3⟩
theorem RepM.kp {h h' : aH} {w tp : Nat → Int32} {tl : Nat} {im hi : Nat → Int32} {fk fp : Int32} {mn wd : Nat → Int32} {nu : Nat → Int64} (H : RepM h w tp tl im hi fk fp mn wd nu) (hk : ∀ k, 71 ≤ k → k < 85 → h'[k]? = h[k]?) : RepM h' w tp tl im hi fk fp mn wd nu := by
  obtain ⟨th, sz, at9, fr, tk, vl, il, up, lo, fv, fs, sa9, tn, le, mv, a0, a1, a2, a3, a4, a5, a6, a7, a8, a9, a10, a11, a12, a13, a14⟩ := H
  exact ⟨th, sz, at9, fr, tk, vl, il, up, lo, fv, fs, sa9, tn, le, mv, a0.kp (hk _ (by omega) (by omega)), a1.kp (hk _ (by omega) (by omega)), a2.kp (hk _ (by omega) (by omega)), a3.kp (hk _ (by omega) (by omega)), a4.kp (hk _ (by omega) (by omega)), a5.kp (hk _ (by omega) (by omega)), a6.kp (hk _ (by omega) (by omega)), a7.kp (hk _ (by omega) (by omega)), a8.kp (hk _ (by omega) (by omega)), a9.kp (hk _ (by omega) (by omega)), a10.kp (hk _ (by omega) (by omega)), a11.kp (hk _ (by omega) (by omega)), a12.kp (hk _ (by omega) (by omega)), a13.kp (hk _ (by omega) (by omega)), a14⟩
theorem RepC.kp {h h' : aH} {w tp : Nat → Int32} {tl : Nat} {im hi : Nat → Int32} {fk fp : Int32} {mn wd : Nat → Int32} {nu : Nat → Int64} (H : RepC h w tp tl im hi fk fp mn wd nu) (hk : ∀ k, k < 71 ∨ 85 ≤ k → h'[k]? = h[k]?) : RepC h' w tp tl im hi fk fp mn wd nu := by
  obtain ⟨ls, lr, ct, bu, lb, ft, ta, un, ln, k9, s9, a9, n9, ig, sg, b0, b1, b2, b3, b4, b5, b6, b7, b8, b9, b10, b11, b12, b13, b14, b15, b16, b17⟩ := H
  have hls : ls ≤ 24 := by omega
  have hlr : lr ≤ 24 := by omega
  refine ⟨ls, lr, ct, bu, lb, ft, ta, un, ln, k9, s9, a9, n9, ig, sg, b0, b1.kp (hk _ (by omega)), b2.kp (hk _ (by omega)), b3, b4.kp (hk _ (by omega)), b5.kp (fun k p1 p2 => hk k (by omega)), b6.kp (hk _ (by omega)) (fun k p1 p2 => hk k (by omega)) (fun k p1 p2 => hk k (by omega)) (fun k p1 p2 => hk k (by omega)), b7.kp (fun k p1 p2 => hk k (by omega)), b8.kp (hk _ (by omega)), b9.kp (hk _ (by omega)), b10.kp (hk _ (by omega)), b11.kp (hk _ (by omega)), b12.kp (hk _ (by omega)), b13.kp (hk _ (by omega)), fun k p1 => ?_, b15, b16.kp (hk _ (by omega)), fun k p1 => ?_⟩
  · rcases b14 k p1 with c | ⟨c1, q, c2, c3, c4, c5⟩
    · exact Or.inl c
    · exact Or.inr ⟨c1, q, c2, c3, c4.kp (hk _ (by omega)) (fun k p1 p2 => hk k (by omega)) (fun k p1 p2 => hk k (by omega)) (fun k p1 p2 => hk k (by omega)), c5⟩
  · obtain ⟨c1, c2, nm, c3, c4⟩ := b17 k p1
    exact ⟨c1, c2.kp (hk _ (by omega)), nm, c3.kp (hk _ (by omega)), c4⟩
