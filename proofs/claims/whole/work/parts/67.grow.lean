/-! WORLDS THAT GROW -/
def tldW (w : Nat → Int32) : Prop := ∀ v i, v < 24 → i < 10 → w (216 + 10 * v + i) = -1 ∨ (v < nvW w ∧ i < ntW w ∧ ∃ a, a < vaW w i ∧ w (216 + 10 * v + i) = nI a)
def frsW (w : Nat → Int32) : Prop := (∀ v, v < nvW w → w (9 + 2 * v) = -1) ∧ (∀ i, i < ntW w → w (178 + 4 * i) = -1) ∧ (∀ i, i < 10 → w (179 + 4 * i) = 0) ∧ ∀ p, p < 1200 → w (1476 + p) = 0
def V0W (w : Nat → Int32) : Prop := ∀ v, v < nvW w → ∃ n, 1 ≤ n ∧ n ≤ 99 ∧ w (8 + 2 * v) = nI n
def I0W (w : Nat → Int32) : Prop := ∀ i, i < ntW w → (w (176 + 4 * i) = nI (vaW w i) ∧ 2 ≤ vaW w i ∧ vaW w i ≤ 5) ∧ ∃ a, a < vaW w i ∧ w (177 + 4 * i) = nI a
def WJ (w : Nat → Int32) : Prop := WfA w ∧ V0W w ∧ WfR w ∧ I0W w ∧ tldW w ∧ (∃ sec, WfL w sec) ∧ WfP w ∧ frsW w
theorem WJ.wf {w : Nat → Int32} (H : WJ w) : WfW w := by
  obtain ⟨a, v, r, i, t, l, p, f1, f2, f3, f4⟩ := H
  have b1 := a.2.1.2
  have b2 := a.2.2.2.1.2
  refine ⟨a, fun x hx => ⟨v x hx, Or.inl (f1 x hx)⟩, r, fun x hx => ⟨(i x hx).1, (i x hx).2, Or.inl (f2 x hx), Or.inl (f3 x (by omega))⟩, ⟨fun x y hx hy => ?_, fun x hx => ⟨0, by omega, f4 x hx⟩⟩, l, p⟩
  rcases t x y (by omega) (by omega) with e | ⟨_, _, c, c1, c2⟩
  · exact Or.inl e
  · exact Or.inr ⟨c, c1, c2⟩
section GRW
variable {w w' : Nat → Int32}

theorem g_V (E : ∀ p, 8 ≤ p → p < 56 → w' p = w p) (e : nvW w' = nvW w) (b : nvW w ≤ 24) (H : V0W w) : V0W w' := fun v hv => by
  rw [e] at hv
  obtain ⟨n, a1, a2, a3⟩ := H v hv
  exact ⟨n, a1, a2, (E _ (by omega) (by omega)).trans a3⟩
theorem g_R (E : ∀ p, 56 ≤ p → p < 176 → w' p = w p) (e : nrW w' = nrW w) (e2 : nvW w ≤ nvW w') (b : nrW w ≤ 40) (H : WfR w) : WfR w' := fun r hr => by
  rw [e] at hr
  obtain ⟨⟨a1, a2⟩, ⟨a3, a4⟩, a5, a6⟩ := H r hr
  have ea : rdA w' r = rdA w r := congrArg Int32.toNatClampNeg (E _ (by omega) (by omega))
  have eb : rdB w' r = rdB w r := congrArg Int32.toNatClampNeg (E _ (by omega) (by omega))
  rw [ea, eb, E _ (by omega) (by omega), E _ (by omega) (by omega), E _ (by omega) (by omega)]
  exact ⟨⟨a1, by omega⟩, ⟨a3, by omega⟩, a5, a6⟩
theorem g_va (E : ∀ p, 176 ≤ p → p < 216 → w' p = w p) {i : Nat} (hi : i < 10) : vaW w' i = vaW w i := congrArg Int32.toNatClampNeg (E _ (by omega) (by omega))
theorem g_I (E : ∀ p, 176 ≤ p → p < 216 → w' p = w p) (e : ntW w' = ntW w) (b : ntW w ≤ 10) (H : I0W w) : I0W w' := fun i hi => by
  rw [e] at hi
  rw [g_va E (by omega), E _ (by omega) (by omega), E _ (by omega) (by omega)]
  exact H i hi
theorem g_T (E : ∀ p, 216 ≤ p → p < 456 → w' p = w p) (e1 : nvW w ≤ nvW w') (e2 : ntW w ≤ ntW w') (ev : ∀ i, i < ntW w → vaW w' i = vaW w i) (H : tldW w) : tldW w' := fun v i hv hi => by
  rw [E _ (by omega) (by omega)]
  rcases H v i hv hi with q | ⟨q1, q2, a, q3, q4⟩
  · exact Or.inl q
  · exact Or.inr ⟨by omega, by omega, a, by rw [ev i q2]; exact q3, q4⟩
theorem g_L {sec : Nat → Nat} (b : nlW w ≤ 20) (E : ∀ p, 456 ≤ p → p < 576 + 3 * npW w → w' p = w p) (e : nlW w' = nlW w) (e2 : ntW w ≤ ntW w') (ev : ∀ i, i < ntW w → vaW w' i = vaW w i) (e3 : npW w ≤ npW w') (H : WfL w sec) : WfL w' sec := fun l hl => by
  rw [e] at hl
  obtain ⟨⟨a1, a2⟩, ⟨x1, x2, x3⟩, ⟨y1, y2, y3⟩, ⟨z1, z2, z3⟩, a5, a6, a7, a8, a9, a10, a11, a12⟩ := H l hl
  have ei : lwI w' l = lwI w l := congrArg Int32.toNatClampNeg (E _ (by omega) (by omega))
  have eb : lwB w' l = lwB w l := congrArg Int32.toNatClampNeg (E _ (by omega) (by omega))
  have ee : lwE w' l = lwE w l := by unfold lwE; rw [eb, E _ (by omega) (by omega)]
  rw [ei, eb, ee, ev _ a2]
  refine ⟨⟨(E _ (by omega) (by omega)).trans a1, by omega⟩, ⟨x1, x2, (E _ (by omega) (by omega)).trans x3⟩, ⟨y1, y2, (E _ (by omega) (by omega)).trans y3⟩, ⟨z1, z2, (E _ (by omega) (by omega)).trans z3⟩, (E _ (by omega) (by omega)).trans a5, (E _ (by omega) (by omega)).trans a6, a7, a8, by omega, (E _ (by omega) (by omega)).trans a10, (E _ (by omega) (by omega)).trans a11, fun k h1 h2 h3 => ?_⟩
  obtain ⟨a, q1, q2, q3⟩ := a12 k h1 h2 h3
  exact ⟨a, q1, q2, (E _ (by omega) (by omega)).trans q3⟩
theorem g_P (E : ∀ p, 576 ≤ p → p < 1476 → w' p = w p) (e : npW w' = npW w) (b : npW w ≤ 240) (H : WfP w) : WfP w' := fun k hk => by
  rw [e] at hk
  rw [E _ (by omega) (by omega), E _ (by omega) (by omega)]
  exact H k hk
theorem g_F (E1 : ∀ p, 8 ≤ p → p < 56 → w' p = w p) (E2 : ∀ p, 176 ≤ p → p < 216 → w' p = w p) (E3 : ∀ p, 1476 ≤ p → p < 2676 → w' p = w p) (e1 : nvW w' = nvW w) (e2 : ntW w' = ntW w) (b1 : nvW w ≤ 24) (b2 : ntW w ≤ 10) (H : frsW w) : frsW w' := by
  obtain ⟨f1, f2, f3, f4⟩ := H
  refine ⟨fun v hv => ?_, fun i hi => ?_, fun i hi => (E2 _ (by omega) (by omega)).trans (f3 i hi), fun p hp => (E3 _ (by omega) (by omega)).trans (f4 p hp)⟩
  · rw [e1] at hv; exact (E1 _ (by omega) (by omega)).trans (f1 v hv)
  · rw [e2] at hi; exact (E2 _ (by omega) (by omega)).trans (f2 i hi)
/-- a line more -/
theorem lin_o {p : Nat} (h : p ≠ 0) : linW w p = w p := pk_un h
theorem lin_0 : linW w 0 = nI (lcW w + 1) := pk_us
theorem lin_l (b : lcW w < 2000) : lcW (linW w) = lcW w + 1 := by unfold lcW at *; rw [lin_0]; exact nI_clamp (by unfold lcW; omega)
theorem WJ.lin (H : WJ w) (h : lcW w + 1 ≤ 1200) : WJ (linW w) := by
  obtain ⟨⟨a0, a1, a2, a3, a4, a5⟩, v, r, i, t, ⟨sec, l⟩, p, f⟩ := H
  have e1 : nvW (linW w) = nvW w := congrArg Int32.toNatClampNeg (lin_o (by omega))
  have e2 : nrW (linW w) = nrW w := congrArg Int32.toNatClampNeg (lin_o (by omega))
  have e3 : ntW (linW w) = ntW w := congrArg Int32.toNatClampNeg (lin_o (by omega))
  have e4 : nlW (linW w) = nlW w := congrArg Int32.toNatClampNeg (lin_o (by omega))
  have e5 : npW (linW w) = npW w := congrArg Int32.toNatClampNeg (lin_o (by omega))
  have E : ∀ p, p ≠ 0 → linW w p = w p := fun p h => lin_o h
  refine ⟨⟨⟨_, h, lin_0⟩, ?_, ?_, ?_, ?_, ?_⟩, g_V (fun p q _ => E p (by omega)) e1 a1.2 v, g_R (fun p q _ => E p (by omega)) e2 (by omega) a2.2 r, g_I (fun p q _ => E p (by omega)) e3 a3.2 i, g_T (fun p q _ => E p (by omega)) (by omega) (by omega) (fun i hi => g_va (fun p q _ => E p (by omega)) (by omega)) t, ⟨sec, g_L a4.2 (fun p q _ => E p (by omega)) e4 (by omega) (fun i hi => g_va (fun p q _ => E p (by omega)) (by omega)) (by omega) l⟩, g_P (fun p q _ => E p (by omega)) e5 a5.2 p, g_F (fun p q _ => E p (by omega)) (fun p q _ => E p (by omega)) (fun p q _ => E p (by omega)) e1 e3 a1.2 a3.2 f⟩
  · rw [e1, E 1 (by omega)]; exact a1
  · rw [e2, E 2 (by omega)]; exact a2
  · rw [e3, E 3 (by omega)]; exact a3
  · rw [e4, E 4 (by omega)]; exact a4
  · rw [e5, E 5 (by omega)]; exact a5
/-- a village more -/
theorem vil_o {s p : Nat} (h1 : p ≠ 1) (h2 : p ≠ 8 + 2 * nvW w) (h3 : p ≠ 9 + 2 * nvW w) : vilW w s p = w p := by
  unfold vilW; rw [pk_un h1, pk_un (by omega), pk_un h2]
theorem vil_1 {s : Nat} : vilW w s 1 = nI (nvW w + 1) := pk_us
theorem vil_a {s : Nat} : vilW w s (8 + 2 * nvW w) = nI s := by unfold vilW; rw [pk_un (by omega), pk_un (by omega), pk_us]
theorem vil_b {s : Nat} : vilW w s (9 + 2 * nvW w) = -1 := by
  unfold vilW; rw [pk_un (by omega), show 9 + 2 * nvW w = 8 + 2 * nvW w + 1 by omega, pk_us]
theorem vil_n {s : Nat} (b : nvW w < 24) : nvW (vilW w s) = nvW w + 1 := by
  show (vilW w s 1).toNatClampNeg = _; rw [vil_1]; exact nI_clamp (by omega)
theorem WJ.vil {s : Nat} (H : WJ w) (b : nvW w < 24) (h1 : 1 ≤ s) (h2 : s ≤ 99) : WJ (vilW w s) := by
  obtain ⟨⟨a0, a1, a2, a3, a4, a5⟩, v, r, i, t, ⟨sec, l⟩, p, f1, f2, f3, f4⟩ := H
  have en := vil_n (w := w) (s := s) b
  have E : ∀ p, p ≠ 1 → p < 8 ∨ 56 ≤ p → vilW w s p = w p := fun p h h' => vil_o h (by omega) (by omega)
  have e2 : nrW (vilW w s) = nrW w := congrArg Int32.toNatClampNeg (E _ (by omega) (by omega))
  have e3 : ntW (vilW w s) = ntW w := congrArg Int32.toNatClampNeg (E _ (by omega) (by omega))
  have e4 : nlW (vilW w s) = nlW w := congrArg Int32.toNatClampNeg (E _ (by omega) (by omega))
  have e5 : npW (vilW w s) = npW w := congrArg Int32.toNatClampNeg (E _ (by omega) (by omega))
  refine ⟨⟨by rw [E 0 (by omega) (by omega)]; exact a0, ?_, ?_, ?_, ?_, ?_⟩, fun x hx => ?_, g_R (fun p q _ => E p (by omega) (by omega)) e2 (by omega) a2.2 r, g_I (fun p q _ => E p (by omega) (by omega)) e3 a3.2 i, g_T (fun p q _ => E p (by omega) (by omega)) (by omega) (by omega) (fun i hi => g_va (fun p q _ => E p (by omega) (by omega)) (by omega)) t, ⟨sec, g_L a4.2 (fun p q _ => E p (by omega) (by omega)) e4 (by omega) (fun i hi => g_va (fun p q _ => E p (by omega) (by omega)) (by omega)) (by omega) l⟩, g_P (fun p q _ => E p (by omega) (by omega)) e5 a5.2 p, fun x hx => ?_, fun x hx => ?_, fun x hx => (E _ (by omega) (by omega)).trans (f3 x hx), fun x hx => (E _ (by omega) (by omega)).trans (f4 x hx)⟩
  · rw [en, vil_1]; exact ⟨rfl, by omega⟩
  · rw [e2, E 2 (by omega) (by omega)]; exact a2
  · rw [e3, E 3 (by omega) (by omega)]; exact a3
  · rw [e4, E 4 (by omega) (by omega)]; exact a4
  · rw [e5, E 5 (by omega) (by omega)]; exact a5
  · rw [en] at hx
    by_cases c : x = nvW w
    · subst c; exact ⟨s, h1, h2, vil_a⟩
    · obtain ⟨n, q1, q2, q3⟩ := v x (by omega)
      exact ⟨n, q1, q2, (vil_o (by omega) (by omega) (by omega)).trans q3⟩
  · rw [en] at hx
    by_cases c : x = nvW w
    · subst c; exact vil_b
    · exact (vil_o (by omega) (by omega) (by omega)).trans (f1 x (by omega))
  · rw [e3] at hx; exact (E _ (by omega) (by omega)).trans (f2 x hx)
/-- a road more -/
theorem rod_o {a b r p : Nat} (h1 : p ≠ 2) (h2 : p < 56 + 3 * nrW w ∨ 59 + 3 * nrW w ≤ p) : rodW w a b r p = w p := by
  unfold rodW; rw [pk_un h1, pk_un (by omega), pk_un (by omega), pk_un (by omega)]
theorem rod_2 {a b r : Nat} : rodW w a b r 2 = nI (nrW w + 1) := pk_us
theorem rod_a {a b r : Nat} : rodW w a b r (56 + 3 * nrW w) = nI a := by unfold rodW; rw [pk_un (by omega), pk_un (by omega), pk_un (by omega), pk_us]
theorem rod_b {a b r : Nat} : rodW w a b r (57 + 3 * nrW w) = nI b := by
  unfold rodW; rw [pk_un (by omega), pk_un (by omega), show 57 + 3 * nrW w = 56 + 3 * nrW w + 1 by omega, pk_us]
theorem rod_r {a b r : Nat} : rodW w a b r (58 + 3 * nrW w) = nI r := by
  unfold rodW; rw [pk_un (by omega), show 58 + 3 * nrW w = 56 + 3 * nrW w + 2 by omega, pk_us]
theorem rod_n {a b r : Nat} (h : nrW w < 40) : nrW (rodW w a b r) = nrW w + 1 := by
  show (rodW w a b r 2).toNatClampNeg = _; rw [rod_2]; exact nI_clamp (by omega)
theorem WJ.rod {a b r' : Nat} (H : WJ w) (hb : nrW w < 40) (h1 : a < nvW w) (h2 : b < nvW w) (h3 : a ≠ b) (h4 : r' ≤ 1) : WJ (rodW w a b r') := by
  obtain ⟨⟨a0, a1, a2, a3, a4, a5⟩, v, r, i, t, ⟨sec, l⟩, p, f⟩ := H
  have en := rod_n (w := w) (a := a) (b := b) (r := r') hb
  have E : ∀ p, p ≠ 2 → p < 56 ∨ 176 ≤ p → rodW w a b r' p = w p := fun p h h' => rod_o h (by omega)
  have e1 : nvW (rodW w a b r') = nvW w := congrArg Int32.toNatClampNeg (E _ (by omega) (by omega))
  have e3 : ntW (rodW w a b r') = ntW w := congrArg Int32.toNatClampNeg (E _ (by omega) (by omega))
  have e4 : nlW (rodW w a b r') = nlW w := congrArg Int32.toNatClampNeg (E _ (by omega) (by omega))
  have e5 : npW (rodW w a b r') = npW w := congrArg Int32.toNatClampNeg (E _ (by omega) (by omega))
  refine ⟨⟨by rw [E 0 (by omega) (by omega)]; exact a0, ?_, ?_, ?_, ?_, ?_⟩, g_V (fun p q _ => E p (by omega) (by omega)) e1 a1.2 v, fun x hx => ?_, g_I (fun p q _ => E p (by omega) (by omega)) e3 a3.2 i, g_T (fun p q _ => E p (by omega) (by omega)) (by omega) (by omega) (fun i hi => g_va (fun p q _ => E p (by omega) (by omega)) (by omega)) t, ⟨sec, g_L a4.2 (fun p q _ => E p (by omega) (by omega)) e4 (by omega) (fun i hi => g_va (fun p q _ => E p (by omega) (by omega)) (by omega)) (by omega) l⟩, g_P (fun p q _ => E p (by omega) (by omega)) e5 a5.2 p, g_F (fun p q _ => E p (by omega) (by omega)) (fun p q _ => E p (by omega) (by omega)) (fun p q _ => E p (by omega) (by omega)) e1 e3 a1.2 a3.2 f⟩
  · rw [e1, E 1 (by omega) (by omega)]; exact a1
  · rw [en, rod_2]; exact ⟨rfl, by omega⟩
  · rw [e3, E 3 (by omega) (by omega)]; exact a3
  · rw [e4, E 4 (by omega) (by omega)]; exact a4
  · rw [e5, E 5 (by omega) (by omega)]; exact a5
  · rw [en] at hx
    by_cases c : x = nrW w
    · subst c
      have ea : rdA (rodW w a b r') (nrW w) = a := by show (rodW w a b r' (56 + 3 * nrW w)).toNatClampNeg = a; rw [rod_a]; exact nI_clamp (by omega)
      have eb : rdB (rodW w a b r') (nrW w) = b := by show (rodW w a b r' (57 + 3 * nrW w)).toNatClampNeg = b; rw [rod_b]; exact nI_clamp (by omega)
      rw [ea, eb, e1, rod_a, rod_b, rod_r]
      refine ⟨⟨rfl, h1⟩, ⟨rfl, h2⟩, h3, ?_⟩
      rcases (show r' = 0 ∨ r' = 1 by omega) with q | q
      · subst q; exact Or.inl rfl
      · subst q; exact Or.inr rfl
    · have o : ∀ k, k < 3 → rodW w a b r' (56 + k + 3 * x) = w (56 + k + 3 * x) := fun k hk => rod_o (by omega) (by omega)
      have ea : rdA (rodW w a b r') x = rdA w x := congrArg Int32.toNatClampNeg (o 0 (by omega))
      have eb : rdB (rodW w a b r') x = rdB w x := congrArg Int32.toNatClampNeg (o 1 (by omega))
      rw [ea, eb, e1, show rodW w a b r' (56 + 3 * x) = w (56 + 3 * x) from o 0 (by omega), show rodW w a b r' (57 + 3 * x) = w (57 + 3 * x) from o 1 (by omega), show rodW w a b r' (58 + 3 * x) = w (58 + 3 * x) from o 2 (by omega)]
      exact r x (by omega)
/-- an item more -/
theorem itm_o {m s p : Nat} (h1 : p ≠ 3) (h2 : p < 176 + 4 * ntW w ∨ 179 + 4 * ntW w ≤ p) : itmW w m s p = w p := by
  unfold itmW; rw [pk_un h1, pk_un (by omega), pk_un (by omega), pk_un (by omega)]
theorem itm_3 {m s : Nat} : itmW w m s 3 = nI (ntW w + 1) := pk_us
theorem itm_a {m s : Nat} : itmW w m s (176 + 4 * ntW w) = nI m := by unfold itmW; rw [pk_un (by omega), pk_un (by omega), pk_un (by omega), pk_us]
theorem itm_b {m s : Nat} : itmW w m s (177 + 4 * ntW w) = nI s := by
  unfold itmW; rw [pk_un (by omega), pk_un (by omega), show 177 + 4 * ntW w = 176 + 4 * ntW w + 1 by omega, pk_us]
theorem itm_c {m s : Nat} : itmW w m s (178 + 4 * ntW w) = -1 := by
  unfold itmW; rw [pk_un (by omega), show 178 + 4 * ntW w = 176 + 4 * ntW w + 2 by omega, pk_us]
theorem itm_n {m s : Nat} (h : ntW w < 10) : ntW (itmW w m s) = ntW w + 1 := by
  show (itmW w m s 3).toNatClampNeg = _; rw [itm_3]; exact nI_clamp (by omega)
theorem itm_va {m s i : Nat} (h : i < ntW w) : vaW (itmW w m s) i = vaW w i := congrArg Int32.toNatClampNeg (itm_o (by omega) (by omega))
theorem WJ.itm {m s : Nat} (H : WJ w) (hb : ntW w < 10) (h1 : 2 ≤ m) (h2 : m ≤ 5) (h3 : s < m) : WJ (itmW w m s) := by
  obtain ⟨⟨a0, a1, a2, a3, a4, a5⟩, v, r, i, t, ⟨sec, l⟩, p, f1, f2, f3, f4⟩ := H
  have en := itm_n (w := w) (m := m) (s := s) hb
  have E : ∀ p, p ≠ 3 → p < 176 ∨ 216 ≤ p → itmW w m s p = w p := fun p h h' => itm_o h (by omega)
  have e1 : nvW (itmW w m s) = nvW w := congrArg Int32.toNatClampNeg (E _ (by omega) (by omega))
  have e2 : nrW (itmW w m s) = nrW w := congrArg Int32.toNatClampNeg (E _ (by omega) (by omega))
  have e4 : nlW (itmW w m s) = nlW w := congrArg Int32.toNatClampNeg (E _ (by omega) (by omega))
  have e5 : npW (itmW w m s) = npW w := congrArg Int32.toNatClampNeg (E _ (by omega) (by omega))
  have ev : ∀ i, i < ntW w → vaW (itmW w m s) i = vaW w i := fun i hi => itm_va hi
  refine ⟨⟨by rw [E 0 (by omega) (by omega)]; exact a0, ?_, ?_, ?_, ?_, ?_⟩, g_V (fun p q _ => E p (by omega) (by omega)) e1 a1.2 v, g_R (fun p q _ => E p (by omega) (by omega)) e2 (by omega) a2.2 r, fun x hx => ?_, g_T (fun p q _ => E p (by omega) (by omega)) (by omega) (by omega) ev t, ⟨sec, g_L a4.2 (fun p q _ => E p (by omega) (by omega)) e4 (by omega) ev (by omega) l⟩, g_P (fun p q _ => E p (by omega) (by omega)) e5 a5.2 p, fun x hx => ?_, fun x hx => ?_, fun x hx => ?_, fun x hx => (E _ (by omega) (by omega)).trans (f4 x hx)⟩
  · rw [e1, E 1 (by omega) (by omega)]; exact a1
  · rw [e2, E 2 (by omega) (by omega)]; exact a2
  · rw [en, itm_3]; exact ⟨rfl, by omega⟩
  · rw [e4, E 4 (by omega) (by omega)]; exact a4
  · rw [e5, E 5 (by omega) (by omega)]; exact a5
  · rw [en] at hx
    by_cases c : x = ntW w
    · subst c
      have ea : vaW (itmW w m s) (ntW w) = m := by show (itmW w m s (176 + 4 * ntW w)).toNatClampNeg = m; rw [itm_a]; exact nI_clamp (by omega)
      rw [ea, itm_a, itm_b]
      exact ⟨⟨rfl, h1, h2⟩, s, h3, rfl⟩
    · rw [ev x (by omega), itm_o (by omega) (by omega), itm_o (by omega) (by omega)]
      exact i x (by omega)
  · rw [e1] at hx; exact (E _ (by omega) (by omega)).trans (f1 x hx)
  · rw [en] at hx
    by_cases c : x = ntW w
    · subst c; exact itm_c
    · exact (itm_o (by omega) (by omega)).trans (f2 x (by omega))
  · exact (itm_o (by omega) (by omega)).trans (f3 x hx)
/-- something told -/
theorem say_o {v i a p : Nat} (h : p ≠ 216 + 10 * v + i) : sayW w v i a p = w p := pk_un h
theorem WJ.say {v' i' a' : Nat} (H : WJ w) (h1 : v' < nvW w) (h2 : i' < ntW w) (h3 : a' < vaW w i') : WJ (sayW w v' i' a') := by
  obtain ⟨⟨a0, a1, a2, a3, a4, a5⟩, v, r, i, t, ⟨sec, l⟩, p, f⟩ := H
  have E : ∀ p, p < 216 ∨ 456 ≤ p → sayW w v' i' a' p = w p := fun p h' => say_o (by omega)
  have e1 : nvW (sayW w v' i' a') = nvW w := congrArg Int32.toNatClampNeg (E _ (by omega))
  have e2 : nrW (sayW w v' i' a') = nrW w := congrArg Int32.toNatClampNeg (E _ (by omega))
  have e3 : ntW (sayW w v' i' a') = ntW w := congrArg Int32.toNatClampNeg (E _ (by omega))
  have e4 : nlW (sayW w v' i' a') = nlW w := congrArg Int32.toNatClampNeg (E _ (by omega))
  have e5 : npW (sayW w v' i' a') = npW w := congrArg Int32.toNatClampNeg (E _ (by omega))
  have ev : ∀ i, i < ntW w → vaW (sayW w v' i' a') i = vaW w i := fun i hi => g_va (fun p q _ => E p (by omega)) (by omega)
  refine ⟨⟨by rw [E 0 (by omega)]; exact a0, ?_, ?_, ?_, ?_, ?_⟩, g_V (fun p q _ => E p (by omega)) e1 a1.2 v, g_R (fun p q _ => E p (by omega)) e2 (by omega) a2.2 r, g_I (fun p q _ => E p (by omega)) e3 a3.2 i, fun x y hx hy => ?_, ⟨sec, g_L a4.2 (fun p q _ => E p (by omega)) e4 (by omega) ev (by omega) l⟩, g_P (fun p q _ => E p (by omega)) e5 a5.2 p, g_F (fun p q _ => E p (by omega)) (fun p q _ => E p (by omega)) (fun p q _ => E p (by omega)) e1 e3 a1.2 a3.2 f⟩
  · rw [e1, E 1 (by omega)]; exact a1
  · rw [e2, E 2 (by omega)]; exact a2
  · rw [e3, E 3 (by omega)]; exact a3
  · rw [e4, E 4 (by omega)]; exact a4
  · rw [e5, E 5 (by omega)]; exact a5
  · by_cases c : 216 + 10 * x + y = 216 + 10 * v' + i'
    · obtain ⟨rfl, rfl⟩ : x = v' ∧ y = i' := by omega
      exact Or.inr ⟨by omega, by omega, a', by rw [ev _ h2]; exact h3, pk_us⟩
    · rw [say_o c, e1, e3]
      rcases t x y hx hy with q | ⟨q1, q2, a, q3, q4⟩
      · exact Or.inl q
      · exact Or.inr ⟨q1, q2, a, by rw [ev _ q2]; exact q3, q4⟩
/-- a part more -/
theorem prt_o {j k v p : Nat} (h1 : p ≠ 5) (h2 : p < 576 + 3 * npW w ∨ 579 + 3 * npW w ≤ p) : prtW w j k v p = w p := by
  unfold prtW; rw [pk_un h1, pk_un (by omega), pk_un (by omega), pk_un (by omega)]
theorem prt_5 {j k v : Nat} : prtW w j k v 5 = nI (npW w + 1) := pk_us
theorem prt_a {j k v : Nat} : prtW w j k v (576 + 3 * npW w) = nI j := by unfold prtW; rw [pk_un (by omega), pk_un (by omega), pk_un (by omega), pk_us]
theorem prt_b {j k v : Nat} : prtW w j k v (577 + 3 * npW w) = nI k := by
  unfold prtW; rw [pk_un (by omega), pk_un (by omega), show 577 + 3 * npW w = 576 + 3 * npW w + 1 by omega, pk_us]
theorem prt_c {j k v : Nat} : prtW w j k v (578 + 3 * npW w) = nI v := by
  unfold prtW; rw [pk_un (by omega), show 578 + 3 * npW w = 576 + 3 * npW w + 2 by omega, pk_us]
theorem prt_n {j k v : Nat} (h : npW w < 240) : npW (prtW w j k v) = npW w + 1 := by
  show (prtW w j k v 5).toNatClampNeg = _; rw [prt_5]; exact nI_clamp (by omega)
theorem WJ.prt {j k v' : Nat} (H : WJ w) (hb : npW w < 240) (h1 : k ≤ 4) (h2 : v' ≤ 999) (h3 : k = 1 ∨ k = 2 → v' < 5) : WJ (prtW w j k v') := by
  obtain ⟨⟨a0, a1, a2, a3, a4, a5⟩, v, r, i, t, ⟨sec, l⟩, p, f⟩ := H
  have en := prt_n (w := w) (j := j) (k := k) (v := v') hb
  have E : ∀ p, p ≠ 5 → p < 576 ∨ 1476 ≤ p → prtW w j k v' p = w p := fun p h h' => prt_o h (by omega)
  have e1 : nvW (prtW w j k v') = nvW w := congrArg Int32.toNatClampNeg (E _ (by omega) (by omega))
  have e2 : nrW (prtW w j k v') = nrW w := congrArg Int32.toNatClampNeg (E _ (by omega) (by omega))
  have e3 : ntW (prtW w j k v') = ntW w := congrArg Int32.toNatClampNeg (E _ (by omega) (by omega))
  have e4 : nlW (prtW w j k v') = nlW w := congrArg Int32.toNatClampNeg (E _ (by omega) (by omega))
  have ev : ∀ i, i < ntW w → vaW (prtW w j k v') i = vaW w i := fun i hi => g_va (fun p q _ => E p (by omega) (by omega)) (by omega)
  refine ⟨⟨by rw [E 0 (by omega) (by omega)]; exact a0, ?_, ?_, ?_, ?_, ?_⟩, g_V (fun p q _ => E p (by omega) (by omega)) e1 a1.2 v, g_R (fun p q _ => E p (by omega) (by omega)) e2 (by omega) a2.2 r, g_I (fun p q _ => E p (by omega) (by omega)) e3 a3.2 i, g_T (fun p q _ => E p (by omega) (by omega)) (by omega) (by omega) ev t, ⟨sec, g_L a4.2 (fun p q q2 => prt_o (by omega) (by omega)) e4 (by omega) ev (by omega) l⟩, fun x hx => ?_, g_F (fun p q _ => E p (by omega) (by omega)) (fun p q _ => E p (by omega) (by omega)) (fun p q _ => E p (by omega) (by omega)) e1 e3 a1.2 a3.2 f⟩
  · rw [e1, E 1 (by omega) (by omega)]; exact a1
  · rw [e2, E 2 (by omega) (by omega)]; exact a2
  · rw [e3, E 3 (by omega) (by omega)]; exact a3
  · rw [e4, E 4 (by omega) (by omega)]; exact a4
  · rw [en, prt_5]; exact ⟨rfl, by omega⟩
  · rw [en] at hx
    by_cases c : x = npW w
    · subst c
      rw [prt_b, prt_c]
      refine ⟨⟨k, h1, rfl⟩, v', h2, rfl, fun q => h3 ?_⟩
      rcases q with q | q
      · exact Or.inl ((nI_eq (show k < 2 ^ 31 by omega) (show 1 < 2 ^ 31 by omega)).mp q)
      · exact Or.inr ((nI_eq (show k < 2 ^ 31 by omega) (show 2 < 2 ^ 31 by omega)).mp q)
    · rw [prt_o (by omega) (by omega), prt_o (by omega) (by omega)]
      exact p x (by omega)
/-- a law more -/
theorem law_o {i a b s bg p : Nat} (h1 : p ≠ 4) (h2 : p < 456 + 6 * nlW w ∨ 462 + 6 * nlW w ≤ p) : lawW w i a b s bg p = w p := by
  unfold lawW; rw [pk_un h1, pk_un (by omega), pk_un (by omega), pk_un (by omega), pk_un (by omega), pk_un (by omega), pk_un (by omega)]
theorem law_c4 {i a b s bg : Nat} : lawW w i a b s bg 4 = nI (nlW w + 1) := pk_us
theorem law_k {i a b s bg : Nat} : lawW w i a b s bg (456 + 6 * nlW w) = nI i ∧ lawW w i a b s bg (457 + 6 * nlW w) = nI a ∧ lawW w i a b s bg (458 + 6 * nlW w) = nI b ∧ lawW w i a b s bg (459 + 6 * nlW w) = nI s ∧ lawW w i a b s bg (460 + 6 * nlW w) = nI bg ∧ lawW w i a b s bg (461 + 6 * nlW w) = nI (npW w - bg) := by
  unfold lawW
  refine ⟨?_, ?_, ?_, ?_, ?_, ?_⟩
  · rw [pk_un (by omega), pk_un (by omega), pk_un (by omega), pk_un (by omega), pk_un (by omega), pk_un (by omega), pk_us]
  · rw [show 457 + 6 * nlW w = 456 + 6 * nlW w + 1 by omega, pk_un (by omega), pk_un (by omega), pk_un (by omega), pk_un (by omega), pk_un (by omega), pk_us]
  · rw [show 458 + 6 * nlW w = 456 + 6 * nlW w + 2 by omega, pk_un (by omega), pk_un (by omega), pk_un (by omega), pk_un (by omega), pk_us]
  · rw [show 459 + 6 * nlW w = 456 + 6 * nlW w + 3 by omega, pk_un (by omega), pk_un (by omega), pk_un (by omega), pk_us]
  · rw [show 460 + 6 * nlW w = 456 + 6 * nlW w + 4 by omega, pk_un (by omega), pk_un (by omega), pk_us]
  · rw [show 461 + 6 * nlW w = 456 + 6 * nlW w + 5 by omega, pk_un (by omega), pk_us]
theorem law_n {i a b s bg : Nat} (h : nlW w < 20) : nlW (lawW w i a b s bg) = nlW w + 1 := by
  show (lawW w i a b s bg 4).toNatClampNeg = _; rw [law_c4]; exact nI_clamp (by omega)
def secN (a q : Nat) (sec : Nat → Nat) (l : Nat) : Nat := if l = a then q else sec l
def lwP (w : Nat → Int32) (bg q : Nat) : Prop := bg < q ∧ q < npW w ∧ w (576 + 3 * q) = 4 ∧ w (576 + 3 * bg) = 0 ∧ ∀ k, bg < k → k < npW w → k ≠ q → ∃ a, 1 ≤ a ∧ a ≤ 3 ∧ w (576 + 3 * k) = nI a
theorem law_L {i a b s bg q : Nat} {sec : Nat → Nat} (hA : WfA w) (hb : nlW w < 20) (h1 : i < ntW w) (h2 : a < vaW w i) (h3 : b < vaW w i) (h4 : s < 3) (h5 : lwP w bg q) (hv : ∀ i, i < ntW w → vaW w i ≤ 5) (H : WfL w sec) : WfL (lawW w i a b s bg) (secN (nlW w) q sec) := by
  obtain ⟨a0, a1, a2, a3, a4, a5⟩ := hA
  have en := law_n (w := w) (i := i) (a := a) (b := b) (s := s) (bg := bg) hb
  obtain ⟨k1, k2, k3, k4, k5, k6⟩ := law_k (w := w) (i := i) (a := a) (b := b) (s := s) (bg := bg)
  have E : ∀ p, p ≠ 4 → p < 456 ∨ 576 ≤ p → lawW w i a b s bg p = w p := fun p h h' => law_o h (by omega)
  have e3 : ntW (lawW w i a b s bg) = ntW w := congrArg Int32.toNatClampNeg (E _ (by omega) (by omega))
  have e5 : npW (lawW w i a b s bg) = npW w := congrArg Int32.toNatClampNeg (E _ (by omega) (by omega))
  have ev : ∀ x, x < ntW w → vaW (lawW w i a b s bg) x = vaW w x := fun x hi => g_va (fun p q _ => E p (by omega) (by omega)) (by omega)
  have hvi := hv i h1
  intro x hx
  rw [en] at hx
  by_cases c : x = nlW w
  · subst c
    obtain ⟨q1, q2, q3, q4, q5⟩ := h5
    have ei : lwI (lawW w i a b s bg) (nlW w) = i := by show (lawW w i a b s bg (456 + 6 * nlW w)).toNatClampNeg = i; rw [k1]; exact nI_clamp (by omega)
    have eb : lwB (lawW w i a b s bg) (nlW w) = bg := by show (lawW w i a b s bg (460 + 6 * nlW w)).toNatClampNeg = bg; rw [k5]; exact nI_clamp (by omega)
    have ee : lwE (lawW w i a b s bg) (nlW w) = npW w := by
      show lwB (lawW w i a b s bg) (nlW w) + (lawW w i a b s bg (461 + 6 * nlW w)).toNatClampNeg = npW w
      rw [eb, k6, nI_clamp (by omega)]; omega
    rw [ei, eb, ee, e3, e5, ev i h1, k1, k2, k3, k4, k5, k6, show secN (nlW w) q sec (nlW w) = q from if_pos rfl, E _ (by omega) (by omega), E _ (by omega) (by omega)]
    refine ⟨⟨rfl, h1⟩, ⟨a, h2, rfl⟩, ⟨b, h3, rfl⟩, ⟨s, h4, rfl⟩, rfl, rfl, q1, q2, Nat.le_refl _, q3, q4, fun k g1 g2 g3 => ?_⟩
    rw [E _ (by omega) (by omega)]
    exact q5 k g1 g2 g3
  · have o : ∀ k, k < 6 → lawW w i a b s bg (456 + k + 6 * x) = w (456 + k + 6 * x) := fun k hk => law_o (by omega) (by omega)
    obtain ⟨⟨b1, b2⟩, b3, b4, b5, b6, b7, b8, b9, b10, b11, b12, b13⟩ := H x (by omega)
    have ei : lwI (lawW w i a b s bg) x = lwI w x := congrArg Int32.toNatClampNeg (o 0 (by omega))
    have eb : lwB (lawW w i a b s bg) x = lwB w x := congrArg Int32.toNatClampNeg (o 4 (by omega))
    have ee : lwE (lawW w i a b s bg) x = lwE w x := by unfold lwE; rw [eb, show lawW w i a b s bg (461 + 6 * x) = w (461 + 6 * x) from o 5 (by omega)]
    rw [ei, eb, ee, e3, e5, ev _ b2, show secN (nlW w) q sec x = sec x from if_neg c, show lawW w i a b s bg (456 + 6 * x) = w (456 + 6 * x) from o 0 (by omega), show lawW w i a b s bg (457 + 6 * x) = w (457 + 6 * x) from o 1 (by omega), show lawW w i a b s bg (458 + 6 * x) = w (458 + 6 * x) from o 2 (by omega), show lawW w i a b s bg (459 + 6 * x) = w (459 + 6 * x) from o 3 (by omega), show lawW w i a b s bg (460 + 6 * x) = w (460 + 6 * x) from o 4 (by omega), show lawW w i a b s bg (461 + 6 * x) = w (461 + 6 * x) from o 5 (by omega), E _ (by omega) (by omega), E _ (by omega) (by omega)]
    refine ⟨⟨b1, b2⟩, b3, b4, b5, b6, b7, b8, b9, b10, b11, b12, fun k g1 g2 g3 => ?_⟩
    rw [E _ (by omega) (by omega)]
    exact b13 k g1 g2 g3
theorem WJ.law {i' a b s bg q : Nat} (H : WJ w) (hb : nlW w < 20) (h1 : i' < ntW w) (h2 : a < vaW w i') (h3 : b < vaW w i') (h4 : s < 3) (h5 : lwP w bg q) : WJ (lawW w i' a b s bg) := by
  obtain ⟨hA, v, r, i, t, ⟨sec, l⟩, p, f⟩ := H
  have HL := law_L hA hb h1 h2 h3 h4 h5 (fun x hx => (i x hx).1.2.2) l
  obtain ⟨a0, a1, a2, a3, a4, a5⟩ := hA
  have en := law_n (w := w) (i := i') (a := a) (b := b) (s := s) (bg := bg) hb
  have E : ∀ p, p ≠ 4 → p < 456 ∨ 576 ≤ p → lawW w i' a b s bg p = w p := fun p h h' => law_o h (by omega)
  have e1 : nvW (lawW w i' a b s bg) = nvW w := congrArg Int32.toNatClampNeg (E _ (by omega) (by omega))
  have e2 : nrW (lawW w i' a b s bg) = nrW w := congrArg Int32.toNatClampNeg (E _ (by omega) (by omega))
  have e3 : ntW (lawW w i' a b s bg) = ntW w := congrArg Int32.toNatClampNeg (E _ (by omega) (by omega))
  have e5 : npW (lawW w i' a b s bg) = npW w := congrArg Int32.toNatClampNeg (E _ (by omega) (by omega))
  have ev : ∀ x, x < ntW w → vaW (lawW w i' a b s bg) x = vaW w x := fun x hi => g_va (fun p q _ => E p (by omega) (by omega)) (by omega)
  refine ⟨⟨by rw [E 0 (by omega) (by omega)]; exact a0, ?_, ?_, ?_, ?_, ?_⟩, g_V (fun p q _ => E p (by omega) (by omega)) e1 a1.2 v, g_R (fun p q _ => E p (by omega) (by omega)) e2 (by omega) a2.2 r, g_I (fun p q _ => E p (by omega) (by omega)) e3 a3.2 i, g_T (fun p q _ => E p (by omega) (by omega)) (by omega) (by omega) ev t, ⟨_, HL⟩, g_P (fun p q _ => E p (by omega) (by omega)) e5 a5.2 p, g_F (fun p q _ => E p (by omega) (by omega)) (fun p q _ => E p (by omega) (by omega)) (fun p q _ => E p (by omega) (by omega)) e1 e3 a1.2 a3.2 f⟩
  · rw [e1, E 1 (by omega) (by omega)]; exact a1
  · rw [e2, E 2 (by omega) (by omega)]; exact a2
  · rw [e3, E 3 (by omega) (by omega)]; exact a3
  · rw [en, law_c4]; exact ⟨rfl, by omega⟩
  · rw [e5, E 5 (by omega) (by omega)]; exact a5
end GRW
