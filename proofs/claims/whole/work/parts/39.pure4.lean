/-! AREAS: labels that go along roads; after as many rounds as there are villages they stand -/
noncomputable def stpA (w : Nat → Int32) (k y r : Nat) (l : Nat → Nat) : Nat → Nat := fun v => if bnW w y r < k ∧ (v = rdA w r ∨ v = rdB w r) then min (l (rdA w r)) (l (rdB w r)) else l v
noncomputable def rndA (w : Nat → Int32) (k y : Nat) (l : Nat → Nat) : Nat → Nat → Nat
  | 0 => l
  | r + 1 => stpA w k y r (rndA w k y l r)
noncomputable def itA (w : Nat → Int32) (k y : Nat) : Nat → Nat → Nat
  | 0 => fun v => v
  | t + 1 => rndA w k y (itA w k y t) (nrW w)
section ARS
variable {w : Nat → Int32} {k y : Nat}
theorem stpA_f {r : Nat} {l : Nat → Nat} (h : ¬ bnW w y r < k) : stpA w k y r l = l := funext (fun v => if_neg (fun q => h q.1))
theorem stpA_e {r : Nat} {l : Nat → Nat} (h : l (rdA w r) = l (rdB w r)) : stpA w k y r l = l := funext (fun v => by
  unfold stpA
  by_cases c : bnW w y r < k ∧ (v = rdA w r ∨ v = rdB w r)
  · rw [if_pos c]
    rcases c.2 with e | e <;> rw [e] <;> omega
  · rw [if_neg c])
theorem stpA_t {r v : Nat} {l : Nat → Nat} (h : bnW w y r < k) (hv : v = rdA w r ∨ v = rdB w r) : stpA w k y r l v = min (l (rdA w r)) (l (rdB w r)) := if_pos ⟨h, hv⟩
theorem stpA_n {r v : Nat} {l : Nat → Nat} (h1 : v ≠ rdA w r) (h2 : v ≠ rdB w r) : stpA w k y r l v = l v := if_neg (fun q => q.2.elim h1 h2)
theorem stpA_le (r : Nat) (l : Nat → Nat) (v : Nat) : stpA w k y r l v ≤ l v := by
  unfold stpA
  by_cases c : bnW w y r < k ∧ (v = rdA w r ∨ v = rdB w r)
  · rw [if_pos c]
    rcases c.2 with e | e <;> rw [e] <;> omega
  · rw [if_neg c]; exact Nat.le_refl _
theorem rndA_le (l : Nat → Nat) (r v : Nat) : rndA w k y l r v ≤ l v := by
  induction r with
  | zero => exact Nat.le_refl _
  | succ r ih => exact Nat.le_trans (stpA_le r _ v) ih
theorem itA_le (t v : Nat) : itA w k y t v ≤ v := by
  induction t with
  | zero => exact Nat.le_refl _
  | succ t ih => exact Nat.le_trans (rndA_le _ _ v) ih
theorem rnd_le (t r v : Nat) : rndA w k y (itA w k y t) r v ≤ v := Nat.le_trans (rndA_le _ _ _) (itA_le t v)
/-- villages that open roads join -/
def cnA (w : Nat → Int32) (k y u v : Nat) : Prop := ∀ S : Nat → Prop, S u → (∀ r, r < nrW w → bnW w y r < k → (S (rdA w r) ↔ S (rdB w r))) → S v
theorem cnA_r (v : Nat) : cnA w k y v v := fun _ h _ => h
theorem cnA_t {a b c : Nat} (h1 : cnA w k y a b) (h2 : cnA w k y b c) : cnA w k y a c := fun S h g => h2 S (h1 S h g) g
theorem cnA_s {a b : Nat} (h : cnA w k y a b) : cnA w k y b a := h (fun x => cnA w k y x a) (cnA_r a) (fun r h1 h2 => ⟨fun q S p g => q S ((g r h1 h2).mpr p) g, fun q S p g => q S ((g r h1 h2).mp p) g⟩)
theorem cnA_e {r : Nat} (h1 : r < nrW w) (h2 : bnW w y r < k) : cnA w k y (rdA w r) (rdB w r) := fun _ p g => (g r h1 h2).mp p
noncomputable def cmA (w : Nat → Int32) (k y v : Nat) : Nat := match frst (fun u => cnA w k y u v) (v + 1) with
  | some u => u
  | none => 0
theorem cmA_is (v : Nat) : cnA w k y (cmA w k y v) v ∧ cmA w k y v ≤ v ∧ ∀ u, u < cmA w k y v → ¬ cnA w k y u v := by
  unfold cmA
  cases h : frst (fun u => cnA w k y u v) (v + 1) with
  | none =>
    exfalso
    have : ∀ n, frst (fun u => cnA w k y u v) n = none → ∀ j, j < n → ¬ cnA w k y j v := by
      intro n
      induction n with
      | zero => intro _ j hj; omega
      | succ n ih =>
        intro e j hj q
        cases e2 : frst (fun u => cnA w k y u v) n with
        | some k2 =>
          obtain ⟨a, b, c⟩ := frst_is e2
          have := frst_some (p := fun u => cnA w k y u v) (n := n + 1) c b (by omega)
          rw [this] at e; cases e
        | none =>
          by_cases c : j = n
          · subst c
            have := frst_some (p := fun u => cnA w k y u v) (n := j + 1) (k := j) (fun i hi => ih e2 i hi) q (by omega)
            rw [this] at e; cases e
          · exact ih e2 j (by omega) q
    exact this (v + 1) h v (by omega) (cnA_r v)
  | some u =>
    obtain ⟨a, b, c⟩ := frst_is h
    exact ⟨b, by show u ≤ v; omega, c⟩
theorem cmA_eq {u v : Nat} (h : cnA w k y u v) : cmA w k y u = cmA w k y v := by
  obtain ⟨a1, a2, a3⟩ := cmA_is (w := w) (k := k) (y := y) u
  obtain ⟨b1, b2, b3⟩ := cmA_is (w := w) (k := k) (y := y) v
  rcases Nat.lt_trichotomy (cmA w k y u) (cmA w k y v) with q | q | q
  · exact absurd (cnA_t a1 h) (b3 _ q)
  · exact q
  · exact absurd (cnA_t b1 (cnA_s h)) (a3 _ q)
def okA (w : Nat → Int32) (k y : Nat) (l : Nat → Nat) : Prop := ∀ v, cmA w k y v ≤ l v ∧ l v ≤ v
theorem okA_s {r : Nat} {l : Nat → Nat} (hr : r < nrW w) (H : okA w k y l) : okA w k y (stpA w k y r l) := fun v => by
  refine ⟨?_, Nat.le_trans (stpA_le r l v) (H v).2⟩
  by_cases c : bnW w y r < k ∧ (v = rdA w r ∨ v = rdB w r)
  · rw [stpA_t c.1 c.2]
    have e := cmA_eq (cnA_e hr c.1)
    have a := (H (rdA w r)).1
    have b := (H (rdB w r)).1
    rcases c.2 with e2 | e2 <;> rw [e2] <;> omega
  · unfold stpA; rw [if_neg c]; exact (H v).1
theorem okA_r {l : Nat → Nat} (H : okA w k y l) {r : Nat} (hr : r ≤ nrW w) : okA w k y (rndA w k y l r) := by
  induction r with
  | zero => exact H
  | succ r ih => exact okA_s (by omega) (ih (by omega))
theorem okA_i (t : Nat) : okA w k y (itA w k y t) := by
  induction t with
  | zero => exact fun v => ⟨(cmA_is v).2.1, Nat.le_refl _⟩
  | succ t ih => exact okA_r ih (Nat.le_refl _)
def gdA (w : Nat → Int32) (k y : Nat) (l : Nat → Nat) (v : Nat) : Prop := l v = cmA w k y v
theorem gdA_m {l : Nat → Nat} (H : okA w k y l) {r v : Nat} (h : gdA w k y l v) : ∀ n, n ≤ nrW w → gdA w k y (rndA w k y l n) v := fun n hn => Nat.le_antisymm (h ▸ rndA_le l n v) ((okA_r H hn) v).1
theorem rndA_mono {l : Nat → Nat} {v : Nat} (a b : Nat) (h : a ≤ b) : rndA w k y l b v ≤ rndA w k y l a v := by
  induction b with
  | zero => rw [show a = 0 by omega]; exact Nat.le_refl _
  | succ b ih =>
    by_cases c : a = b + 1
    · rw [c]; exact Nat.le_refl _
    · exact Nat.le_trans (stpA_le b _ v) (ih (by omega))
theorem gd_step {l : Nat → Nat} (H : okA w k y l) {r : Nat} (hr : r < nrW w) (he : bnW w y r < k) (h : gdA w k y l (rdA w r) ∨ gdA w k y l (rdB w r)) : gdA w k y (rndA w k y l (nrW w)) (rdA w r) ∧ gdA w k y (rndA w k y l (nrW w)) (rdB w r) := by
  have e := cmA_eq (cnA_e hr he)
  have ok1 := okA_r H (Nat.le_of_lt hr)
  have okn := okA_r H (Nat.le_refl (nrW w))
  have m : min (rndA w k y l r (rdA w r)) (rndA w k y l r (rdB w r)) = cmA w k y (rdA w r) := by
    have a := (ok1 (rdA w r)).1
    have b := (ok1 (rdB w r)).1
    rcases h with h | h
    · have g : rndA w k y l r (rdA w r) = cmA w k y (rdA w r) := gdA_m (r := r) H h r (Nat.le_of_lt hr)
      omega
    · have g : rndA w k y l r (rdB w r) = cmA w k y (rdB w r) := gdA_m (r := r) H h r (Nat.le_of_lt hr)
      omega
  have sA : rndA w k y l (r + 1) (rdA w r) = cmA w k y (rdA w r) := (stpA_t he (Or.inl rfl)).trans m
  have sB : rndA w k y l (r + 1) (rdB w r) = cmA w k y (rdB w r) := (stpA_t he (Or.inr rfl)).trans (m.trans e)
  exact ⟨Nat.le_antisymm (sA ▸ rndA_mono (r + 1) (nrW w) hr) (okn _).1, Nat.le_antisymm (sB ▸ rndA_mono (r + 1) (nrW w) hr) (okn _).1⟩
theorem cnt_up {p q : Nat → Prop} {b : Nat} (n : Nat) (h : ∀ j, j < n → p j → q j) (hb : b < n) (h1 : q b) (h2 : ¬ p b) : cntP p n + 1 ≤ cntP q n := by
  induction n with
  | zero => omega
  | succ n ih =>
    by_cases c : b = n
    · subst c
      have := cntP_im (p := p) (q := q) b (fun j hj => h j (by omega))
      rw [cntP_f h2, cntP_t h1]; omega
    · have := ih (fun j hj => h j (by omega)) (by omega)
      by_cases pn : p n
      · rw [cntP_t pn, cntP_t (h n (by omega) pn)]; omega
      · rw [cntP_f pn]
        by_cases qn : q n
        · rw [cntP_t qn]; omega
        · rw [cntP_f qn]; exact this
theorem cnt_full {p : Nat → Prop} {n : Nat} (h : n ≤ cntP p n) : ∀ j, j < n → p j := by
  intro j hj
  have e := (cnt_all (p := fun _ => True) (q := p) n).mp (by
    have t : cntP (fun _ => True) n = n := by
      clear h hj
      induction n with
      | zero => rfl
      | succ n ih => rw [cntP_t (p := fun _ => True) trivial, ih]
    have t2 : cntP (fun x => True ∧ p x) n = cntP p n := cntP_c (fun k _ => ⟨fun q => q.2, fun q => ⟨trivial, q⟩⟩)
    have := cntP_le p n
    omega)
  exact e j hj trivial
theorem gd_cnt (hWf : WfW w) (t : Nat) : (∀ v, v < nvW w → gdA w k y (itA w k y t) v) ∨ t ≤ cntP (gdA w k y (itA w k y t)) (nvW w) := by
  induction t with
  | zero => exact Or.inr (Nat.zero_le _)
  | succ t ih =>
    have H := okA_i (w := w) (k := k) (y := y) t
    by_cases al : ∀ v, v < nvW w → gdA w k y (itA w k y t) v
    · exact Or.inl (fun v hv => gdA_m (r := 0) H (al v hv) (nrW w) (Nat.le_refl _))
    · rcases ih with ih | ih
      · exact absurd ih al
      · right
        -- an open road between good and not good
        obtain ⟨r, hr, he, hx⟩ : ∃ r, r < nrW w ∧ bnW w y r < k ∧ ¬ (gdA w k y (itA w k y t) (rdA w r) ↔ gdA w k y (itA w k y t) (rdB w r)) := by
          refine Classical.byContradiction (fun q => al (fun v hv => ?_))
          have cl : ∀ r, r < nrW w → bnW w y r < k → (gdA w k y (itA w k y t) (rdA w r) ↔ gdA w k y (itA w k y t) (rdB w r)) := fun r h1 h2 => Classical.byContradiction (fun q2 => q ⟨r, h1, h2, q2⟩)
          obtain ⟨c1, c2, c3⟩ := cmA_is (w := w) (k := k) (y := y) v
          have e := cmA_eq c1
          refine c1 (gdA w k y (itA w k y t)) ?_ cl
          have a := H (cmA w k y v)
          show itA w k y t (cmA w k y v) = cmA w k y (cmA w k y v)
          omega
        obtain ⟨b1, b2, _⟩ := wf_rdb hWf hr
        have mono : ∀ j, j < nvW w → gdA w k y (itA w k y t) j → gdA w k y (itA w k y (t + 1)) j := fun j _ h => gdA_m (r := 0) H h (nrW w) (Nat.le_refl _)
        by_cases gA : gdA w k y (itA w k y t) (rdA w r)
        · have nB : ¬ gdA w k y (itA w k y t) (rdB w r) := fun q => hx ⟨fun _ => q, fun _ => gA⟩
          have := cnt_up (nvW w) mono b2 (gd_step H hr he (Or.inl gA)).2 nB
          show t + 1 ≤ cntP (gdA w k y (itA w k y (t + 1))) (nvW w)
          omega
        · have gB : gdA w k y (itA w k y t) (rdB w r) := Classical.byContradiction (fun q => hx ⟨fun p => absurd p gA, fun p => absurd p q⟩)
          have := cnt_up (nvW w) mono b1 (gd_step H hr he (Or.inr gB)).1 gA
          show t + 1 ≤ cntP (gdA w k y (itA w k y (t + 1))) (nvW w)
          omega
theorem gd_all (hWf : WfW w) : ∀ v, v < nvW w → gdA w k y (itA w k y (nvW w)) v := by
  rcases gd_cnt (k := k) (y := y) hWf (nvW w) with h | h
  · exact h
  · exact cnt_full h
theorem it_fix (hWf : WfW w) : itA w k y (nvW w + 1) = itA w k y (nvW w) := by
  have g := gd_all (k := k) (y := y) hWf
  have key : ∀ r, r ≤ nrW w → rndA w k y (itA w k y (nvW w)) r = itA w k y (nvW w) := by
    intro r
    induction r with
    | zero => intro _; rfl
    | succ r ih =>
      intro hr
      show stpA w k y r (rndA w k y (itA w k y (nvW w)) r) = _
      rw [ih (by omega)]
      by_cases he : bnW w y r < k
      · obtain ⟨b1, b2, _⟩ := wf_rdb hWf (show r < nrW w by omega)
        have gA : itA w k y (nvW w) (rdA w r) = _ := g _ b1
        have gB : itA w k y (nvW w) (rdB w r) = _ := g _ b2
        exact stpA_e (by rw [gA, gB]; exact cmA_eq (cnA_e (by omega) he))
      · exact stpA_f he
  exact key (nrW w) (Nat.le_refl _)
theorem it_stay {p : Nat} (h : itA w k y (p + 1) = itA w k y p) (n : Nat) : itA w k y (p + n) = itA w k y p := by
  induction n with
  | zero => rfl
  | succ n ih =>
    show rndA w k y (itA w k y (p + n)) (nrW w) = _
    rw [ih]; exact h
theorem it_end (hWf : WfW w) {p : Nat} (h : 24 ≤ p ∨ itA w k y (p + 1) = itA w k y p) : itA w k y p = itA w k y (nvW w) := by
  have := hWf.1.2.1.2
  by_cases c : nvW w ≤ p
  · have e := it_stay (it_fix (k := k) (y := y) hWf) (p - nvW w)
    rw [show nvW w + (p - nvW w) = p by omega] at e
    exact e
  · rcases h with h | h
    · omega
    · have e := it_stay h (nvW w - p)
      rw [show p + (nvW w - p) = nvW w by omega] at e
      exact e.symm
end ARS
/-- both ends of a road get the lesser label -/
theorem lab_upd {w f : Nat → Int32} {k y r n : Nat} {l : Nat → Nat} (H : ∀ v, v < n → f v = nI (l v)) (h : bnW w y r < k) : ∀ v, v < n → upd (upd f (rdA w r) (nI (min (l (rdA w r)) (l (rdB w r))))) (rdB w r) (nI (min (l (rdA w r)) (l (rdB w r)))) v = nI (stpA w k y r l v) := by
  intro v hv
  by_cases c : v = rdB w r
  · rw [c, pk_us, stpA_t h (Or.inr rfl)]
  · rw [pk_un c]
    by_cases d : v = rdA w r
    · rw [d, pk_us, stpA_t h (Or.inl rfl)]
    · rw [pk_un d, stpA_n d c]; exact H v hv
/-- the reference may use the row of labels, too -/
def RM (h h' : aH) (w : Nat → Int32) : Prop := h'.length = h.length ∧ (∀ k, k ≠ 71 → k ≠ 78 → k ≠ 79 → k ≠ 80 → h'[k]? = h[k]?) ∧ (∃ th tp sz at9 fr tk vl fk fp il il' up lo, isO h 71 9 (MoF th tp sz at9 fr tk vl fk fp il up lo) ∧ isO h' 71 9 (MoF th tp sz at9 fr tk vl fk fp il' up lo)) ∧ MQs h' w
theorem RM.rfl' {h : aH} {w : Nat → Int32} (H : MQs h w) : RM h h w := ⟨rfl, fun _ _ _ _ _ => rfl, (RQ.rfl' H).2.2.1, H⟩
theorem RM.rq {h g g' : aH} {w : Nat → Int32} (A : RM h g w) (B : RQ g g' w) : RM h g' w := by
  obtain ⟨a1, a2, ⟨th, tp, sz, at9, fr, tk, vl, fk, fp, il, il', up, lo, a3, a4⟩, a5⟩ := A
  obtain ⟨b1, b2, ⟨th2, tp2, sz2, at92, fr2, tk2, vl2, fk2, fp2, il2, il'2, up2, lo2, b3, b4⟩, b5⟩ := B
  refine ⟨by omega, fun k p1 p2 p3 p4 => (b2 k p1 p2 p3).trans (a2 k p1 p2 p3 p4), ⟨th, tp, sz, at9, fr, tk, vl, fk, fp, il, il'2, up, lo, a3, ?_⟩, b5⟩
  have e := isO_inj a4 b3
  unfold MoF at e
  simp only [List.cons.injEq, Value.int.injEq, Value.long.injEq, and_true, true_and] at e
  obtain ⟨rfl, rfl, rfl, rfl, rfl, rfl, rfl, rfl, rfl, _, rfl, rfl⟩ := e
  exact b4
theorem MQs.st80 {g : aH} {w : Nat → Int32} {x : aE} (H : MQs g w) : MQs (g.set 80 x) w := by
  obtain ⟨th, tp, sz, at9, fr, tk, vl, fk, fp, il, up, lo, sa9, tn, q0, q1, q2, q3, q4⟩ := H
  exact ⟨_, _, _, _, _, _, _, _, _, _, _, _, sa9, tn, gs_ne (by decide) q0, gs_ne (by decide) q1, gs_ne (by decide) q2, gs_ne (by decide) q3, q4⟩
theorem RM.st80 {h g : aH} {w : Nat → Int32} {x : aE} (A : RM h g w) : RM h (g.set 80 x) w := by
  obtain ⟨a1, a2, ⟨th, tp, sz, at9, fr, tk, vl, fk, fp, il, il', up, lo, a3, a4⟩, a5⟩ := A
  exact ⟨by rw [List.length_set]; exact a1, fun k p1 p2 p3 p4 => by rw [List.getElem?_set_ne (fun q => p4 q.symm)]; exact a2 k p1 p2 p3 p4, ⟨th, tp, sz, at9, fr, tk, vl, fk, fp, il, il', up, lo, a3, gs_ne (by decide) a4⟩, a5.st80⟩
theorem RepM.rm {h h' : aH} {w tp : Nat → Int32} {tl : Nat} {im hi : Nat → Int32} {fk fp : Int32} {mn wd : Nat → Int32} {nu : Nat → Int64} {le' : Nat → Int32} (HM : RepM h w tp tl im hi fk fp mn wd nu) (R : RM h h' w) (L : isI h' 80 24 le') : RepM h' w tp tl im hi fk fp mn wd nu ∧ FrM h h' := by
  obtain ⟨th, sz, at9, fr, tk, vl, il, up, lo, fv, fs, sa9, tn, le, mv, q0, q1, q2, q3, q4, q5, q6, q7, q8, q9, q10, q11, q12, q13, q14⟩ := HM
  obtain ⟨a1, a2, ⟨th1, tp1, sz1, at91, fr1, tk1, vl1, fk1, fp1, il1, il1', up1, lo1, a3, a4⟩, th2, tp2, sz2, at92, fr2, tk2, vl2, fk2, fp2, il2, up2, lo2, sa2, tn2, c0, c1, c2, c3, c4⟩ := R
  have e := isO_inj a3 q0
  unfold MoF at e
  simp only [List.cons.injEq, Value.int.injEq, Value.long.injEq, and_true, true_and] at e
  obtain ⟨rfl, rfl, rfl, rfl, rfl, rfl, rfl, rfl, rfl, rfl, rfl, rfl⟩ := e
  have e := isO_inj c0 a4
  unfold MoF at e
  simp only [List.cons.injEq, Value.int.injEq, Value.long.injEq, and_true, true_and] at e
  obtain ⟨rfl, rfl, rfl, rfl, rfl, rfl, rfl, rfl, rfl, rfl, rfl, rfl⟩ := e
  have hk : ∀ k, k ≠ 71 → k ≠ 78 → k ≠ 79 → k ≠ 80 → h'[k]? = h[k]? := a2
  refine ⟨⟨_, _, _, _, _, _, _, _, _, fv, fs, sa2, tn2, le', mv, c0, c1, q2.kp (hk _ (by decide) (by decide) (by decide) (by decide)), q3.kp (hk _ (by decide) (by decide) (by decide) (by decide)), q4.kp (hk _ (by decide) (by decide) (by decide) (by decide)), q5.kp (hk _ (by decide) (by decide) (by decide) (by decide)), q6.kp (hk _ (by decide) (by decide) (by decide) (by decide)), c2, c3, L, q10.kp (hk _ (by decide) (by decide) (by decide) (by decide)), q11.kp (hk _ (by decide) (by decide) (by decide) (by decide)), q12.kp (hk _ (by decide) (by decide) (by decide) (by decide)), q13.kp (hk _ (by decide) (by decide) (by decide) (by decide)), c4⟩, a1, fun k p => hk k (by omega) (by omega) (by omega) (by omega)⟩
theorem case_qM {jx jm : Nat} {As : List Value} (hx : ∀ h ls w, WfW w → XV h ls w → RX h h ls w → ∃ r : Int32, Sp (Rn 700) jx (.ref 0 :: As) h (fun r9 h' => r9 = some (.int r) ∧ RX h h' ls w) ∧ ∀ h1 le, MQs h1 w → isI h1 80 24 le → Sp (Rn 700) jm (.ref 71 :: As) h1 (fun r9 h' => r9 = some (.int r) ∧ RM h1 h' w ∧ ∃ le', isI h' 80 24 le')) : CaseI Rp jx jm As := by
  intro h hR
  obtain ⟨w, tp, tl, im, hi, fk, fp, mn, wd, nu, g1, g2, HM, HC⟩ := id hR
  obtain ⟨ls, V, R⟩ := HC.xv
  obtain ⟨r, ⟨r1, h1, x1, rfl, R1⟩, hm⟩ := hx h ls w g1 V R
  obtain ⟨HC1, F1⟩ := HC.rx V R1
  have HM1 := HM.kp (h' := h1) (fun k p1 p2 => F1.2 k p1 p2)
  obtain ⟨le, i80⟩ : ∃ le, isI h1 80 24 le := by
    obtain ⟨th, sz, at9, fr, tk, vl, il, up, lo, fv, fs, sa9, tn, le, mv, q0, q1, q2, q3, q4, q5, q6, q7, q8, q9, _⟩ := HM1
    exact ⟨le, q9⟩
  obtain ⟨r2, h2, x2, rfl, R2, le', i81⟩ := hm h1 le HM1.mq i80
  obtain ⟨HM2, F2⟩ := HM1.rm R2 i81
  have HC2 := HC1.kp (h' := h2) F2.2
  obtain ⟨a0, ⟨x, a1⟩, a2, a3⟩ := V
  obtain ⟨th, tp9, sz, at9, fr, tk, vl, fk9, fp9, il, up, lo, q0, q1⟩ := HM1.mq.mh
  exact ⟨r, h1, h2, 0, 0, _, _, by decide, by decide, a1, x1, q0, x2, w, tp, tl, im, hi, fk, fp, mn, wd, nu, g1, g2, HM2, HC2⟩
noncomputable def areaA (w : Nat → Int32) (v k y : Int32) : Int32 := qI (iin v (nvW w) ∧ (1 ≤ k.toInt ∧ k.toInt ≤ 11) ∧ iin y 61) (nI (itA w k.toNatClampNeg y.toNatClampNeg (nvW w) v.toNatClampNeg)) (-2)
noncomputable def areasA (w : Nat → Int32) (k y : Int32) : Int32 := qI ((1 ≤ k.toInt ∧ k.toInt ≤ 11) ∧ iin y 61) (nI (cntP (fun v => itA w k.toNatClampNeg y.toNatClampNeg (nvW w) v = v) (nvW w))) (-2)
theorem k11_of {x : Int32} (h1 : 1 ≤ x.toInt) (h2 : x.toInt ≤ 11) : ∃ j, 1 ≤ j ∧ j ≤ 11 ∧ x = nI j := by
  obtain ⟨j, hj, rfl⟩ := iin_of (x := x) (n := 12) ⟨by omega, by omega⟩
  rw [nI_toInt (by omega)] at h1 h2
  exact ⟨j, by omega, by omega, rfl⟩
