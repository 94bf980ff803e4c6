/-! THE CLASS'S MAP: what is told, neighbours, parts, sums, laws -/
theorem XV.st {h : aH} {ls : Nat} {w : Nat → Int32} {k : Nat} {x : aE} (V : XV h ls w) (hk : 53 ≤ k ∧ k ≤ 62) : XV (h.set k x) ls w := V.fr (fun j hj => List.getElem?_set_ne (by omega))
theorem XV.frl {h h' : aH} {ls : Nat} {w : Nat → Int32} {ks : List Nat} (V : XV h ls w) (F : Fr ks h h') (hk : ∀ k ∈ ks, 53 ≤ k ∧ k ≤ 62) : XV h' ls w := V.fr (fun j hj => F.2 j (fun q => by have := hk j q; omega))
theorem nar_v {a : Nat} (h : a < 5) : vp_nar .byte ((nI a).toInt8.toInt32) = nI a := by
  rcases (show a = 0 ∨ a = 1 ∨ a = 2 ∨ a = 3 ∨ a = 4 by omega) with rfl | rfl | rfl | rfl | rfl <;> decide
theorem Rch.fr {h h' : aH} {w : Nat → Int32} {i y : Nat} {ks : List Nat} (R : Rch h w i y) (F : Fr ks h h') (hk : 55 ∉ ks) : Rch h' w i y := R.kp (F.2 55 hk)
def NbI (w : Nat → Int32) (S : Nat → Nat → Nat) (i r : Nat) (ne ms : Nat → Int32) : Prop := ∀ v a, v < nvW w → a < 5 → ne (v * 5 + a) = nI (neW w S v i a r) ∧ ms (v * 5 + a) = nI (msW w S v i a r)
def NbY (h : aH) (w : Nat → Int32) (S : Nat → Nat → Nat) (i : Nat) : Prop := ∃ ne ms : Nat → Int32, isI h 56 120 ne ∧ isI h 57 120 ms ∧ NbI w S i (nrW w) ne ms
theorem NbY.fr {h h' : aH} {w : Nat → Int32} {S : Nat → Nat → Nat} {i : Nat} {ks : List Nat} (R : NbY h w S i) (F : Fr ks h h') (hk : 56 ∉ ks ∧ 57 ∉ ks) : NbY h' w S i := by
  obtain ⟨ne, ms, a, b, c⟩ := R
  exact ⟨ne, ms, a.kp (F.2 56 hk.1), b.kp (F.2 57 hk.2), c⟩
noncomputable def msU (p : Prop) (ms : Nat → Int32) (q : Nat) (x : Int32) : Nat → Int32 := @ite (Nat → Int32) p (Classical.propDecidable p) ms (upd ms q (ms q + x))
theorem msU_t {p : Prop} {ms : Nat → Int32} {q : Nat} {x : Int32} (h : p) : msU p ms q x = ms := if_pos h
theorem msU_f {p : Prop} {ms : Nat → Int32} {q : Nat} {x : Int32} (h : ¬ p) : msU p ms q x = upd ms q (ms q + x) := if_neg h
theorem oth_A {w : Nat → Int32} {r : Nat} : othW w r (rdA w r) = some (rdB w r) := if_pos rfl
theorem oth_B {w : Nat → Int32} {r : Nat} (h : rdA w r ≠ rdB w r) : othW w r (rdB w r) = some (rdA w r) := by
  unfold othW; rw [if_neg h, if_pos rfl]
theorem oth_N {w : Nat → Int32} {r v : Nat} (h1 : ¬ rdA w r = v) (h2 : ¬ rdB w r = v) : othW w r v = none := by
  unfold othW; rw [if_neg h1, if_neg h2]
theorem ag_A {w : Nat → Int32} {r : Nat} (h : rdA w r ≠ rdB w r) : (∀ r', r' < r → othW w r' (rdA w r) ≠ some (rdB w r)) ↔ ¬ agW w r := by
  constructor
  · rintro H ⟨r', h1, ⟨h2, h3⟩ | ⟨h2, h3⟩⟩
    · exact H r' h1 (by unfold othW; rw [if_pos h2, h3])
    · exact H r' h1 (by unfold othW; rw [if_neg (by rw [h2]; exact fun q => h q.symm), if_pos h3, h2])
  · intro H r' h1 q
    unfold othW at q
    by_cases c : rdA w r' = rdA w r
    · rw [if_pos c] at q; injection q with q; exact H ⟨r', h1, Or.inl ⟨c, q⟩⟩
    · rw [if_neg c] at q
      by_cases c2 : rdB w r' = rdA w r
      · rw [if_pos c2] at q; injection q with q; exact H ⟨r', h1, Or.inr ⟨q, c2⟩⟩
      · rw [if_neg c2] at q; cases q
theorem ag_B {w : Nat → Int32} {r : Nat} (h : rdA w r ≠ rdB w r) : (∀ r', r' < r → othW w r' (rdB w r) ≠ some (rdA w r)) ↔ ¬ agW w r := by
  constructor
  · rintro H ⟨r', h1, ⟨h2, h3⟩ | ⟨h2, h3⟩⟩
    · exact H r' h1 (by unfold othW; rw [if_neg (by rw [h2]; exact h), if_pos h3, h2])
    · exact H r' h1 (by unfold othW; rw [if_pos h2, h3])
  · intro H r' h1 q
    unfold othW at q
    by_cases c : rdA w r' = rdB w r
    · rw [if_pos c] at q; injection q with q; exact H ⟨r', h1, Or.inr ⟨c, q⟩⟩
    · rw [if_neg c] at q
      by_cases c2 : rdB w r' = rdB w r
      · rw [if_pos c2] at q; injection q with q; exact H ⟨r', h1, Or.inl ⟨q, c2⟩⟩
      · rw [if_neg c2] at q; cases q
theorem NbI_0 {w : Nat → Int32} {S : Nat → Nat → Nat} {i p : Nat} {ne ms : Nat → Int32} (hz : ∀ q, q < p → ne q = nI 0 ∧ ms q = nI 0) (hp : nvW w * 5 ≤ p) : NbI w S i 0 ne ms := fun v a hv ha => hz _ (by omega)
theorem NbI_s {w : Nat → Int32} (hWf : WfW w) {S : Nat → Nat → Nat} {i r : Nat} {ne ms : Nat → Int32} (hS : ∀ v, v < nvW w → S v i < 5) (hr : r < nrW w) (H : NbI w S i r ne ms) : NbI w S i (r + 1) (upd (upd ne (rdA w r * 5 + S (rdB w r) i) (ne (rdA w r * 5 + S (rdB w r) i) + nI 1)) (rdB w r * 5 + S (rdA w r) i) ((upd ne (rdA w r * 5 + S (rdB w r) i) (ne (rdA w r * 5 + S (rdB w r) i) + nI 1)) (rdB w r * 5 + S (rdA w r) i) + nI 1)) (msU (agW w r) (msU (agW w r) ms (rdA w r * 5 + S (rdB w r) i) (nI (szW w (rdB w r)))) (rdB w r * 5 + S (rdA w r) i) (nI (szW w (rdA w r)))) := by
  obtain ⟨b1, b2, b3, _⟩ := wf_rdb hWf hr
  have c1 := hS _ b1
  have c2 := hS _ b2
  intro v a hv ha
  obtain ⟨g1, g2⟩ := H v a hv ha
  by_cases eA : v = rdA w r
  · subst eA
    by_cases ea : a = S (rdB w r) i
    · subst ea
      rw [neW_t oth_A rfl, pk_un (by omega), pk_us, g1, nI_add]
      refine ⟨rfl, ?_⟩
      by_cases hg : agW w r
      · rw [msU_t hg, msU_t hg, msW_f oth_A (fun q => (ag_A b3).mp q.2 hg)]; exact g2
      · rw [msU_f hg, msU_f hg, pk_un (by omega), pk_us, msW_t oth_A ⟨rfl, (ag_A b3).mpr hg⟩, g2, nI_add]
    · rw [neW_f oth_A (fun q => ea q.symm), pk_un (by omega), pk_un (by omega)]
      refine ⟨g1, ?_⟩
      rw [msW_f oth_A (fun q => ea q.1.symm)]
      by_cases hg : agW w r
      · rw [msU_t hg, msU_t hg]; exact g2
      · rw [msU_f hg, msU_f hg, pk_un (by omega), pk_un (by omega)]; exact g2
  · by_cases eB : v = rdB w r
    · subst eB
      by_cases ea : a = S (rdA w r) i
      · subst ea
        rw [neW_t (oth_B b3) rfl, pk_us, pk_un (by omega), g1, nI_add]
        refine ⟨rfl, ?_⟩
        by_cases hg : agW w r
        · rw [msU_t hg, msU_t hg, msW_f (oth_B b3) (fun q => (ag_B b3).mp q.2 hg)]; exact g2
        · rw [msU_f hg, msU_f hg, pk_us, pk_un (by omega), msW_t (oth_B b3) ⟨rfl, (ag_B b3).mpr hg⟩, g2, nI_add]
      · rw [neW_f (oth_B b3) (fun q => ea q.symm), pk_un (by omega), pk_un (by omega)]
        refine ⟨g1, ?_⟩
        rw [msW_f (oth_B b3) (fun q => ea q.1.symm)]
        by_cases hg : agW w r
        · rw [msU_t hg, msU_t hg]; exact g2
        · rw [msU_f hg, msU_f hg, pk_un (by omega), pk_un (by omega)]; exact g2
    · have hn := oth_N (w := w) (fun q => eA q.symm) (fun q => eB q.symm)
      rw [neW_n hn, msW_n hn, pk_un (by omega), pk_un (by omega)]
      refine ⟨g1, ?_⟩
      by_cases hg : agW w r
      · rw [msU_t hg, msU_t hg]; exact g2
      · rw [msU_f hg, msU_f hg, pk_un (by omega), pk_un (by omega)]; exact g2
def sX : Option Int → Int64
  | some x => iJ x
  | none => 9223372036854775807
def jC (w : Nat → Int32) (k : Nat) : Int32 := if w (576 + 3 * k) = 4 then 0 else w (576 + 3 * k)
theorem jC_r {w : Nat → Int32} {vl : Nat → Nat} {b e : Nat} (hb : b ≤ e) : rnW (jC w) vl b e = rnW (fun k => w (576 + 3 * k)) vl b e := rnW_c hb (fun k _ _ => by
  unfold jC
  by_cases h : w (576 + 3 * k) = 4
  · rw [if_pos h]
    show (_ ↔ w (576 + 3 * k) = 3) ∧ (_ ↔ w (576 + 3 * k) = 2)
    rw [h]; decide
  · rw [if_neg h]; exact ⟨Iff.rfl, Iff.rfl⟩)
theorem jC_s {w : Nat → Int32} {vl : Nat → Nat} {b e : Nat} (hb : b ≤ e) : smW (jC w) vl b e = smW (fun k => w (576 + 3 * k)) vl b e := by
  rw [smW_r, smW_r, jC_r hb]
theorem smW_rg {jn : Nat → Int32} {vl : Nat → Nat} {b e : Nat} {x : Int} (h : smW jn vl b e = some x) : -1000000000 ≤ x ∧ x ≤ 1000000000 := by
  rw [smW_r] at h
  cases hr : rnW jn vl b e with
  | none => rw [hr] at h; cases h
  | some s =>
    obtain ⟨t, g, p⟩ := s
    rw [hr] at h
    by_cases c : t + g * p > 1000000000 ∨ t + g * p < -1000000000
    · simp only [if_pos c] at h; cases h
    · simp only [if_neg c] at h; injection h with h; omega
theorem sX_m {o : Option Int} (h : ∀ x, o = some x → -1000000000 ≤ x ∧ x ≤ 1000000000) : ((sX o).toInt = 9223372036854775807 ↔ o = none) ∧ ∀ x, o = some x → (sX o).toInt = x := by
  cases o with
  | none => exact ⟨⟨fun _ => rfl, fun _ => by decide⟩, fun x q => by cases q⟩
  | some x =>
    have := h x rfl
    have e : (sX (some x)).toInt = x := iJ_int (by omega) (by omega)
    exact ⟨⟨fun q => by rw [e] at q; omega, fun q => by cases q⟩, fun y q => by cases q; exact e⟩
theorem x_isTold (d : Nat) (h : aH) (ls : Nat) (w : Nat → Int32) (hWf : WfW w) (V : XV h ls w) (v i : Nat) (hv9 : v < nvW w) (hi : i < ntW w) : Rn (d + 1) 6 [.ref (ls), .int (nI (v)), .int (nI (i))] h (some (.int (bI (¬ w (216 + (v * 10 + i)) = -1)))) h 0 0 := by
  obtain ⟨⟨e1, e2⟩, ⟨e3, e4⟩, ⟨e5, e6⟩⟩ := Wf_n hWf
  obtain ⟨⟨e7, e8⟩, ⟨e9, e10⟩⟩ := Wf_m hWf
  obtain ⟨v0, ⟨x9, v1⟩, ⟨v2, ⟨sz, rf, rt, rv, ag, vr, sd, tl, l0, l1, l2, l3, l4, l5, l6, l7, l8, g1, g2, g3, g4, g5⟩, ⟨sec, it, fi, se, sg, lst, rs, rp, pj, pk, pv, k0, k1, k2, k3, k4, k5, k6, k7, k8, k9, k10, k11, k12, k13⟩, ⟨hv, hc, y0, y1, y2, y3, y4⟩, ⟨an, wk, n0, n1, n2, n3, n4⟩⟩, v3⟩ := id V
  rw [e1, e3, e5] at l0
  rw [e7, e9] at k1
  refine Rn_of (by decide) (Nat.le_of_ble_eq_true rfl) ?_
  show Wn _ _ 0 [(0, .ref (ls)), (1, .int (nI (v))), (2, .int (nI (i)))] [] _ _
  refine wn_ld (pc' := 1) (q := 0) (kin := 2) (v := .ref (ls)) rfl (fun _ _ _ => rfl) rfl rfl ?_
  refine wn_get (pc' := 4) (v := .ref (ls + 8)) rfl rfl l0 rfl ?_
  refine wn_ld (pc' := 5) (q := 1) (kin := 0) (v := .int (nI (v))) rfl (fun _ _ _ => rfl) rfl rfl ?_
  refine wn_bp (pc' := 7) (w := nI 10) rfl rfl (by decide) ?_
  refine wn_mulN (pc' := 8) rfl rfl ?_
  refine wn_ld (pc' := 9) (q := 2) (kin := 0) (v := .int (nI (i))) rfl (fun _ _ _ => rfl) rfl rfl ?_
  refine wn_addN (pc' := 10) rfl rfl ?_
  refine wn_ialdv (pc' := 11) (j := (v * 10) + i) (v := (w (216 + (((v * 10) + i))))) rfl rfl l8 rfl (by omega) (by decide) (g5 _ (by omega)) ?_
  refine wn_ic (pc' := 12) (w := -1) rfl rfl (by decide) ?_
  refine wn_icmp (t := 19) (f := 15) rfl rfl rfl (fun c1 => ?_) (fun c1 => ?_)
  · have c1 : ((w (216 + (((v * 10) + i))))) = ((-1)) := c1
    refine wn_ic (pc' := 20) (w := nI 0) rfl rfl (by decide) ?_
    refine wn_iret rfl rfl (by decide) ⟨?_, rfl⟩
    exact congrArg (fun z => some (Value.int z)) (bI_f0 (fun q => q c1))
  · have c1 : ¬ ((w (216 + (((v * 10) + i))))) = ((-1)) := c1
    refine wn_ic (pc' := 16) (w := nI 1) rfl rfl (by decide) ?_
    refine wn_jp (pc' := 20) rfl rfl ?_
    refine wn_iret rfl rfl (by decide) ⟨?_, rfl⟩
    exact congrArg (fun z => some (Value.int z)) (bI_t1 c1)

/-- what is written into the map is right -/
def Imp (w vr vr' : Nat → Int32) : Prop := ∀ i y v, i < 10 → y ≤ 60 → v < nvW w → vr' ((i * 61 + y) * 24 + v) = vr ((i * 61 + y) * 24 + v) ∨ vr' ((i * 61 + y) * 24 + v) = nI (sdW w y v i)
theorem Imp.rfl' {w vr : Nat → Int32} : Imp w vr vr := fun _ _ _ _ _ _ => Or.inl rfl
theorem Imp_s {w vr vr' : Nat → Int32} {i y v : Nat} {x : Int32} (hWf : WfW w) (H : Imp w vr vr') (hy : y ≤ 60) (hv : v < nvW w) (hx : x = nI (sdW w y v i)) : Imp w vr (upd vr' ((i * 61 + y) * 24 + v) x) := by
  intro i' y' v' h1 h2 h3
  have := hWf.1.2.1.2
  by_cases e : (i' * 61 + y') * 24 + v' = (i * 61 + y) * 24 + v
  · obtain ⟨rfl, rfl, rfl⟩ : i' = i ∧ y' = y ∧ v' = v := by omega
    rw [pk_us]; exact Or.inr hx
  · rw [pk_un (by omega)]; exact H i' y' v' h1 h2 h3
theorem Imp_r {w vr vr' : Nat → Int32} (H : Imp w vr vr') {i y v : Nat} (hi : i < 10) (hy : y ≤ 60) (hv : v < nvW w) (h : vr ((i * 61 + y) * 24 + v) = nI (sdW w y v i)) : vr' ((i * 61 + y) * 24 + v) = nI (sdW w y v i) := (H i y v hi hy hv).elim (fun q => q.trans h) id
def SyI (w vr vr' : Nat → Int32) (i v : Nat) : Prop := (∀ v', v' < v → vr' ((i * 61 + 0) * 24 + v') = nI (sdW w 0 v' i)) ∧ Imp w vr vr'
theorem SyI_s {w vr vr' : Nat → Int32} {i v : Nat} {x : Int32} (hWf : WfW w) (H : SyI w vr vr' i v) (hv : v < nvW w) (hx : x = nI (sdW w 0 v i)) : SyI w vr (upd vr' ((i * 61 + 0) * 24 + v) x) i (v + 1) := by
  refine ⟨fun v' h => ?_, Imp_s hWf H.2 (by omega) hv hx⟩
  by_cases e : v' = v
  · subst e; rw [pk_us]; exact hx
  · rw [pk_un (by omega)]; exact H.1 v' (by omega)
theorem told_v {w : Nat → Int32} (hWf : WfW w) {v i : Nat} (hv : v < nvW w) (hi : i < ntW w) (h : ¬ w (216 + (v * 10 + i)) = -1) : vp_nar .byte ((w (216 + (v * 10 + i))).toInt8.toInt32) = nI (sdW w 0 v i) := by
  have e : 216 + (v * 10 + i) = 216 + 10 * v + i := by omega
  rw [e] at h ⊢
  rcases hWf.2.2.2.2.1.1 v i hv hi with q | ⟨a, h1, q⟩
  · exact absurd q h
  · have := wf_vab hWf hi
    show _ = nI (w (216 + 10 * v + i)).toNatClampNeg
    rw [q, nar_v (by omega), nI_clamp (by omega)]
theorem told_0 {w : Nat → Int32} {v i : Nat} (h : ¬ ¬ w (216 + (v * 10 + i)) = -1) : vp_nar .byte ((nI 0).toInt8.toInt32) = nI (sdW w 0 v i) := by
  have q := Classical.not_not.mp h
  rw [show 216 + (v * 10 + i) = 216 + 10 * v + i by omega] at q
  show _ = nI (w (216 + 10 * v + i)).toNatClampNeg
  rw [q]; decide
theorem x_startYears (d : Nat) (h : aH) (ls : Nat) (w : Nat → Int32) (hWf : WfW w) (V : XV h ls w) (re vq : Nat → Int32) (s1 : isI h 53 10 re) (s3 : isB h 55 14640 vq) (i : Nat) (hi : i < ntW w) : Sp (Rn (d + 2)) 53 [.ref (52), .int (nI (i))] h (fun r9 h9 => r9 = none ∧ Fr [53, 55] h h9 ∧ isI h9 53 10 (upd re i (nI 0)) ∧ ∃ vr1, isB h9 55 14640 vr1 ∧ SyI w vq vr1 i (nvW w)) := by
  obtain ⟨⟨e1, e2⟩, ⟨e3, e4⟩, ⟨e5, e6⟩⟩ := Wf_n hWf
  obtain ⟨⟨e7, e8⟩, ⟨e9, e10⟩⟩ := Wf_m hWf
  obtain ⟨v0, ⟨x9, v1⟩, ⟨v2, ⟨sz, rf, rt, rv, ag, vr, sd, tl, l0, l1, l2, l3, l4, l5, l6, l7, l8, g1, g2, g3, g4, g5⟩, ⟨sec, it, fi, se, sg, lst, rs, rp, pj, pk, pv, k0, k1, k2, k3, k4, k5, k6, k7, k8, k9, k10, k11, k12, k13⟩, ⟨hv, hc, y0, y1, y2, y3, y4⟩, ⟨an, wk, n0, n1, n2, n3, n4⟩⟩, v3⟩ := id V
  rw [e1, e3, e5] at l0
  rw [e7, e9] at k1
  refine Sp_of (by decide) (Nat.le_of_ble_eq_true rfl) ?_
  show Wn _ _ 0 [(0, .ref (52)), (1, .int (nI (i)))] [] _ _
  refine wn_ld (pc' := 1) (q := 1) (kin := 0) (v := .int (nI (i))) rfl (fun _ _ _ => rfl) rfl rfl ?_
  refine wn_ic (pc' := 2) (w := nI 0) rfl rfl (by decide) ?_
  refine wn_staI (pc' := 5) rfl rfl (by decide) rfl rfl (Nat.le_of_ble_eq_true rfl) (x_placeOf _ _ i 0) ?_
  refine wn_st (pc' := 6) (q := 2) (kin := 0) (lv' := [(0, .ref (52)), (1, .int (nI (i))), (2, .int (nI ((i * 61 + 0) * 24)))]) rfl (fun _ _ _ => rfl) rfl (Nat.le_of_ble_eq_true rfl) rfl ?_
  refine wn_ic (pc' := 7) (w := nI 0) rfl rfl (by decide) ?_
  refine wn_st (pc' := 8) (q := 3) (kin := 0) (lv' := [(0, .ref (52)), (1, .int (nI (i))), (2, .int (nI ((i * 61 + 0) * 24))), (3, .int (nI (0)))]) rfl (fun _ _ _ => rfl) rfl (Nat.le_of_ble_eq_true rfl) rfl ?_
  have lp2 : ∀ (n_lp2 : Nat) (g1 : aH) (vr1 : Nat → Int32) (v : Nat), (nvW w) + 1 ≤ v + n_lp2 → Fr [53, 55] h g1 → isI g1 53 10 re → isB g1 55 14640 vr1 → v ≤ nvW w → SyI w vq vr1 i v → Wn (Rn (d + 1)) 53 8 [(0, .ref (52)), (1, .int (nI (i))), (2, .int (nI ((i * 61 + 0) * 24))), (3, .int (nI (v)))] [] (g1) (fun r9 h9 => r9 = none ∧ Fr [53, 55] h h9 ∧ isI h9 53 10 (upd re i (nI 0)) ∧ ∃ vr1, isB h9 55 14640 vr1 ∧ SyI w vq vr1 i (nvW w)) := by
    intro n_lp2
    induction n_lp2 with
    | zero => intro g1 vr1 v hm_lp2 hf_g1 c_53_g1 c_55_g1 hv9 hL; exfalso; omega
    | succ n_lp2 ih_lp2 =>
      intro g1 vr1 v hm_lp2 hf_g1 c_53_g1 c_55_g1 hv9 hL
      have V_g1 : XV g1 ls w := XV.frl V hf_g1 (by decide)
      refine wn_ld (pc' := 9) (q := 3) (kin := 0) (v := .int (nI (v))) rfl (fun _ _ _ => rfl) rfl rfl ?_
      refine wn_ld (pc' := 10) (q := 0) (kin := 2) (v := .ref (52)) rfl (fun _ _ _ => rfl) rfl rfl ?_
      refine wn_get (pc' := 13) (v := .ref (ls)) rfl rfl ((hf_g1.2 52 (by decide)).trans v3) rfl ?_
      refine wn_get (pc' := 16) (v := .int (nI (nvW w))) rfl rfl ((hf_g1.2 ls (by simp only [List.mem_cons, List.not_mem_nil, or_false]; omega)).trans l0) rfl ?_
      refine wn_icmpN (t := 64) (f := 19) rfl rfl rfl (by omega) (by omega) (fun c3 => ?_) (fun c3 => ?_)
      · have c3 : (nvW w) ≤ v := c3
        obtain rfl : v = nvW w := by omega
        refine wn_ld (pc' := 65) (q := 0) (kin := 2) (v := .ref (52)) rfl (fun _ _ _ => rfl) rfl rfl ?_
        refine wn_get (pc' := 68) (v := .ref (53)) rfl rfl ((hf_g1.2 52 (by decide)).trans v3) rfl ?_
        refine wn_ld (pc' := 69) (q := 1) (kin := 0) (v := .int (nI (i))) rfl (fun _ _ _ => rfl) rfl rfl ?_
        refine wn_ic (pc' := 70) (w := nI 0) rfl rfl (by decide) ?_
        refine wn_iast (pc' := 71) (j := i) rfl rfl c_53_g1 rfl (by omega) (by decide) ?_
        exact wn_vret rfl rfl ⟨rfl, (Fr.st hf_g1 (by decide)), (gs_self c_53_g1), _, (gs_ne (by decide) c_55_g1), hL⟩
      · have c3 : v < (nvW w) := c3
        refine wn_ld (pc' := 20) (q := 0) (kin := 2) (v := .ref (52)) rfl (fun _ _ _ => rfl) rfl rfl ?_
        refine wn_get (pc' := 23) (v := .ref (55)) rfl rfl ((hf_g1.2 52 (by decide)).trans v3) rfl ?_
        refine wn_ld (pc' := 24) (q := 2) (kin := 0) (v := .int (nI ((i * 61 + 0) * 24))) rfl (fun _ _ _ => rfl) rfl rfl ?_
        refine wn_ld (pc' := 25) (q := 3) (kin := 0) (v := .int (nI (v))) rfl (fun _ _ _ => rfl) rfl rfl ?_
        refine wn_addN (pc' := 26) rfl rfl ?_
        refine wn_ld (pc' := 27) (q := 0) (kin := 2) (v := .ref (52)) rfl (fun _ _ _ => rfl) rfl rfl ?_
        refine wn_get (pc' := 30) (v := .ref (ls)) rfl rfl ((hf_g1.2 52 (by decide)).trans v3) rfl ?_
        refine wn_ld (pc' := 31) (q := 3) (kin := 0) (v := .int (nI (v))) rfl (fun _ _ _ => rfl) rfl rfl ?_
        refine wn_ld (pc' := 32) (q := 1) (kin := 0) (v := .int (nI (i))) rfl (fun _ _ _ => rfl) rfl rfl ?_
        refine wn_virI (pc' := 35) rfl rfl (by decide) rfl rfl ((hf_g1.2 ls (by simp only [List.mem_cons, List.not_mem_nil, or_false]; omega)).trans l0) (Nat.le_of_ble_eq_true rfl) (x_isTold _ _ ls w hWf V_g1 v i (by omega) (by omega)) ?_
        refine wn_ifeqB (t := 55) (f := 38) rfl rfl rfl (fun c4 => ?_) (fun c4 => ?_)
        · have c4 : ¬ (¬ w (216 + (v * 10 + i)) = -1) := c4
          refine wn_ic (pc' := 56) (w := nI 0) rfl rfl (by decide) ?_
          refine wn_pu (pc' := 57) (st' := [.int (((nI (0))).toInt8.toInt32), .int (nI (((i * 61 + 0) * 24) + v)), .ref (55)]) rfl (fun _ _ _ => rfl) rfl rfl ?_
          refine wn_bastB (pc' := 58) (j := ((i * 61 + 0) * 24) + v) rfl rfl c_55_g1 rfl (by omega) (by decide) ?_
          refine wn_incN (n := 1) (pc' := 61) (lv' := [(0, .ref (52)), (1, .int (nI (i))), (2, .int (nI ((i * 61 + 0) * 24))), (3, .int (nI (v + 1)))]) rfl rfl rfl (Nat.le_of_ble_eq_true rfl) rfl (by decide) ?_
          refine wn_jp (pc' := 8) rfl rfl ?_
          refine wn_weak (lv' := [(0, .ref (52)), (1, .int (nI (i))), (2, .int (nI ((i * 61 + 0) * 24))), (3, .int (nI (v + 1)))]) (by simp) ?_
          have z9 := ih_lp2 (g1.set 55 (.inl (1, 14640, .inl (upd vr1 (((i * 61 + 0) * 24) + v) (vp_nar .byte (((nI (0))).toInt8.toInt32)))))) (upd vr1 (((i * 61 + 0) * 24) + v) (vp_nar .byte (((nI (0))).toInt8.toInt32))) (v + 1) (by omega) (Fr.st hf_g1 (by decide)) (gs_ne (by decide) c_53_g1) (gs_self c_55_g1) (by omega) (SyI_s hWf hL (by omega) (told_0 c4))
          exact z9
        · have c4 : (¬ w (216 + (v * 10 + i)) = -1) := c4
          refine wn_ld (pc' := 39) (q := 0) (kin := 2) (v := .ref (52)) rfl (fun _ _ _ => rfl) rfl rfl ?_
          refine wn_get (pc' := 42) (v := .ref (ls)) rfl rfl ((hf_g1.2 52 (by decide)).trans v3) rfl ?_
          refine wn_get (pc' := 45) (v := .ref (ls + 8)) rfl rfl ((hf_g1.2 ls (by simp only [List.mem_cons, List.not_mem_nil, or_false]; omega)).trans l0) rfl ?_
          refine wn_ld (pc' := 46) (q := 3) (kin := 0) (v := .int (nI (v))) rfl (fun _ _ _ => rfl) rfl rfl ?_
          refine wn_bp (pc' := 48) (w := nI 10) rfl rfl (by decide) ?_
          refine wn_mulN (pc' := 49) rfl rfl ?_
          refine wn_ld (pc' := 50) (q := 1) (kin := 0) (v := .int (nI (i))) rfl (fun _ _ _ => rfl) rfl rfl ?_
          refine wn_addN (pc' := 51) rfl rfl ?_
          refine wn_ialdv (pc' := 52) (j := (v * 10) + i) (v := (w (216 + (((v * 10) + i))))) rfl rfl ((hf_g1.2 (ls + 8) (by simp only [List.mem_cons, List.not_mem_nil, or_false]; omega)).trans l8) rfl (by omega) (by decide) (g5 _ (by omega)) ?_
          refine wn_jp (pc' := 56) rfl rfl ?_
          refine wn_pu (pc' := 57) (st' := [.int (((w (216 + (((v * 10) + i))))).toInt8.toInt32), .int (nI (((i * 61 + 0) * 24) + v)), .ref (55)]) rfl (fun _ _ _ => rfl) rfl rfl ?_
          refine wn_bastB (pc' := 58) (j := ((i * 61 + 0) * 24) + v) rfl rfl c_55_g1 rfl (by omega) (by decide) ?_
          refine wn_incN (n := 1) (pc' := 61) (lv' := [(0, .ref (52)), (1, .int (nI (i))), (2, .int (nI ((i * 61 + 0) * 24))), (3, .int (nI (v + 1)))]) rfl rfl rfl (Nat.le_of_ble_eq_true rfl) rfl (by decide) ?_
          refine wn_jp (pc' := 8) rfl rfl ?_
          refine wn_weak (lv' := [(0, .ref (52)), (1, .int (nI (i))), (2, .int (nI ((i * 61 + 0) * 24))), (3, .int (nI (v + 1)))]) (by simp) ?_
          have z9 := ih_lp2 (g1.set 55 (.inl (1, 14640, .inl (upd vr1 (((i * 61 + 0) * 24) + v) (vp_nar .byte (((w (216 + (((v * 10) + i))))).toInt8.toInt32)))))) (upd vr1 (((i * 61 + 0) * 24) + v) (vp_nar .byte (((w (216 + (((v * 10) + i))))).toInt8.toInt32))) (v + 1) (by omega) (Fr.st hf_g1 (by decide)) (gs_ne (by decide) c_53_g1) (gs_self c_55_g1) (by omega) (SyI_s hWf hL (by omega) (told_v hWf (by omega) (by omega) c4))
          exact z9
  refine wn_weak (lv' := [(0, .ref (52)), (1, .int (nI (i))), (2, .int (nI ((i * 61 + 0) * 24))), (3, .int (nI (0)))]) (by simp) ?_
  have z9 := lp2 ((nvW w) + 1) h vq 0 (by omega) (Fr.rfl' [53, 55] h) s1 s3 (by omega) ⟨fun _ q => absurd q (by omega), Imp.rfl'⟩
  exact z9

theorem x_meet (d : Nat) (h : aH) (ls : Nat) (w : Nat → Int32) (hWf : WfW w) (V : XV h ls w) (ne ms : Nat → Int32) (s4 : isI h 56 120 ne) (s5 : isI h 57 120 ms) (i y : Nat) (hi : i < ntW w) (hy : y ≤ 60) (Rc : Rch h w i y) (v u : Nat) (hv9 : v < nvW w) (hu : u < nvW w) (p : Prop) : Sp (Rn (d + 3)) 55 [.ref (52), .int (nI (v)), .int (nI (u)), .int (nI (i)), .int (nI (y)), .int (bI (p))] h (fun r9 h9 => r9 = none ∧ Fr [56, 57] h h9 ∧ isI h9 56 120 (upd ne (v * 5 + sdW w y u i) (ne (v * 5 + sdW w y u i) + nI 1)) ∧ isI h9 57 120 (msU p ms (v * 5 + sdW w y u i) (nI (szW w u)))) := by
  obtain ⟨⟨e1, e2⟩, ⟨e3, e4⟩, ⟨e5, e6⟩⟩ := Wf_n hWf
  obtain ⟨⟨e7, e8⟩, ⟨e9, e10⟩⟩ := Wf_m hWf
  obtain ⟨v0, ⟨x9, v1⟩, ⟨v2, ⟨sz, rf, rt, rv, ag, vr, sd, tl, l0, l1, l2, l3, l4, l5, l6, l7, l8, g1, g2, g3, g4, g5⟩, ⟨sec, it, fi, se, sg, lst, rs, rp, pj, pk, pv, k0, k1, k2, k3, k4, k5, k6, k7, k8, k9, k10, k11, k12, k13⟩, ⟨hv, hc, y0, y1, y2, y3, y4⟩, ⟨an, wk, n0, n1, n2, n3, n4⟩⟩, v3⟩ := id V
  rw [e1, e3, e5] at l0
  rw [e7, e9] at k1
  refine Sp_of (by decide) (Nat.le_of_ble_eq_true rfl) ?_
  show Wn _ _ 0 [(0, .ref (52)), (1, .int (nI (v))), (2, .int (nI (u))), (3, .int (nI (i))), (4, .int (nI (y))), (5, .int (bI (p)))] [] _ _
  refine wn_ld (pc' := 1) (q := 1) (kin := 0) (v := .int (nI (v))) rfl (fun _ _ _ => rfl) rfl rfl ?_
  refine wn_ic (pc' := 2) (w := nI 5) rfl rfl (by decide) ?_
  refine wn_mulN (pc' := 3) rfl rfl ?_
  refine wn_ld (pc' := 4) (q := 0) (kin := 2) (v := .ref (52)) rfl (fun _ _ _ => rfl) rfl rfl ?_
  refine wn_ld (pc' := 5) (q := 3) (kin := 0) (v := .int (nI (i))) rfl (fun _ _ _ => rfl) rfl rfl ?_
  refine wn_ld (pc' := 7) (q := 4) (kin := 0) (v := .int (nI (y))) rfl (fun _ _ _ => rfl) rfl rfl ?_
  refine wn_ld (pc' := 8) (q := 2) (kin := 0) (v := .int (nI (u))) rfl (fun _ _ _ => rfl) rfl rfl ?_
  have := sdW_5 hWf (y := y) (show u < nvW w by omega) (show i < ntW w by omega)
  refine wn_virI (pc' := 11) rfl rfl (by decide) rfl rfl v3 (Nat.le_of_ble_eq_true rfl) (x_variantAt _ _ ls w hWf V i y u (by omega) (by omega) (by omega) Rc) ?_
  refine wn_addN (pc' := 12) rfl rfl ?_
  refine wn_st (pc' := 14) (q := 6) (kin := 0) (lv' := [(0, .ref (52)), (1, .int (nI (v))), (2, .int (nI (u))), (3, .int (nI (i))), (4, .int (nI (y))), (5, .int (bI (p))), (6, .int (nI ((v * 5) + (sdW w y u i))))]) rfl (fun _ _ _ => rfl) rfl (Nat.le_of_ble_eq_true rfl) rfl ?_
  refine wn_ld (pc' := 15) (q := 0) (kin := 2) (v := .ref (52)) rfl (fun _ _ _ => rfl) rfl rfl ?_
  refine wn_get (pc' := 18) (v := .ref (56)) rfl rfl v3 rfl ?_
  refine wn_ld (pc' := 20) (q := 6) (kin := 0) (v := .int (nI ((v * 5) + (sdW w y u i)))) rfl (fun _ _ _ => rfl) rfl rfl ?_
  refine wn_pu (pc' := 21) (st' := [.int (nI ((v * 5) + (sdW w y u i))), .ref (56), .int (nI ((v * 5) + (sdW w y u i))), .ref (56)]) rfl (fun _ _ _ => rfl) rfl rfl ?_
  refine wn_ialdv (pc' := 22) (j := (v * 5) + (sdW w y u i)) (v := (ne ((v * 5) + (sdW w y u i)))) rfl rfl s4 rfl (by omega) (by decide) (rfl) ?_
  refine wn_ic (pc' := 23) (w := nI 1) rfl rfl (by decide) ?_
  refine wn_pu (pc' := 24) (st' := [.int ((ne ((v * 5) + (sdW w y u i))) + (nI (1))), .int (nI ((v * 5) + (sdW w y u i))), .ref (56)]) rfl (fun _ _ _ => rfl) rfl rfl ?_
  refine wn_iast (pc' := 25) (j := (v * 5) + (sdW w y u i)) rfl rfl s4 rfl (by omega) (by decide) ?_
  refine wn_ld (pc' := 27) (q := 5) (kin := 0) (v := .int (bI (p))) rfl (fun _ _ _ => rfl) rfl rfl ?_
  refine wn_ifneB (t := 49) (f := 30) rfl rfl rfl (fun c1 => ?_) (fun c1 => ?_)
  · have c1 : (p) := c1
    refine wn_vret rfl rfl ⟨rfl, (Fr.st (Fr.rfl' [56, 57] h) (by decide)), (gs_self s4), ?_⟩
    rw [msU_t c1]
    exact (gs_ne (by decide) s5)
  · have c1 : ¬ (p) := c1
    refine wn_ld (pc' := 31) (q := 0) (kin := 2) (v := .ref (52)) rfl (fun _ _ _ => rfl) rfl rfl ?_
    refine wn_get (pc' := 34) (v := .ref (57)) rfl rfl (gs_ne (by decide) v3) rfl ?_
    refine wn_ld (pc' := 36) (q := 6) (kin := 0) (v := .int (nI ((v * 5) + (sdW w y u i)))) rfl (fun _ _ _ => rfl) rfl rfl ?_
    refine wn_pu (pc' := 37) (st' := [.int (nI ((v * 5) + (sdW w y u i))), .ref (57), .int (nI ((v * 5) + (sdW w y u i))), .ref (57)]) rfl (fun _ _ _ => rfl) rfl rfl ?_
    refine wn_ialdv (pc' := 38) (j := (v * 5) + (sdW w y u i)) (v := (ms ((v * 5) + (sdW w y u i)))) rfl rfl (gs_ne (by decide) s5) rfl (by omega) (by decide) (rfl) ?_
    refine wn_ld (pc' := 39) (q := 0) (kin := 2) (v := .ref (52)) rfl (fun _ _ _ => rfl) rfl rfl ?_
    refine wn_get (pc' := 42) (v := .ref (ls)) rfl rfl (gs_ne (by decide) v3) rfl ?_
    refine wn_get (pc' := 45) (v := .ref (ls + 1)) rfl rfl (gs_ne (by omega) l0) rfl ?_
    refine wn_ld (pc' := 46) (q := 2) (kin := 0) (v := .int (nI (u))) rfl (fun _ _ _ => rfl) rfl rfl ?_
    have := wf_szb hWf (show u < nvW w by omega)
    refine wn_ialdv (pc' := 47) (j := u) (v := (nI (szW w u))) rfl rfl (gs_ne (by omega) l1) rfl (by omega) (by decide) ((g1 u (by omega)).trans (wf_sz hWf (by omega))) ?_
    refine wn_pu (pc' := 48) (st' := [.int ((ms ((v * 5) + (sdW w y u i))) + (nI (szW w u))), .int (nI ((v * 5) + (sdW w y u i))), .ref (57)]) rfl (fun _ _ _ => rfl) rfl rfl ?_
    refine wn_iast (pc' := 49) (j := (v * 5) + (sdW w y u i)) rfl rfl (gs_ne (by decide) s5) rfl (by omega) (by decide) ?_
    refine wn_vret rfl rfl ⟨rfl, (Fr.st (Fr.st (Fr.rfl' [56, 57] h) (by decide)) (by decide)), (gs_ne (by decide) (gs_self s4)), ?_⟩
    rw [msU_f c1]
    exact (gs_self (gs_ne (by decide) s5))

theorem x_countNeighbours (d : Nat) (h : aH) (ls : Nat) (w : Nat → Int32) (hWf : WfW w) (V : XV h ls w) (ne ms : Nat → Int32) (s4 : isI h 56 120 ne) (s5 : isI h 57 120 ms) (i y : Nat) (hi : i < ntW w) (hy : y ≤ 60) (Rc : Rch h w i y) : Sp (Rn (d + 4)) 54 [.ref (52), .int (nI (i)), .int (nI (y))] h (fun r9 h9 => r9 = none ∧ Fr [56, 57] h h9 ∧ NbY h9 w (sdW w y) i) := by
  obtain ⟨⟨e1, e2⟩, ⟨e3, e4⟩, ⟨e5, e6⟩⟩ := Wf_n hWf
  obtain ⟨⟨e7, e8⟩, ⟨e9, e10⟩⟩ := Wf_m hWf
  obtain ⟨v0, ⟨x9, v1⟩, ⟨v2, ⟨sz, rf, rt, rv, ag, vr, sd, tl, l0, l1, l2, l3, l4, l5, l6, l7, l8, g1, g2, g3, g4, g5⟩, ⟨sec, it, fi, se, sg, lst, rs, rp, pj, pk, pv, k0, k1, k2, k3, k4, k5, k6, k7, k8, k9, k10, k11, k12, k13⟩, ⟨hv, hc, y0, y1, y2, y3, y4⟩, ⟨an, wk, n0, n1, n2, n3, n4⟩⟩, v3⟩ := id V
  rw [e1, e3, e5] at l0
  rw [e7, e9] at k1
  refine Sp_of (by decide) (Nat.le_of_ble_eq_true rfl) ?_
  show Wn _ _ 0 [(0, .ref (52)), (1, .int (nI (i))), (2, .int (nI (y)))] [] _ _
  refine wn_ic (pc' := 1) (w := nI 0) rfl rfl (by decide) ?_
  refine wn_st (pc' := 2) (q := 3) (kin := 0) (lv' := [(0, .ref (52)), (1, .int (nI (i))), (2, .int (nI (y))), (3, .int (nI (0)))]) rfl (fun _ _ _ => rfl) rfl (Nat.le_of_ble_eq_true rfl) rfl ?_
  have lp2 : ∀ (n_lp2 : Nat) (g1 : aH) (ne1 : Nat → Int32) (ms1 : Nat → Int32) (p : Nat), (nvW w * 5) + 1 ≤ p + n_lp2 → Fr [56, 57] h g1 → isI g1 56 120 ne1 → isI g1 57 120 ms1 → p ≤ nvW w * 5 → (∀ q, q < p → ne1 q = nI 0 ∧ ms1 q = nI 0) → Wn (Rn (d + 3)) 54 2 [(0, .ref (52)), (1, .int (nI (i))), (2, .int (nI (y))), (3, .int (nI (p)))] [] (g1) (fun r9 h9 => r9 = none ∧ Fr [56, 57] h h9 ∧ NbY h9 w (sdW w y) i) := by
    intro n_lp2
    induction n_lp2 with
    | zero => intro g1 ne1 ms1 p hm_lp2 hf_g1 c_56_g1 c_57_g1 hp hz; exfalso; omega
    | succ n_lp2 ih_lp2 =>
      intro g1 ne1 ms1 p hm_lp2 hf_g1 c_56_g1 c_57_g1 hp hz
      have V_g1 : XV g1 ls w := XV.frl V hf_g1 (by decide)
      have Rc_g1 : Rch g1 w i y := Rch.fr Rc hf_g1 (by decide)
      refine wn_ld (pc' := 3) (q := 3) (kin := 0) (v := .int (nI (p))) rfl (fun _ _ _ => rfl) rfl rfl ?_
      refine wn_ld (pc' := 4) (q := 0) (kin := 2) (v := .ref (52)) rfl (fun _ _ _ => rfl) rfl rfl ?_
      refine wn_get (pc' := 7) (v := .ref (ls)) rfl rfl ((hf_g1.2 52 (by decide)).trans v3) rfl ?_
      refine wn_get (pc' := 10) (v := .int (nI (nvW w))) rfl rfl ((hf_g1.2 ls (by simp only [List.mem_cons, List.not_mem_nil, or_false]; omega)).trans l0) rfl ?_
      refine wn_ic (pc' := 11) (w := nI 5) rfl rfl (by decide) ?_
      refine wn_mulN (pc' := 12) rfl rfl ?_
      refine wn_icmpN (t := 35) (f := 15) rfl rfl rfl (by omega) (by omega) (fun c3 => ?_) (fun c3 => ?_)
      · have c3 : ((nvW w) * 5) ≤ p := c3
        refine wn_ic (pc' := 36) (w := nI 0) rfl rfl (by decide) ?_
        refine wn_st (pc' := 37) (q := 3) (kin := 0) (lv' := [(0, .ref (52)), (1, .int (nI (i))), (2, .int (nI (y))), (3, .int (nI (0)))]) rfl (fun _ _ _ => rfl) rfl (Nat.le_of_ble_eq_true rfl) rfl ?_
        have lp5 : ∀ (n_lp5 : Nat) (g4 : aH) (ne2 : Nat → Int32) (ms2 : Nat → Int32) (r : Nat), (nrW w) + 1 ≤ r + n_lp5 → Fr [56, 57] h g4 → isI g4 56 120 ne2 → isI g4 57 120 ms2 → r ≤ nrW w → NbI w (sdW w y) i r ne2 ms2 → Wn (Rn (d + 3)) 54 37 [(0, .ref (52)), (1, .int (nI (i))), (2, .int (nI (y))), (3, .int (nI (r)))] [] (g4) (fun r9 h9 => r9 = none ∧ Fr [56, 57] h h9 ∧ NbY h9 w (sdW w y) i) := by
          intro n_lp5
          induction n_lp5 with
          | zero => intro g4 ne2 ms2 r hm_lp5 hf_g4 c_56_g4 c_57_g4 hr hN; exfalso; omega
          | succ n_lp5 ih_lp5 =>
            intro g4 ne2 ms2 r hm_lp5 hf_g4 c_56_g4 c_57_g4 hr hN
            have V_g4 : XV g4 ls w := XV.frl V hf_g4 (by decide)
            have Rc_g4 : Rch g4 w i y := Rch.fr Rc hf_g4 (by decide)
            refine wn_ld (pc' := 38) (q := 3) (kin := 0) (v := .int (nI (r))) rfl (fun _ _ _ => rfl) rfl rfl ?_
            refine wn_ld (pc' := 39) (q := 0) (kin := 2) (v := .ref (52)) rfl (fun _ _ _ => rfl) rfl rfl ?_
            refine wn_get (pc' := 42) (v := .ref (ls)) rfl rfl ((hf_g4.2 52 (by decide)).trans v3) rfl ?_
            refine wn_get (pc' := 45) (v := .int (nI (nrW w))) rfl rfl ((hf_g4.2 ls (by simp only [List.mem_cons, List.not_mem_nil, or_false]; omega)).trans l0) rfl ?_
            refine wn_icmpN (t := 120) (f := 48) rfl rfl rfl (by omega) (by omega) (fun c6 => ?_) (fun c6 => ?_)
            · have c6 : (nrW w) ≤ r := c6
              obtain rfl : r = nrW w := by omega
              exact wn_vret rfl rfl ⟨rfl, hf_g4, _, _, c_56_g4, c_57_g4, hN⟩
            · have c6 : r < (nrW w) := c6
              refine wn_ld (pc' := 49) (q := 0) (kin := 2) (v := .ref (52)) rfl (fun _ _ _ => rfl) rfl rfl ?_
              refine wn_ld (pc' := 50) (q := 0) (kin := 2) (v := .ref (52)) rfl (fun _ _ _ => rfl) rfl rfl ?_
              refine wn_get (pc' := 53) (v := .ref (ls)) rfl rfl ((hf_g4.2 52 (by decide)).trans v3) rfl ?_
              refine wn_get (pc' := 56) (v := .ref (ls + 2)) rfl rfl ((hf_g4.2 ls (by simp only [List.mem_cons, List.not_mem_nil, or_false]; omega)).trans l0) rfl ?_
              refine wn_ld (pc' := 57) (q := 3) (kin := 0) (v := .int (nI (r))) rfl (fun _ _ _ => rfl) rfl rfl ?_
              have := wf_rdb hWf (show r < nrW w by omega)
              refine wn_ialdv (pc' := 58) (j := r) (v := (nI (rdA w r))) rfl rfl ((hf_g4.2 (ls + 2) (by simp only [List.mem_cons, List.not_mem_nil, or_false]; omega)).trans l2) rfl (by omega) (by decide) ((g2 r (by omega)).1.trans (wf_rda hWf (by omega))) ?_
              refine wn_ld (pc' := 59) (q := 0) (kin := 2) (v := .ref (52)) rfl (fun _ _ _ => rfl) rfl rfl ?_
              refine wn_get (pc' := 62) (v := .ref (ls)) rfl rfl ((hf_g4.2 52 (by decide)).trans v3) rfl ?_
              refine wn_get (pc' := 65) (v := .ref (ls + 3)) rfl rfl ((hf_g4.2 ls (by simp only [List.mem_cons, List.not_mem_nil, or_false]; omega)).trans l0) rfl ?_
              refine wn_ld (pc' := 66) (q := 3) (kin := 0) (v := .int (nI (r))) rfl (fun _ _ _ => rfl) rfl rfl ?_
              have := wf_rdb hWf (show r < nrW w by omega)
              refine wn_ialdv (pc' := 67) (j := r) (v := (nI (rdB w r))) rfl rfl ((hf_g4.2 (ls + 3) (by simp only [List.mem_cons, List.not_mem_nil, or_false]; omega)).trans l3) rfl (by omega) (by decide) ((g2 r (by omega)).2.1.trans (wf_rdB hWf (by omega))) ?_
              refine wn_ld (pc' := 68) (q := 1) (kin := 0) (v := .int (nI (i))) rfl (fun _ _ _ => rfl) rfl rfl ?_
              refine wn_ld (pc' := 69) (q := 2) (kin := 0) (v := .int (nI (y))) rfl (fun _ _ _ => rfl) rfl rfl ?_
              refine wn_ld (pc' := 70) (q := 0) (kin := 2) (v := .ref (52)) rfl (fun _ _ _ => rfl) rfl rfl ?_
              refine wn_get (pc' := 73) (v := .ref (ls)) rfl rfl ((hf_g4.2 52 (by decide)).trans v3) rfl ?_
              refine wn_get (pc' := 76) (v := .ref (ls + 5)) rfl rfl ((hf_g4.2 ls (by simp only [List.mem_cons, List.not_mem_nil, or_false]; omega)).trans l0) rfl ?_
              refine wn_ld (pc' := 77) (q := 3) (kin := 0) (v := .int (nI (r))) rfl (fun _ _ _ => rfl) rfl rfl ?_
              refine wn_baldv (pc' := 78) (j := r) (v := (bI (agW w r))) rfl rfl (Or.inr rfl) ((hf_g4.2 (ls + 5) (by simp only [List.mem_cons, List.not_mem_nil, or_false]; omega)).trans l5) rfl (by omega) (by decide) ((g2 r (by omega)).2.2.2) ?_
              refine wn_virS (pc' := 81) rfl rfl (by decide) rfl rfl ((hf_g4.2 52 (by decide)).trans v3) (Nat.le_of_ble_eq_true rfl) (x_meet _ _ ls w hWf V_g4 _ _ c_56_g4 c_57_g4 i y (by omega) (by omega) Rc_g4 (rdA w r) (rdB w r) (by omega) (by omega) (agW w r)) (fun r9 h7 e8 => ?_)
              obtain ⟨rfl, f_h7, n_h7, m_h7⟩ := e8
              show Wn _ _ 81 _ [] h7 _
              refine wn_ld (pc' := 82) (q := 0) (kin := 2) (v := .ref (52)) rfl (fun _ _ _ => rfl) rfl rfl ?_
              refine wn_ld (pc' := 83) (q := 0) (kin := 2) (v := .ref (52)) rfl (fun _ _ _ => rfl) rfl rfl ?_
              refine wn_get (pc' := 86) (v := .ref (ls)) rfl rfl ((f_h7.2 52 (by decide)).trans ((hf_g4.2 52 (by decide)).trans v3)) rfl ?_
              refine wn_get (pc' := 89) (v := .ref (ls + 3)) rfl rfl ((f_h7.2 ls (by simp only [List.mem_cons, List.not_mem_nil, or_false]; omega)).trans ((hf_g4.2 ls (by simp only [List.mem_cons, List.not_mem_nil, or_false]; omega)).trans l0)) rfl ?_
              refine wn_ld (pc' := 90) (q := 3) (kin := 0) (v := .int (nI (r))) rfl (fun _ _ _ => rfl) rfl rfl ?_
              have := wf_rdb hWf (show r < nrW w by omega)
              refine wn_ialdv (pc' := 91) (j := r) (v := (nI (rdB w r))) rfl rfl ((f_h7.2 (ls + 3) (by simp only [List.mem_cons, List.not_mem_nil, or_false]; omega)).trans ((hf_g4.2 (ls + 3) (by simp only [List.mem_cons, List.not_mem_nil, or_false]; omega)).trans l3)) rfl (by omega) (by decide) ((g2 r (by omega)).2.1.trans (wf_rdB hWf (by omega))) ?_
              refine wn_ld (pc' := 92) (q := 0) (kin := 2) (v := .ref (52)) rfl (fun _ _ _ => rfl) rfl rfl ?_
              refine wn_get (pc' := 95) (v := .ref (ls)) rfl rfl ((f_h7.2 52 (by decide)).trans ((hf_g4.2 52 (by decide)).trans v3)) rfl ?_
              refine wn_get (pc' := 98) (v := .ref (ls + 2)) rfl rfl ((f_h7.2 ls (by simp only [List.mem_cons, List.not_mem_nil, or_false]; omega)).trans ((hf_g4.2 ls (by simp only [List.mem_cons, List.not_mem_nil, or_false]; omega)).trans l0)) rfl ?_
              refine wn_ld (pc' := 99) (q := 3) (kin := 0) (v := .int (nI (r))) rfl (fun _ _ _ => rfl) rfl rfl ?_
              have := wf_rdb hWf (show r < nrW w by omega)
              refine wn_ialdv (pc' := 100) (j := r) (v := (nI (rdA w r))) rfl rfl ((f_h7.2 (ls + 2) (by simp only [List.mem_cons, List.not_mem_nil, or_false]; omega)).trans ((hf_g4.2 (ls + 2) (by simp only [List.mem_cons, List.not_mem_nil, or_false]; omega)).trans l2)) rfl (by omega) (by decide) ((g2 r (by omega)).1.trans (wf_rda hWf (by omega))) ?_
              refine wn_ld (pc' := 101) (q := 1) (kin := 0) (v := .int (nI (i))) rfl (fun _ _ _ => rfl) rfl rfl ?_
              refine wn_ld (pc' := 102) (q := 2) (kin := 0) (v := .int (nI (y))) rfl (fun _ _ _ => rfl) rfl rfl ?_
              refine wn_ld (pc' := 103) (q := 0) (kin := 2) (v := .ref (52)) rfl (fun _ _ _ => rfl) rfl rfl ?_
              refine wn_get (pc' := 106) (v := .ref (ls)) rfl rfl ((f_h7.2 52 (by decide)).trans ((hf_g4.2 52 (by decide)).trans v3)) rfl ?_
              refine wn_get (pc' := 109) (v := .ref (ls + 5)) rfl rfl ((f_h7.2 ls (by simp only [List.mem_cons, List.not_mem_nil, or_false]; omega)).trans ((hf_g4.2 ls (by simp only [List.mem_cons, List.not_mem_nil, or_false]; omega)).trans l0)) rfl ?_
              refine wn_ld (pc' := 110) (q := 3) (kin := 0) (v := .int (nI (r))) rfl (fun _ _ _ => rfl) rfl rfl ?_
              refine wn_baldv (pc' := 111) (j := r) (v := (bI (agW w r))) rfl rfl (Or.inr rfl) ((f_h7.2 (ls + 5) (by simp only [List.mem_cons, List.not_mem_nil, or_false]; omega)).trans ((hf_g4.2 (ls + 5) (by simp only [List.mem_cons, List.not_mem_nil, or_false]; omega)).trans l5)) rfl (by omega) (by decide) ((g2 r (by omega)).2.2.2) ?_
              refine wn_virS (pc' := 114) rfl rfl (by decide) rfl rfl ((f_h7.2 52 (by decide)).trans ((hf_g4.2 52 (by decide)).trans v3)) (Nat.le_of_ble_eq_true rfl) (x_meet _ _ ls w hWf (XV.frl V_g4 f_h7 (by decide)) _ _ n_h7 m_h7 i y (by omega) (by omega) (Rch.fr Rc_g4 f_h7 (by decide)) (rdB w r) (rdA w r) (by omega) (by omega) (agW w r)) (fun r9 h9 e10 => ?_)
              obtain ⟨rfl, f_h9, n_h9, m_h9⟩ := e10
              show Wn _ _ 114 _ [] h9 _
              refine wn_incN (n := 1) (pc' := 117) (lv' := [(0, .ref (52)), (1, .int (nI (i))), (2, .int (nI (y))), (3, .int (nI (r + 1)))]) rfl rfl rfl (Nat.le_of_ble_eq_true rfl) rfl (by decide) ?_
              refine wn_jp (pc' := 37) rfl rfl ?_
              refine wn_weak (lv' := [(0, .ref (52)), (1, .int (nI (i))), (2, .int (nI (y))), (3, .int (nI (r + 1)))]) (by simp) ?_
              have z9 := ih_lp5 h9 (upd (upd ne2 ((rdA w r) * 5 + sdW w y (rdB w r) i) (ne2 ((rdA w r) * 5 + sdW w y (rdB w r) i) + nI 1)) ((rdB w r) * 5 + sdW w y (rdA w r) i) ((upd ne2 ((rdA w r) * 5 + sdW w y (rdB w r) i) (ne2 ((rdA w r) * 5 + sdW w y (rdB w r) i) + nI 1)) ((rdB w r) * 5 + sdW w y (rdA w r) i) + nI 1)) (msU (agW w r) (msU (agW w r) ms2 ((rdA w r) * 5 + sdW w y (rdB w r) i) (nI (szW w (rdB w r)))) ((rdB w r) * 5 + sdW w y (rdA w r) i) (nI (szW w (rdA w r)))) (r + 1) (by omega) (Fr.tr (Fr.tr hf_g4 f_h7 (by decide)) f_h9 (by decide)) n_h9 m_h9 (by omega) (NbI_s (S := sdW w y) hWf (fun v9 q => sdW_5 hWf q hi) (by omega) hN)
              exact z9
        refine wn_weak (lv' := [(0, .ref (52)), (1, .int (nI (i))), (2, .int (nI (y))), (3, .int (nI (0)))]) (by simp) ?_
        have z9 := lp5 ((nrW w) + 1) g1 ne1 ms1 0 (by omega) hf_g1 c_56_g1 c_57_g1 (by omega) (NbI_0 hz (by omega))
        exact z9
      · have c3 : p < ((nvW w) * 5) := c3
        refine wn_ld (pc' := 16) (q := 0) (kin := 2) (v := .ref (52)) rfl (fun _ _ _ => rfl) rfl rfl ?_
        refine wn_get (pc' := 19) (v := .ref (56)) rfl rfl ((hf_g1.2 52 (by decide)).trans v3) rfl ?_
        refine wn_ld (pc' := 20) (q := 3) (kin := 0) (v := .int (nI (p))) rfl (fun _ _ _ => rfl) rfl rfl ?_
        refine wn_ic (pc' := 21) (w := nI 0) rfl rfl (by decide) ?_
        refine wn_iast (pc' := 22) (j := p) rfl rfl c_56_g1 rfl (by omega) (by decide) ?_
        refine wn_ld (pc' := 23) (q := 0) (kin := 2) (v := .ref (52)) rfl (fun _ _ _ => rfl) rfl rfl ?_
        refine wn_get (pc' := 26) (v := .ref (57)) rfl rfl (gs_ne (by decide) ((hf_g1.2 52 (by decide)).trans v3)) rfl ?_
        refine wn_ld (pc' := 27) (q := 3) (kin := 0) (v := .int (nI (p))) rfl (fun _ _ _ => rfl) rfl rfl ?_
        refine wn_ic (pc' := 28) (w := nI 0) rfl rfl (by decide) ?_
        refine wn_iast (pc' := 29) (j := p) rfl rfl (gs_ne (by decide) c_57_g1) rfl (by omega) (by decide) ?_
        refine wn_incN (n := 1) (pc' := 32) (lv' := [(0, .ref (52)), (1, .int (nI (i))), (2, .int (nI (y))), (3, .int (nI (p + 1)))]) rfl rfl rfl (Nat.le_of_ble_eq_true rfl) rfl (by decide) ?_
        refine wn_jp (pc' := 2) rfl rfl ?_
        refine wn_weak (lv' := [(0, .ref (52)), (1, .int (nI (i))), (2, .int (nI (y))), (3, .int (nI (p + 1)))]) (by simp) ?_
        have z9 := ih_lp2 ((g1.set 56 (.inl (0, 120, .inl (upd ne1 (p) ((nI (0))))))).set 57 (.inl (0, 120, .inl (upd ms1 (p) ((nI (0))))))) (upd ne1 (p) ((nI (0)))) (upd ms1 (p) ((nI (0)))) (p + 1) (by omega) (Fr.st (Fr.st hf_g1 (by decide)) (by decide)) (gs_ne (by decide) (gs_self c_56_g1)) (gs_self (gs_ne (by decide) c_57_g1)) (by omega) (fun q hq => by by_cases e : q = p; (subst e; exact ⟨pk_us, pk_us⟩); (rw [pk_un (by omega), pk_un (by omega)]; exact hz q (by omega)))
        exact z9
  refine wn_weak (lv' := [(0, .ref (52)), (1, .int (nI (i))), (2, .int (nI (y))), (3, .int (nI (0)))]) (by simp) ?_
  have z9 := lp2 ((nvW w * 5) + 1) h ne ms 0 (by omega) (Fr.rfl' [56, 57] h) s4 s5 (by omega) (fun _ q => absurd q (by omega))
  exact z9

theorem x_valueOf (d : Nat) (h : aH) (ls : Nat) (w : Nat → Int32) (hWf : WfW w) (V : XV h ls w) (S : Nat → Nat → Nat) (y v i : Nat) (hy : y ≤ 60) (hv9 : v < nvW w) (NB : NbY h w S i) (k : Nat) (hk : k < npW w) : Rn (d + 1) 59 [.ref (52), .int (nI (k)), .int (nI (y)), .int (nI (v))] h (some (.long (lN (ptW w S y v i k)))) h 0 0 := by
  obtain ⟨⟨e1, e2⟩, ⟨e3, e4⟩, ⟨e5, e6⟩⟩ := Wf_n hWf
  obtain ⟨⟨e7, e8⟩, ⟨e9, e10⟩⟩ := Wf_m hWf
  obtain ⟨v0, ⟨x9, v1⟩, ⟨v2, ⟨sz, rf, rt, rv, ag, vr, sd, tl, l0, l1, l2, l3, l4, l5, l6, l7, l8, g1, g2, g3, g4, g5⟩, ⟨sec, it, fi, se, sg, lst, rs, rp, pj, pk, pv, k0, k1, k2, k3, k4, k5, k6, k7, k8, k9, k10, k11, k12, k13⟩, ⟨hv, hc, y0, y1, y2, y3, y4⟩, ⟨an, wk, n0, n1, n2, n3, n4⟩⟩, v3⟩ := id V
  rw [e1, e3, e5] at l0
  rw [e7, e9] at k1
  obtain ⟨ne, ms, nb1, nb2, nb3⟩ := id NB
  obtain ⟨⟨a1, ha1, ea1⟩, n1, hn1, en1, hn5⟩ := hWf.2.2.2.2.2.2 k hk
  have hn5 : (w (577 + 3 * k) = 1 ∨ w (577 + 3 * k) = 2) → n1 < 5 := hn5
  refine Rn_of (by decide) (Nat.le_of_ble_eq_true rfl) ?_
  show Wn _ _ 0 [(0, .ref (52)), (1, .int (nI (k))), (2, .int (nI (y))), (3, .int (nI (v)))] [] _ _
  refine wn_ld (pc' := 1) (q := 0) (kin := 2) (v := .ref (52)) rfl (fun _ _ _ => rfl) rfl rfl ?_
  refine wn_get (pc' := 4) (v := .ref (ls)) rfl rfl v3 rfl ?_
  refine wn_get (pc' := 7) (v := .ref (ls + 9)) rfl rfl l0 rfl ?_
  refine wn_get (pc' := 10) (v := .ref (ls + 9 + 10)) rfl rfl k1 rfl ?_
  refine wn_ld (pc' := 11) (q := 1) (kin := 0) (v := .int (nI (k))) rfl (fun _ _ _ => rfl) rfl rfl ?_
  refine wn_ialdv (pc' := 12) (j := k) (v := (nI (n1))) rfl rfl k11 rfl (by omega) (by decide) ((k13 _ (by omega)).2.2.trans en1) ?_
  refine wn_st (pc' := 14) (q := 4) (kin := 0) (lv' := [(0, .ref (52)), (1, .int (nI (k))), (2, .int (nI (y))), (3, .int (nI (v))), (4, .int (nI (n1)))]) rfl (fun _ _ _ => rfl) rfl (Nat.le_of_ble_eq_true rfl) rfl ?_
  refine wn_ld (pc' := 15) (q := 0) (kin := 2) (v := .ref (52)) rfl (fun _ _ _ => rfl) rfl rfl ?_
  refine wn_get (pc' := 18) (v := .ref (ls)) rfl rfl v3 rfl ?_
  refine wn_get (pc' := 21) (v := .ref (ls + 9)) rfl rfl l0 rfl ?_
  refine wn_get (pc' := 24) (v := .ref (ls + 9 + 9)) rfl rfl k1 rfl ?_
  refine wn_ld (pc' := 25) (q := 1) (kin := 0) (v := .int (nI (k))) rfl (fun _ _ _ => rfl) rfl rfl ?_
  refine wn_ialdv (pc' := 26) (j := k) (v := (nI (a1))) rfl rfl k10 rfl (by omega) (by decide) ((k13 _ (by omega)).2.1.trans ea1) ?_
  rcases (show a1 = 0 ∨ a1 = 1 ∨ a1 = 2 ∨ a1 = 3 ∨ a1 = 4 by omega) with rfl | rfl | rfl | rfl | rfl
  · refine wn_sw (off := 70) (pc' := 96) rfl rfl (by decide) rfl ?_
    refine wn_ld (pc' := 98) (q := 4) (kin := 0) (v := .int (nI (n1))) rfl (fun _ _ _ => rfl) rfl rfl ?_
    refine wn_i2lN (pc' := 99) rfl rfl (by omega) ?_
    refine wn_lret rfl rfl ⟨?_, rfl⟩
    rw [ptW_k ea1 (by decide) en1 hn1]; rfl
  · have hn6 : n1 < 5 := hn5 (by rw [ea1]; decide)
    refine wn_sw (off := 30) (pc' := 56) rfl rfl (by decide) rfl ?_
    refine wn_ld (pc' := 57) (q := 0) (kin := 2) (v := .ref (52)) rfl (fun _ _ _ => rfl) rfl rfl ?_
    refine wn_get (pc' := 60) (v := .ref (56)) rfl rfl v3 rfl ?_
    refine wn_ld (pc' := 61) (q := 3) (kin := 0) (v := .int (nI (v))) rfl (fun _ _ _ => rfl) rfl rfl ?_
    refine wn_ic (pc' := 62) (w := nI 5) rfl rfl (by decide) ?_
    refine wn_mulN (pc' := 63) rfl rfl ?_
    refine wn_ld (pc' := 65) (q := 4) (kin := 0) (v := .int (nI (n1))) rfl (fun _ _ _ => rfl) rfl rfl ?_
    refine wn_addN (pc' := 66) rfl rfl ?_
    have := neW_le w S v i n1 (nrW w)
    refine wn_ialdv (pc' := 67) (j := (v * 5) + n1) (v := (nI (neW w S v i n1 (nrW w)))) rfl rfl nb1 rfl (by omega) (by decide) ((nb3 v n1 hv9 (by omega)).1) ?_
    refine wn_i2lN (pc' := 68) rfl rfl (by omega) ?_
    refine wn_lret rfl rfl ⟨?_, rfl⟩
    rw [ptW_k ea1 (by decide) en1 hn1]; rfl
  · have hn6 : n1 < 5 := hn5 (by rw [ea1]; decide)
    refine wn_sw (off := 43) (pc' := 69) rfl rfl (by decide) rfl ?_
    refine wn_ld (pc' := 70) (q := 0) (kin := 2) (v := .ref (52)) rfl (fun _ _ _ => rfl) rfl rfl ?_
    refine wn_get (pc' := 73) (v := .ref (57)) rfl rfl v3 rfl ?_
    refine wn_ld (pc' := 74) (q := 3) (kin := 0) (v := .int (nI (v))) rfl (fun _ _ _ => rfl) rfl rfl ?_
    refine wn_ic (pc' := 75) (w := nI 5) rfl rfl (by decide) ?_
    refine wn_mulN (pc' := 76) rfl rfl ?_
    refine wn_ld (pc' := 78) (q := 4) (kin := 0) (v := .int (nI (n1))) rfl (fun _ _ _ => rfl) rfl rfl ?_
    refine wn_addN (pc' := 79) rfl rfl ?_
    have := msW_le hWf S v i n1 (nrW w) (Nat.le_refl _)
    refine wn_ialdv (pc' := 80) (j := (v * 5) + n1) (v := (nI (msW w S v i n1 (nrW w)))) rfl rfl nb2 rfl (by omega) (by decide) ((nb3 v n1 hv9 (by omega)).2) ?_
    refine wn_i2lN (pc' := 81) rfl rfl (by omega) ?_
    refine wn_lret rfl rfl ⟨?_, rfl⟩
    rw [ptW_k ea1 (by decide) en1 hn1]; rfl
  · refine wn_sw (off := 56) (pc' := 82) rfl rfl (by decide) rfl ?_
    refine wn_ld (pc' := 83) (q := 0) (kin := 2) (v := .ref (52)) rfl (fun _ _ _ => rfl) rfl rfl ?_
    refine wn_get (pc' := 86) (v := .ref (ls)) rfl rfl v3 rfl ?_
    refine wn_get (pc' := 89) (v := .ref (ls + 1)) rfl rfl l0 rfl ?_
    refine wn_ld (pc' := 90) (q := 3) (kin := 0) (v := .int (nI (v))) rfl (fun _ _ _ => rfl) rfl rfl ?_
    have := wf_szb hWf (show v < nvW w by omega)
    refine wn_ialdv (pc' := 91) (j := v) (v := (nI (szW w v))) rfl rfl l1 rfl (by omega) (by decide) ((g1 v (by omega)).trans (wf_sz hWf (by omega))) ?_
    refine wn_i2lN (pc' := 92) rfl rfl (by omega) ?_
    refine wn_lret rfl rfl ⟨?_, rfl⟩
    rw [ptW_k ea1 (by decide) en1 hn1]; rfl
  · refine wn_sw (off := 67) (pc' := 93) rfl rfl (by decide) rfl ?_
    refine wn_ld (pc' := 94) (q := 2) (kin := 0) (v := .int (nI (y))) rfl (fun _ _ _ => rfl) rfl rfl ?_
    refine wn_i2lN (pc' := 95) rfl rfl (by omega) ?_
    refine wn_lret rfl rfl ⟨?_, rfl⟩
    rw [ptW_k ea1 (by decide) en1 hn1]; rfl

theorem x_workOut (d : Nat) (h : aH) (ls : Nat) (w : Nat → Int32) (hWf : WfW w) (V : XV h ls w) (S : Nat → Nat → Nat) (y v i : Nat) (hy : y ≤ 60) (hv9 : v < nvW w) (NB : NbY h w S i) (b e : Nat) (hbe : b ≤ e) (he : e ≤ npW w) : Rn (d + 2) 58 [.ref (52), .int (nI (b)), .int (nI (e)), .int (nI (y)), .int (nI (v))] h (some (.long (sX (smW (jC w) (ptW w S y v i) b e)))) h 0 0 := by
  obtain ⟨⟨e1, e2⟩, ⟨e3, e4⟩, ⟨e5, e6⟩⟩ := Wf_n hWf
  obtain ⟨⟨e7, e8⟩, ⟨e9, e10⟩⟩ := Wf_m hWf
  obtain ⟨v0, ⟨x9, v1⟩, ⟨v2, ⟨sz, rf, rt, rv, ag, vr, sd, tl, l0, l1, l2, l3, l4, l5, l6, l7, l8, g1, g2, g3, g4, g5⟩, ⟨sec, it, fi, se, sg, lst, rs, rp, pj, pk, pv, k0, k1, k2, k3, k4, k5, k6, k7, k8, k9, k10, k11, k12, k13⟩, ⟨hv, hc, y0, y1, y2, y3, y4⟩, ⟨an, wk, n0, n1, n2, n3, n4⟩⟩, v3⟩ := id V
  rw [e1, e3, e5] at l0
  rw [e7, e9] at k1
  refine Rn_of (by decide) (Nat.le_of_ble_eq_true rfl) ?_
  show Wn _ _ 0 [(0, .ref (52)), (1, .int (nI (b))), (2, .int (nI (e))), (3, .int (nI (y))), (4, .int (nI (v)))] [] _ _
  refine wn_pu (pc' := 1) (st' := .long (iJ 0) :: []) rfl (fun _ _ _ => rfl) rfl rfl ?_
  refine wn_st (pc' := 3) (q := 5) (kin := 1) (lv' := [(0, .ref (52)), (1, .int (nI (b))), (2, .int (nI (e))), (3, .int (nI (y))), (4, .int (nI (v))), (5, .long (iJ 0))]) rfl (fun _ _ _ => rfl) rfl (Nat.le_of_ble_eq_true rfl) rfl ?_
  refine wn_pu (pc' := 4) (st' := .long (iJ 0) :: []) rfl (fun _ _ _ => rfl) rfl rfl ?_
  refine wn_st (pc' := 6) (q := 7) (kin := 1) (lv' := [(0, .ref (52)), (1, .int (nI (b))), (2, .int (nI (e))), (3, .int (nI (y))), (4, .int (nI (v))), (5, .long (iJ 0)), (7, .long (iJ 0))]) rfl (fun _ _ _ => rfl) rfl (Nat.le_of_ble_eq_true rfl) rfl ?_
  refine wn_ic (pc' := 7) (w := nI 1) rfl rfl (by decide) ?_
  refine wn_st (pc' := 9) (q := 9) (kin := 0) (lv' := [(0, .ref (52)), (1, .int (nI (b))), (2, .int (nI (e))), (3, .int (nI (y))), (4, .int (nI (v))), (5, .long (iJ 0)), (7, .long (iJ 0)), (9, .int (nI (1)))]) rfl (fun _ _ _ => rfl) rfl (Nat.le_of_ble_eq_true rfl) rfl ?_
  refine wn_ld (pc' := 10) (q := 1) (kin := 0) (v := .int (nI (b))) rfl (fun _ _ _ => rfl) rfl rfl ?_
  refine wn_st (pc' := 12) (q := 10) (kin := 0) (lv' := [(0, .ref (52)), (1, .int (nI (b))), (2, .int (nI (e))), (3, .int (nI (y))), (4, .int (nI (v))), (5, .long (iJ 0)), (7, .long (iJ 0)), (9, .int (nI (1))), (10, .int (nI (b)))]) rfl (fun _ _ _ => rfl) rfl (Nat.le_of_ble_eq_true rfl) rfl ?_
  have lp1 : ∀ (n_lp1 : Nat) (t : Int) (g : Int) (p : Int) (sg : Int32) (k : Nat), e + 1 ≤ k + n_lp1 → b ≤ k → k ≤ e → (Int32.toInt64 sg = iJ g ∧ (g = 1 ∨ g = -1)) → (rnW (jC w) (ptW w S y v i) b k = some (t, g, p) ∧ -1000000000 ≤ t ∧ t ≤ 1000000000 ∧ 0 ≤ p ∧ p ≤ 1000000000) → Wn (Rn (d + 1)) 58 12 [(0, .ref (52)), (1, .int (nI (b))), (2, .int (nI (e))), (3, .int (nI (y))), (4, .int (nI (v))), (5, .long (iJ t)), (7, .long (iJ p)), (9, .int (sg)), (10, .int (nI (k)))] [] (h) (fun r9 h9 => r9 = (some (.long (sX (smW (jC w) (ptW w S y v i) b e)))) ∧ h9 = h) := by
    intro n_lp1
    induction n_lp1 with
    | zero => intro t g p sg k hm_lp1 hb hk hs hR; exfalso; omega
    | succ n_lp1 ih_lp1 =>
      intro t g p sg k hm_lp1 hb hk hs hR
      refine wn_ld (pc' := 14) (q := 10) (kin := 0) (v := .int (nI (k))) rfl (fun _ _ _ => rfl) rfl rfl ?_
      refine wn_ld (pc' := 15) (q := 2) (kin := 0) (v := .int (nI (e))) rfl (fun _ _ _ => rfl) rfl rfl ?_
      refine wn_icmpN (t := 125) (f := 18) rfl rfl rfl (by omega) (by omega) (fun c2 => ?_) (fun c2 => ?_)
      · have c2 : e ≤ k := c2
        refine wn_ld (pc' := 127) (q := 5) (kin := 1) (v := .long (iJ t)) rfl (fun _ _ _ => rfl) rfl rfl ?_
        refine wn_ld (pc' := 129) (q := 9) (kin := 0) (v := .int (sg)) rfl (fun _ _ _ => rfl) rfl rfl ?_
        refine wn_pu (pc' := 130) (st' := [.long (Int32.toInt64 (sg)), .long (iJ t)]) rfl (fun _ _ _ => rfl) rfl rfl ?_
        rw [hs.1]
        refine wn_ld (pc' := 132) (q := 7) (kin := 1) (v := .long (iJ p)) rfl (fun _ _ _ => rfl) rfl rfl ?_
        refine wn_lmulJ (pc' := 133) rfl rfl ?_
        refine wn_laddJ (pc' := 134) rfl rfl ?_
        refine wn_st (pc' := 136) (q := 5) (kin := 1) (lv' := [(0, .ref (52)), (1, .int (nI (b))), (2, .int (nI (e))), (3, .int (nI (y))), (4, .int (nI (v))), (5, .long (iJ (t + ((g * p))))), (7, .long (iJ p)), (9, .int (sg)), (10, .int (nI (k)))]) rfl (fun _ _ _ => rfl) rfl (Nat.le_of_ble_eq_true rfl) rfl ?_
        refine wn_ld (pc' := 138) (q := 5) (kin := 1) (v := .long (iJ (t + ((g * p))))) rfl (fun _ _ _ => rfl) rfl rfl ?_
        refine wn_go (pc' := 141) (lv' := [(0, .ref (52)), (1, .int (nI (b))), (2, .int (nI (e))), (3, .int (nI (y))), (4, .int (nI (v))), (5, .long (iJ (t + ((g * p))))), (7, .long (iJ p)), (9, .int (sg)), (10, .int (nI (k)))]) (st' := [.long ((1000000000 : Int64)), .long (iJ (t + ((g * p))))]) rfl (fun _ _ _ k9 => k9) ?_
        refine wn_pu (pc' := 142) (st' := [.int (lg_cmp (iJ (t + ((g * p)))) ((1000000000 : Int64)))]) rfl (fun _ _ _ => rfl) rfl rfl ?_
        refine wn_lc (t := 154) (f := 145) rfl rfl rfl (fun c3 => ?_) (fun c3 => ?_)
        · have c3 : (iJ (t + ((g * p)))).toInt > ((1000000000 : Int64)).toInt := c3
          refine wn_go (pc' := 157) (lv' := [(0, .ref (52)), (1, .int (nI (b))), (2, .int (nI (e))), (3, .int (nI (y))), (4, .int (nI (v))), (5, .long (iJ (t + ((g * p))))), (7, .long (iJ p)), (9, .int (sg)), (10, .int (nI (k)))]) (st' := [.long ((9223372036854775807 : Int64))]) rfl (fun _ _ _ k9 => k9) ?_
          refine wn_jp (pc' := 162) rfl rfl ?_
          have m1 : (-1000000000 : Int64).toInt = -1000000000 := by decide
          have m2 : (1000000000 : Int64).toInt = 1000000000 := by decide
          refine wn_lret rfl rfl ⟨congrArg (fun z => some (Value.long z)) ?_, rfl⟩
          have gm : g * p = p ∨ g * p = -p := by rcases hs.2 with e | e <;> rw [e] <;> omega
          rw [iJ_int (by omega) (by omega)] at c3
          obtain rfl : k = e := by omega
          rw [smW_far hR.1 (by omega)]; rfl
        · have c3 : ¬ ((iJ (t + ((g * p)))).toInt > ((1000000000 : Int64)).toInt) := c3
          refine wn_ld (pc' := 147) (q := 5) (kin := 1) (v := .long (iJ (t + ((g * p))))) rfl (fun _ _ _ => rfl) rfl rfl ?_
          refine wn_go (pc' := 150) (lv' := [(0, .ref (52)), (1, .int (nI (b))), (2, .int (nI (e))), (3, .int (nI (y))), (4, .int (nI (v))), (5, .long (iJ (t + ((g * p))))), (7, .long (iJ p)), (9, .int (sg)), (10, .int (nI (k)))]) (st' := [.long ((-1000000000 : Int64)), .long (iJ (t + ((g * p))))]) rfl (fun _ _ _ k9 => k9) ?_
          refine wn_pu (pc' := 151) (st' := [.int (lg_cmp (iJ (t + ((g * p)))) ((-1000000000 : Int64)))]) rfl (fun _ _ _ => rfl) rfl rfl ?_
          refine wn_lc (t := 160) (f := 154) rfl rfl rfl (fun c4 => ?_) (fun c4 => ?_)
          · have c4 : (iJ (t + ((g * p)))).toInt ≥ ((-1000000000 : Int64)).toInt := c4
            refine wn_ld (pc' := 162) (q := 5) (kin := 1) (v := .long (iJ (t + ((g * p))))) rfl (fun _ _ _ => rfl) rfl rfl ?_
            have m1 : (-1000000000 : Int64).toInt = -1000000000 := by decide
            have m2 : (1000000000 : Int64).toInt = 1000000000 := by decide
            refine wn_lret rfl rfl ⟨congrArg (fun z => some (Value.long z)) ?_, rfl⟩
            have gm : g * p = p ∨ g * p = -p := by rcases hs.2 with e | e <;> rw [e] <;> omega
            rw [iJ_int (by omega) (by omega)] at c3
            rw [iJ_int (by omega) (by omega)] at c4
            obtain rfl : k = e := by omega
            rw [smW_some hR.1 (by omega) (by omega)]; rfl
          · have c4 : ¬ ((iJ (t + ((g * p)))).toInt ≥ ((-1000000000 : Int64)).toInt) := c4
            refine wn_go (pc' := 157) (lv' := [(0, .ref (52)), (1, .int (nI (b))), (2, .int (nI (e))), (3, .int (nI (y))), (4, .int (nI (v))), (5, .long (iJ (t + ((g * p))))), (7, .long (iJ p)), (9, .int (sg)), (10, .int (nI (k)))]) (st' := [.long ((9223372036854775807 : Int64))]) rfl (fun _ _ _ k9 => k9) ?_
            refine wn_jp (pc' := 162) rfl rfl ?_
            have m1 : (-1000000000 : Int64).toInt = -1000000000 := by decide
            have m2 : (1000000000 : Int64).toInt = 1000000000 := by decide
            refine wn_lret rfl rfl ⟨congrArg (fun z => some (Value.long z)) ?_, rfl⟩
            have gm : g * p = p ∨ g * p = -p := by rcases hs.2 with e | e <;> rw [e] <;> omega
            rw [iJ_int (by omega) (by omega)] at c3
            rw [iJ_int (by omega) (by omega)] at c4
            obtain rfl : k = e := by omega
            rw [smW_far hR.1 (by omega)]; rfl
      · have c2 : k < e := c2
        refine wn_ld (pc' := 19) (q := 0) (kin := 2) (v := .ref (52)) rfl (fun _ _ _ => rfl) rfl rfl ?_
        refine wn_get (pc' := 22) (v := .ref (ls)) rfl rfl v3 rfl ?_
        refine wn_get (pc' := 25) (v := .ref (ls + 9)) rfl rfl l0 rfl ?_
        refine wn_get (pc' := 28) (v := .ref (ls + 9 + 8)) rfl rfl k1 rfl ?_
        refine wn_ld (pc' := 30) (q := 10) (kin := 0) (v := .int (nI (k))) rfl (fun _ _ _ => rfl) rfl rfl ?_
        refine wn_ialdv (pc' := 31) (j := k) (v := (jC w k)) rfl rfl k9 rfl (by omega) (by decide) ((k13 k (by omega)).1) ?_
        refine wn_st (pc' := 33) (q := 11) (kin := 0) (lv' := [(0, .ref (52)), (1, .int (nI (b))), (2, .int (nI (e))), (3, .int (nI (y))), (4, .int (nI (v))), (5, .long (iJ t)), (7, .long (iJ p)), (9, .int (sg)), (10, .int (nI (k))), (11, .int (jC w k))]) rfl (fun _ _ _ => rfl) rfl (Nat.le_of_ble_eq_true rfl) rfl ?_
        refine wn_ld (pc' := 34) (q := 0) (kin := 2) (v := .ref (52)) rfl (fun _ _ _ => rfl) rfl rfl ?_
        refine wn_ld (pc' := 36) (q := 10) (kin := 0) (v := .int (nI (k))) rfl (fun _ _ _ => rfl) rfl rfl ?_
        refine wn_ld (pc' := 37) (q := 3) (kin := 0) (v := .int (nI (y))) rfl (fun _ _ _ => rfl) rfl rfl ?_
        refine wn_ld (pc' := 39) (q := 4) (kin := 0) (v := .int (nI (v))) rfl (fun _ _ _ => rfl) rfl rfl ?_
        have pt9 := ptW_le hWf (S := S) (y := y) (i := i) (show v < nvW w by omega) (by omega) (show k < npW w by omega)
        refine wn_virL (pc' := 42) rfl rfl (by decide) rfl rfl v3 (Nat.le_of_ble_eq_true rfl) (x_valueOf _ _ ls w hWf V S y v i (by omega) (by omega) NB k (by omega)) ?_
        rw [lN_iJ]
        refine wn_st (pc' := 44) (q := 12) (kin := 1) (lv' := [(0, .ref (52)), (1, .int (nI (b))), (2, .int (nI (e))), (3, .int (nI (y))), (4, .int (nI (v))), (5, .long (iJ t)), (7, .long (iJ p)), (9, .int (sg)), (10, .int (nI (k))), (11, .int (jC w k)), (12, .long (iJ (ptW w S y v i k : Int)))]) rfl (fun _ _ _ => rfl) rfl (Nat.le_of_ble_eq_true rfl) rfl ?_
        refine wn_ld (pc' := 46) (q := 11) (kin := 0) (v := .int (jC w k)) rfl (fun _ _ _ => rfl) rfl rfl ?_
        refine wn_ic (pc' := 47) (w := nI 3) rfl rfl (by decide) ?_
        refine wn_icmp (t := 60) (f := 50) rfl rfl rfl (fun c5 => ?_) (fun c5 => ?_)
        · have c5 : ¬ ((jC w k)) = ((nI (3))) := c5
          refine wn_ld (pc' := 62) (q := 5) (kin := 1) (v := .long (iJ t)) rfl (fun _ _ _ => rfl) rfl rfl ?_
          refine wn_ld (pc' := 64) (q := 9) (kin := 0) (v := .int (sg)) rfl (fun _ _ _ => rfl) rfl rfl ?_
          refine wn_pu (pc' := 65) (st' := [.long (Int32.toInt64 (sg)), .long (iJ t)]) rfl (fun _ _ _ => rfl) rfl rfl ?_
          rw [hs.1]
          refine wn_ld (pc' := 67) (q := 7) (kin := 1) (v := .long (iJ p)) rfl (fun _ _ _ => rfl) rfl rfl ?_
          refine wn_lmulJ (pc' := 68) rfl rfl ?_
          refine wn_laddJ (pc' := 69) rfl rfl ?_
          refine wn_st (pc' := 71) (q := 5) (kin := 1) (lv' := [(0, .ref (52)), (1, .int (nI (b))), (2, .int (nI (e))), (3, .int (nI (y))), (4, .int (nI (v))), (5, .long (iJ (t + ((g * p))))), (7, .long (iJ p)), (9, .int (sg)), (10, .int (nI (k))), (11, .int (jC w k)), (12, .long (iJ (ptW w S y v i k : Int)))]) rfl (fun _ _ _ => rfl) rfl (Nat.le_of_ble_eq_true rfl) rfl ?_
          refine wn_ld (pc' := 73) (q := 11) (kin := 0) (v := .int (jC w k)) rfl (fun _ _ _ => rfl) rfl rfl ?_
          refine wn_ic (pc' := 74) (w := nI 2) rfl rfl (by decide) ?_
          refine wn_icmp (t := 81) (f := 77) rfl rfl rfl (fun c6 => ?_) (fun c6 => ?_)
          · have c6 : ¬ ((jC w k)) = ((nI (2))) := c6
            refine wn_ic (pc' := 82) (w := nI 1) rfl rfl (by decide) ?_
            refine wn_st (pc' := 84) (q := 9) (kin := 0) (lv' := [(0, .ref (52)), (1, .int (nI (b))), (2, .int (nI (e))), (3, .int (nI (y))), (4, .int (nI (v))), (5, .long (iJ (t + ((g * p))))), (7, .long (iJ p)), (9, .int (nI (1))), (10, .int (nI (k))), (11, .int (jC w k)), (12, .long (iJ (ptW w S y v i k : Int)))]) rfl (fun _ _ _ => rfl) rfl (Nat.le_of_ble_eq_true rfl) rfl ?_
            refine wn_ld (pc' := 86) (q := 12) (kin := 1) (v := .long (iJ (ptW w S y v i k : Int))) rfl (fun _ _ _ => rfl) rfl rfl ?_
            refine wn_st (pc' := 88) (q := 7) (kin := 1) (lv' := [(0, .ref (52)), (1, .int (nI (b))), (2, .int (nI (e))), (3, .int (nI (y))), (4, .int (nI (v))), (5, .long (iJ (t + ((g * p))))), (7, .long (iJ (ptW w S y v i k : Int))), (9, .int (nI (1))), (10, .int (nI (k))), (11, .int (jC w k)), (12, .long (iJ (ptW w S y v i k : Int)))]) rfl (fun _ _ _ => rfl) rfl (Nat.le_of_ble_eq_true rfl) rfl ?_
            refine wn_ld (pc' := 90) (q := 7) (kin := 1) (v := .long (iJ (ptW w S y v i k : Int))) rfl (fun _ _ _ => rfl) rfl rfl ?_
            refine wn_go (pc' := 93) (lv' := [(0, .ref (52)), (1, .int (nI (b))), (2, .int (nI (e))), (3, .int (nI (y))), (4, .int (nI (v))), (5, .long (iJ (t + ((g * p))))), (7, .long (iJ (ptW w S y v i k : Int))), (9, .int (nI (1))), (10, .int (nI (k))), (11, .int (jC w k)), (12, .long (iJ (ptW w S y v i k : Int)))]) (st' := [.long ((1000000000 : Int64)), .long (iJ (ptW w S y v i k : Int))]) rfl (fun _ _ _ k9 => k9) ?_
            refine wn_pu (pc' := 94) (st' := [.int (lg_cmp (iJ (ptW w S y v i k : Int)) ((1000000000 : Int64)))]) rfl (fun _ _ _ => rfl) rfl rfl ?_
            refine wn_lc (t := 115) (f := 97) rfl rfl rfl (fun c7 => ?_) (fun c7 => ?_)
            · have c7 : (iJ (ptW w S y v i k : Int)).toInt > ((1000000000 : Int64)).toInt := c7
              refine wn_go (pc' := 118) (lv' := [(0, .ref (52)), (1, .int (nI (b))), (2, .int (nI (e))), (3, .int (nI (y))), (4, .int (nI (v))), (5, .long (iJ (t + ((g * p))))), (7, .long (iJ (ptW w S y v i k : Int))), (9, .int (nI (1))), (10, .int (nI (k))), (11, .int (jC w k)), (12, .long (iJ (ptW w S y v i k : Int)))]) (st' := [.long ((9223372036854775807 : Int64))]) rfl (fun _ _ _ k9 => k9) ?_
              have m1 : (-1000000000 : Int64).toInt = -1000000000 := by decide
              have m2 : (1000000000 : Int64).toInt = 1000000000 := by decide
              refine wn_lret rfl rfl ⟨congrArg (fun z => some (Value.long z)) ?_, rfl⟩
              have gm : g * p = p ∨ g * p = -p := by rcases hs.2 with e | e <;> rw [e] <;> omega
              rw [iJ_int (by omega) (by omega)] at c7
              have q9 := rnW_s (jn := jC w) (vl := (ptW w S y v i)) (b := b) (k := k) (by omega)
              rw [hR.1] at q9
              have q9 := q9.trans (stp_x c5 (fun q => by unfold rgF at q; omega))
              rw [smW_none (rnW_none (by omega) (by omega) q9)]; rfl
            · have c7 : ¬ ((iJ (ptW w S y v i k : Int)).toInt > ((1000000000 : Int64)).toInt) := c7
              refine wn_ld (pc' := 99) (q := 5) (kin := 1) (v := .long (iJ (t + ((g * p))))) rfl (fun _ _ _ => rfl) rfl rfl ?_
              refine wn_go (pc' := 102) (lv' := [(0, .ref (52)), (1, .int (nI (b))), (2, .int (nI (e))), (3, .int (nI (y))), (4, .int (nI (v))), (5, .long (iJ (t + ((g * p))))), (7, .long (iJ (ptW w S y v i k : Int))), (9, .int (nI (1))), (10, .int (nI (k))), (11, .int (jC w k)), (12, .long (iJ (ptW w S y v i k : Int)))]) (st' := [.long ((1000000000 : Int64)), .long (iJ (t + ((g * p))))]) rfl (fun _ _ _ k9 => k9) ?_
              refine wn_pu (pc' := 103) (st' := [.int (lg_cmp (iJ (t + ((g * p)))) ((1000000000 : Int64)))]) rfl (fun _ _ _ => rfl) rfl rfl ?_
              refine wn_lc (t := 115) (f := 106) rfl rfl rfl (fun c8 => ?_) (fun c8 => ?_)
              · have c8 : (iJ (t + ((g * p)))).toInt > ((1000000000 : Int64)).toInt := c8
                refine wn_go (pc' := 118) (lv' := [(0, .ref (52)), (1, .int (nI (b))), (2, .int (nI (e))), (3, .int (nI (y))), (4, .int (nI (v))), (5, .long (iJ (t + ((g * p))))), (7, .long (iJ (ptW w S y v i k : Int))), (9, .int (nI (1))), (10, .int (nI (k))), (11, .int (jC w k)), (12, .long (iJ (ptW w S y v i k : Int)))]) (st' := [.long ((9223372036854775807 : Int64))]) rfl (fun _ _ _ k9 => k9) ?_
                have m1 : (-1000000000 : Int64).toInt = -1000000000 := by decide
                have m2 : (1000000000 : Int64).toInt = 1000000000 := by decide
                refine wn_lret rfl rfl ⟨congrArg (fun z => some (Value.long z)) ?_, rfl⟩
                have gm : g * p = p ∨ g * p = -p := by rcases hs.2 with e | e <;> rw [e] <;> omega
                rw [iJ_int (by omega) (by omega)] at c7
                rw [iJ_int (by omega) (by omega)] at c8
                have q9 := rnW_s (jn := jC w) (vl := (ptW w S y v i)) (b := b) (k := k) (by omega)
                rw [hR.1] at q9
                have q9 := q9.trans (stp_x c5 (fun q => by unfold rgF at q; omega))
                rw [smW_none (rnW_none (by omega) (by omega) q9)]; rfl
              · have c8 : ¬ ((iJ (t + ((g * p)))).toInt > ((1000000000 : Int64)).toInt) := c8
                refine wn_ld (pc' := 108) (q := 5) (kin := 1) (v := .long (iJ (t + ((g * p))))) rfl (fun _ _ _ => rfl) rfl rfl ?_
                refine wn_go (pc' := 111) (lv' := [(0, .ref (52)), (1, .int (nI (b))), (2, .int (nI (e))), (3, .int (nI (y))), (4, .int (nI (v))), (5, .long (iJ (t + ((g * p))))), (7, .long (iJ (ptW w S y v i k : Int))), (9, .int (nI (1))), (10, .int (nI (k))), (11, .int (jC w k)), (12, .long (iJ (ptW w S y v i k : Int)))]) (st' := [.long ((-1000000000 : Int64)), .long (iJ (t + ((g * p))))]) rfl (fun _ _ _ k9 => k9) ?_
                refine wn_pu (pc' := 112) (st' := [.int (lg_cmp (iJ (t + ((g * p)))) ((-1000000000 : Int64)))]) rfl (fun _ _ _ => rfl) rfl rfl ?_
                refine wn_lc (t := 119) (f := 115) rfl rfl rfl (fun c9 => ?_) (fun c9 => ?_)
                · have c9 : (iJ (t + ((g * p)))).toInt ≥ ((-1000000000 : Int64)).toInt := c9
                  refine wn_incN (n := 1) (pc' := 122) (lv' := [(0, .ref (52)), (1, .int (nI (b))), (2, .int (nI (e))), (3, .int (nI (y))), (4, .int (nI (v))), (5, .long (iJ (t + ((g * p))))), (7, .long (iJ (ptW w S y v i k : Int))), (9, .int (nI (1))), (10, .int (nI (k + 1))), (11, .int (jC w k)), (12, .long (iJ (ptW w S y v i k : Int)))]) rfl rfl rfl (Nat.le_of_ble_eq_true rfl) rfl (by decide) ?_
                  refine wn_jp (pc' := 12) rfl rfl ?_
                  have m1 : (-1000000000 : Int64).toInt = -1000000000 := by decide
                  have m2 : (1000000000 : Int64).toInt = 1000000000 := by decide
                  have gm : g * p = p ∨ g * p = -p := by rcases hs.2 with e | e <;> rw [e] <;> omega
                  rw [iJ_int (by omega) (by omega)] at c7
                  rw [iJ_int (by omega) (by omega)] at c8
                  rw [iJ_int (by omega) (by omega)] at c9
                  have q9 := rnW_s (jn := jC w) (vl := (ptW w S y v i)) (b := b) (k := k) (by omega)
                  rw [hR.1] at q9
                  have q9 := q9.trans (stp_n c5 ⟨by omega, by omega⟩)
                  rw [if_neg (show ¬ jC w k = 2 from c6)] at q9
                  refine wn_weak (lv' := [(0, .ref (52)), (1, .int (nI (b))), (2, .int (nI (e))), (3, .int (nI (y))), (4, .int (nI (v))), (5, .long (iJ (t + ((g * p))))), (7, .long (iJ (ptW w S y v i k : Int))), (9, .int (nI (1))), (10, .int (nI (k + 1)))]) (by simp) ?_
                  have z9 := ih_lp1 ((t + g * p)) 1 ((ptW w S y v i k : Int)) ((nI 1)) ((k + 1)) (by omega) (by omega) (by omega) ⟨by decide, by decide⟩ ⟨q9, by omega, by omega, by omega, by omega⟩
                  exact z9
                · have c9 : ¬ ((iJ (t + ((g * p)))).toInt ≥ ((-1000000000 : Int64)).toInt) := c9
                  refine wn_go (pc' := 118) (lv' := [(0, .ref (52)), (1, .int (nI (b))), (2, .int (nI (e))), (3, .int (nI (y))), (4, .int (nI (v))), (5, .long (iJ (t + ((g * p))))), (7, .long (iJ (ptW w S y v i k : Int))), (9, .int (nI (1))), (10, .int (nI (k))), (11, .int (jC w k)), (12, .long (iJ (ptW w S y v i k : Int)))]) (st' := [.long ((9223372036854775807 : Int64))]) rfl (fun _ _ _ k9 => k9) ?_
                  have m1 : (-1000000000 : Int64).toInt = -1000000000 := by decide
                  have m2 : (1000000000 : Int64).toInt = 1000000000 := by decide
                  refine wn_lret rfl rfl ⟨congrArg (fun z => some (Value.long z)) ?_, rfl⟩
                  have gm : g * p = p ∨ g * p = -p := by rcases hs.2 with e | e <;> rw [e] <;> omega
                  rw [iJ_int (by omega) (by omega)] at c7
                  rw [iJ_int (by omega) (by omega)] at c8
                  rw [iJ_int (by omega) (by omega)] at c9
                  have q9 := rnW_s (jn := jC w) (vl := (ptW w S y v i)) (b := b) (k := k) (by omega)
                  rw [hR.1] at q9
                  have q9 := q9.trans (stp_x c5 (fun q => by unfold rgF at q; omega))
                  rw [smW_none (rnW_none (by omega) (by omega) q9)]; rfl
          · have c6 : ((jC w k)) = ((nI (2))) := c6
            refine wn_ic (pc' := 78) (w := -1) rfl rfl (by decide) ?_
            refine wn_jp (pc' := 82) rfl rfl ?_
            refine wn_st (pc' := 84) (q := 9) (kin := 0) (lv' := [(0, .ref (52)), (1, .int (nI (b))), (2, .int (nI (e))), (3, .int (nI (y))), (4, .int (nI (v))), (5, .long (iJ (t + ((g * p))))), (7, .long (iJ p)), (9, .int (-1)), (10, .int (nI (k))), (11, .int (jC w k)), (12, .long (iJ (ptW w S y v i k : Int)))]) rfl (fun _ _ _ => rfl) rfl (Nat.le_of_ble_eq_true rfl) rfl ?_
            refine wn_ld (pc' := 86) (q := 12) (kin := 1) (v := .long (iJ (ptW w S y v i k : Int))) rfl (fun _ _ _ => rfl) rfl rfl ?_
            refine wn_st (pc' := 88) (q := 7) (kin := 1) (lv' := [(0, .ref (52)), (1, .int (nI (b))), (2, .int (nI (e))), (3, .int (nI (y))), (4, .int (nI (v))), (5, .long (iJ (t + ((g * p))))), (7, .long (iJ (ptW w S y v i k : Int))), (9, .int (-1)), (10, .int (nI (k))), (11, .int (jC w k)), (12, .long (iJ (ptW w S y v i k : Int)))]) rfl (fun _ _ _ => rfl) rfl (Nat.le_of_ble_eq_true rfl) rfl ?_
            refine wn_ld (pc' := 90) (q := 7) (kin := 1) (v := .long (iJ (ptW w S y v i k : Int))) rfl (fun _ _ _ => rfl) rfl rfl ?_
            refine wn_go (pc' := 93) (lv' := [(0, .ref (52)), (1, .int (nI (b))), (2, .int (nI (e))), (3, .int (nI (y))), (4, .int (nI (v))), (5, .long (iJ (t + ((g * p))))), (7, .long (iJ (ptW w S y v i k : Int))), (9, .int (-1)), (10, .int (nI (k))), (11, .int (jC w k)), (12, .long (iJ (ptW w S y v i k : Int)))]) (st' := [.long ((1000000000 : Int64)), .long (iJ (ptW w S y v i k : Int))]) rfl (fun _ _ _ k9 => k9) ?_
            refine wn_pu (pc' := 94) (st' := [.int (lg_cmp (iJ (ptW w S y v i k : Int)) ((1000000000 : Int64)))]) rfl (fun _ _ _ => rfl) rfl rfl ?_
            refine wn_lc (t := 115) (f := 97) rfl rfl rfl (fun c10 => ?_) (fun c10 => ?_)
            · have c10 : (iJ (ptW w S y v i k : Int)).toInt > ((1000000000 : Int64)).toInt := c10
              refine wn_go (pc' := 118) (lv' := [(0, .ref (52)), (1, .int (nI (b))), (2, .int (nI (e))), (3, .int (nI (y))), (4, .int (nI (v))), (5, .long (iJ (t + ((g * p))))), (7, .long (iJ (ptW w S y v i k : Int))), (9, .int (-1)), (10, .int (nI (k))), (11, .int (jC w k)), (12, .long (iJ (ptW w S y v i k : Int)))]) (st' := [.long ((9223372036854775807 : Int64))]) rfl (fun _ _ _ k9 => k9) ?_
              have m1 : (-1000000000 : Int64).toInt = -1000000000 := by decide
              have m2 : (1000000000 : Int64).toInt = 1000000000 := by decide
              refine wn_lret rfl rfl ⟨congrArg (fun z => some (Value.long z)) ?_, rfl⟩
              have gm : g * p = p ∨ g * p = -p := by rcases hs.2 with e | e <;> rw [e] <;> omega
              rw [iJ_int (by omega) (by omega)] at c10
              have q9 := rnW_s (jn := jC w) (vl := (ptW w S y v i)) (b := b) (k := k) (by omega)
              rw [hR.1] at q9
              have q9 := q9.trans (stp_x c5 (fun q => by unfold rgF at q; omega))
              rw [smW_none (rnW_none (by omega) (by omega) q9)]; rfl
            · have c10 : ¬ ((iJ (ptW w S y v i k : Int)).toInt > ((1000000000 : Int64)).toInt) := c10
              refine wn_ld (pc' := 99) (q := 5) (kin := 1) (v := .long (iJ (t + ((g * p))))) rfl (fun _ _ _ => rfl) rfl rfl ?_
              refine wn_go (pc' := 102) (lv' := [(0, .ref (52)), (1, .int (nI (b))), (2, .int (nI (e))), (3, .int (nI (y))), (4, .int (nI (v))), (5, .long (iJ (t + ((g * p))))), (7, .long (iJ (ptW w S y v i k : Int))), (9, .int (-1)), (10, .int (nI (k))), (11, .int (jC w k)), (12, .long (iJ (ptW w S y v i k : Int)))]) (st' := [.long ((1000000000 : Int64)), .long (iJ (t + ((g * p))))]) rfl (fun _ _ _ k9 => k9) ?_
              refine wn_pu (pc' := 103) (st' := [.int (lg_cmp (iJ (t + ((g * p)))) ((1000000000 : Int64)))]) rfl (fun _ _ _ => rfl) rfl rfl ?_
              refine wn_lc (t := 115) (f := 106) rfl rfl rfl (fun c11 => ?_) (fun c11 => ?_)
              · have c11 : (iJ (t + ((g * p)))).toInt > ((1000000000 : Int64)).toInt := c11
                refine wn_go (pc' := 118) (lv' := [(0, .ref (52)), (1, .int (nI (b))), (2, .int (nI (e))), (3, .int (nI (y))), (4, .int (nI (v))), (5, .long (iJ (t + ((g * p))))), (7, .long (iJ (ptW w S y v i k : Int))), (9, .int (-1)), (10, .int (nI (k))), (11, .int (jC w k)), (12, .long (iJ (ptW w S y v i k : Int)))]) (st' := [.long ((9223372036854775807 : Int64))]) rfl (fun _ _ _ k9 => k9) ?_
                have m1 : (-1000000000 : Int64).toInt = -1000000000 := by decide
                have m2 : (1000000000 : Int64).toInt = 1000000000 := by decide
                refine wn_lret rfl rfl ⟨congrArg (fun z => some (Value.long z)) ?_, rfl⟩
                have gm : g * p = p ∨ g * p = -p := by rcases hs.2 with e | e <;> rw [e] <;> omega
                rw [iJ_int (by omega) (by omega)] at c10
                rw [iJ_int (by omega) (by omega)] at c11
                have q9 := rnW_s (jn := jC w) (vl := (ptW w S y v i)) (b := b) (k := k) (by omega)
                rw [hR.1] at q9
                have q9 := q9.trans (stp_x c5 (fun q => by unfold rgF at q; omega))
                rw [smW_none (rnW_none (by omega) (by omega) q9)]; rfl
              · have c11 : ¬ ((iJ (t + ((g * p)))).toInt > ((1000000000 : Int64)).toInt) := c11
                refine wn_ld (pc' := 108) (q := 5) (kin := 1) (v := .long (iJ (t + ((g * p))))) rfl (fun _ _ _ => rfl) rfl rfl ?_
                refine wn_go (pc' := 111) (lv' := [(0, .ref (52)), (1, .int (nI (b))), (2, .int (nI (e))), (3, .int (nI (y))), (4, .int (nI (v))), (5, .long (iJ (t + ((g * p))))), (7, .long (iJ (ptW w S y v i k : Int))), (9, .int (-1)), (10, .int (nI (k))), (11, .int (jC w k)), (12, .long (iJ (ptW w S y v i k : Int)))]) (st' := [.long ((-1000000000 : Int64)), .long (iJ (t + ((g * p))))]) rfl (fun _ _ _ k9 => k9) ?_
                refine wn_pu (pc' := 112) (st' := [.int (lg_cmp (iJ (t + ((g * p)))) ((-1000000000 : Int64)))]) rfl (fun _ _ _ => rfl) rfl rfl ?_
                refine wn_lc (t := 119) (f := 115) rfl rfl rfl (fun c12 => ?_) (fun c12 => ?_)
                · have c12 : (iJ (t + ((g * p)))).toInt ≥ ((-1000000000 : Int64)).toInt := c12
                  refine wn_incN (n := 1) (pc' := 122) (lv' := [(0, .ref (52)), (1, .int (nI (b))), (2, .int (nI (e))), (3, .int (nI (y))), (4, .int (nI (v))), (5, .long (iJ (t + ((g * p))))), (7, .long (iJ (ptW w S y v i k : Int))), (9, .int (-1)), (10, .int (nI (k + 1))), (11, .int (jC w k)), (12, .long (iJ (ptW w S y v i k : Int)))]) rfl rfl rfl (Nat.le_of_ble_eq_true rfl) rfl (by decide) ?_
                  refine wn_jp (pc' := 12) rfl rfl ?_
                  have m1 : (-1000000000 : Int64).toInt = -1000000000 := by decide
                  have m2 : (1000000000 : Int64).toInt = 1000000000 := by decide
                  have gm : g * p = p ∨ g * p = -p := by rcases hs.2 with e | e <;> rw [e] <;> omega
                  rw [iJ_int (by omega) (by omega)] at c10
                  rw [iJ_int (by omega) (by omega)] at c11
                  rw [iJ_int (by omega) (by omega)] at c12
                  have q9 := rnW_s (jn := jC w) (vl := (ptW w S y v i)) (b := b) (k := k) (by omega)
                  rw [hR.1] at q9
                  have q9 := q9.trans (stp_n c5 ⟨by omega, by omega⟩)
                  rw [if_pos (show jC w k = 2 from c6)] at q9
                  refine wn_weak (lv' := [(0, .ref (52)), (1, .int (nI (b))), (2, .int (nI (e))), (3, .int (nI (y))), (4, .int (nI (v))), (5, .long (iJ (t + ((g * p))))), (7, .long (iJ (ptW w S y v i k : Int))), (9, .int (-1)), (10, .int (nI (k + 1)))]) (by simp) ?_
                  have z9 := ih_lp1 ((t + g * p)) ((-1)) ((ptW w S y v i k : Int)) ((-1)) ((k + 1)) (by omega) (by omega) (by omega) ⟨by decide, by decide⟩ ⟨q9, by omega, by omega, by omega, by omega⟩
                  exact z9
                · have c12 : ¬ ((iJ (t + ((g * p)))).toInt ≥ ((-1000000000 : Int64)).toInt) := c12
                  refine wn_go (pc' := 118) (lv' := [(0, .ref (52)), (1, .int (nI (b))), (2, .int (nI (e))), (3, .int (nI (y))), (4, .int (nI (v))), (5, .long (iJ (t + ((g * p))))), (7, .long (iJ (ptW w S y v i k : Int))), (9, .int (-1)), (10, .int (nI (k))), (11, .int (jC w k)), (12, .long (iJ (ptW w S y v i k : Int)))]) (st' := [.long ((9223372036854775807 : Int64))]) rfl (fun _ _ _ k9 => k9) ?_
                  have m1 : (-1000000000 : Int64).toInt = -1000000000 := by decide
                  have m2 : (1000000000 : Int64).toInt = 1000000000 := by decide
                  refine wn_lret rfl rfl ⟨congrArg (fun z => some (Value.long z)) ?_, rfl⟩
                  have gm : g * p = p ∨ g * p = -p := by rcases hs.2 with e | e <;> rw [e] <;> omega
                  rw [iJ_int (by omega) (by omega)] at c10
                  rw [iJ_int (by omega) (by omega)] at c11
                  rw [iJ_int (by omega) (by omega)] at c12
                  have q9 := rnW_s (jn := jC w) (vl := (ptW w S y v i)) (b := b) (k := k) (by omega)
                  rw [hR.1] at q9
                  have q9 := q9.trans (stp_x c5 (fun q => by unfold rgF at q; omega))
                  rw [smW_none (rnW_none (by omega) (by omega) q9)]; rfl
        · have c5 : ((jC w k)) = ((nI (3))) := c5
          refine wn_ld (pc' := 52) (q := 7) (kin := 1) (v := .long (iJ p)) rfl (fun _ _ _ => rfl) rfl rfl ?_
          refine wn_ld (pc' := 54) (q := 12) (kin := 1) (v := .long (iJ (ptW w S y v i k : Int))) rfl (fun _ _ _ => rfl) rfl rfl ?_
          refine wn_lmulJ (pc' := 55) rfl rfl ?_
          refine wn_st (pc' := 57) (q := 7) (kin := 1) (lv' := [(0, .ref (52)), (1, .int (nI (b))), (2, .int (nI (e))), (3, .int (nI (y))), (4, .int (nI (v))), (5, .long (iJ t)), (7, .long (iJ (p * ((ptW w S y v i k : Int))))), (9, .int (sg)), (10, .int (nI (k))), (11, .int (jC w k)), (12, .long (iJ (ptW w S y v i k : Int)))]) rfl (fun _ _ _ => rfl) rfl (Nat.le_of_ble_eq_true rfl) rfl ?_
          refine wn_jp (pc' := 88) rfl rfl ?_
          refine wn_ld (pc' := 90) (q := 7) (kin := 1) (v := .long (iJ (p * ((ptW w S y v i k : Int))))) rfl (fun _ _ _ => rfl) rfl rfl ?_
          refine wn_go (pc' := 93) (lv' := [(0, .ref (52)), (1, .int (nI (b))), (2, .int (nI (e))), (3, .int (nI (y))), (4, .int (nI (v))), (5, .long (iJ t)), (7, .long (iJ (p * ((ptW w S y v i k : Int))))), (9, .int (sg)), (10, .int (nI (k))), (11, .int (jC w k)), (12, .long (iJ (ptW w S y v i k : Int)))]) (st' := [.long ((1000000000 : Int64)), .long (iJ (p * ((ptW w S y v i k : Int))))]) rfl (fun _ _ _ k9 => k9) ?_
          refine wn_pu (pc' := 94) (st' := [.int (lg_cmp (iJ (p * ((ptW w S y v i k : Int)))) ((1000000000 : Int64)))]) rfl (fun _ _ _ => rfl) rfl rfl ?_
          refine wn_lc (t := 115) (f := 97) rfl rfl rfl (fun c13 => ?_) (fun c13 => ?_)
          · have c13 : (iJ (p * ((ptW w S y v i k : Int)))).toInt > ((1000000000 : Int64)).toInt := c13
            refine wn_go (pc' := 118) (lv' := [(0, .ref (52)), (1, .int (nI (b))), (2, .int (nI (e))), (3, .int (nI (y))), (4, .int (nI (v))), (5, .long (iJ t)), (7, .long (iJ (p * ((ptW w S y v i k : Int))))), (9, .int (sg)), (10, .int (nI (k))), (11, .int (jC w k)), (12, .long (iJ (ptW w S y v i k : Int)))]) (st' := [.long ((9223372036854775807 : Int64))]) rfl (fun _ _ _ k9 => k9) ?_
            have m1 : (-1000000000 : Int64).toInt = -1000000000 := by decide
            have m2 : (1000000000 : Int64).toInt = 1000000000 := by decide
            refine wn_lret rfl rfl ⟨congrArg (fun z => some (Value.long z)) ?_, rfl⟩
            have i5 : p * (ptW w S y v i k : Int) ≤ 1000000000 * 4000 := Int.mul_le_mul hR.2.2.2.2 (by omega) (by omega) (by omega)
            have i6 : 0 ≤ p * (ptW w S y v i k : Int) := Int.mul_nonneg hR.2.2.2.1 (by omega)
            rw [iJ_int (by omega) (by omega)] at c13
            have q9 := rnW_s (jn := jC w) (vl := (ptW w S y v i)) (b := b) (k := k) (by omega)
            rw [hR.1] at q9
            have q9 := q9.trans (stp_y c5 (by omega))
            rw [smW_none (rnW_none (by omega) (by omega) q9)]; rfl
          · have c13 : ¬ ((iJ (p * ((ptW w S y v i k : Int)))).toInt > ((1000000000 : Int64)).toInt) := c13
            refine wn_ld (pc' := 99) (q := 5) (kin := 1) (v := .long (iJ t)) rfl (fun _ _ _ => rfl) rfl rfl ?_
            refine wn_go (pc' := 102) (lv' := [(0, .ref (52)), (1, .int (nI (b))), (2, .int (nI (e))), (3, .int (nI (y))), (4, .int (nI (v))), (5, .long (iJ t)), (7, .long (iJ (p * ((ptW w S y v i k : Int))))), (9, .int (sg)), (10, .int (nI (k))), (11, .int (jC w k)), (12, .long (iJ (ptW w S y v i k : Int)))]) (st' := [.long ((1000000000 : Int64)), .long (iJ t)]) rfl (fun _ _ _ k9 => k9) ?_
            refine wn_pu (pc' := 103) (st' := [.int (lg_cmp (iJ t) ((1000000000 : Int64)))]) rfl (fun _ _ _ => rfl) rfl rfl ?_
            refine wn_lc (t := 115) (f := 106) rfl rfl rfl (fun c14 => ?_) (fun c14 => ?_)
            · have c14 : (iJ t).toInt > ((1000000000 : Int64)).toInt := c14
              refine wn_go (pc' := 118) (lv' := [(0, .ref (52)), (1, .int (nI (b))), (2, .int (nI (e))), (3, .int (nI (y))), (4, .int (nI (v))), (5, .long (iJ t)), (7, .long (iJ (p * ((ptW w S y v i k : Int))))), (9, .int (sg)), (10, .int (nI (k))), (11, .int (jC w k)), (12, .long (iJ (ptW w S y v i k : Int)))]) (st' := [.long ((9223372036854775807 : Int64))]) rfl (fun _ _ _ k9 => k9) ?_
              have m1 : (-1000000000 : Int64).toInt = -1000000000 := by decide
              have m2 : (1000000000 : Int64).toInt = 1000000000 := by decide
              refine wn_lret rfl rfl ⟨congrArg (fun z => some (Value.long z)) ?_, rfl⟩
              have i5 : p * (ptW w S y v i k : Int) ≤ 1000000000 * 4000 := Int.mul_le_mul hR.2.2.2.2 (by omega) (by omega) (by omega)
              have i6 : 0 ≤ p * (ptW w S y v i k : Int) := Int.mul_nonneg hR.2.2.2.1 (by omega)
              rw [iJ_int (by omega) (by omega)] at c13
              rw [iJ_int (by omega) (by omega)] at c14
              have q9 := rnW_s (jn := jC w) (vl := (ptW w S y v i)) (b := b) (k := k) (by omega)
              rw [hR.1] at q9
              have q9 := q9.trans (stp_y c5 (by omega))
              rw [smW_none (rnW_none (by omega) (by omega) q9)]; rfl
            · have c14 : ¬ ((iJ t).toInt > ((1000000000 : Int64)).toInt) := c14
              refine wn_ld (pc' := 108) (q := 5) (kin := 1) (v := .long (iJ t)) rfl (fun _ _ _ => rfl) rfl rfl ?_
              refine wn_go (pc' := 111) (lv' := [(0, .ref (52)), (1, .int (nI (b))), (2, .int (nI (e))), (3, .int (nI (y))), (4, .int (nI (v))), (5, .long (iJ t)), (7, .long (iJ (p * ((ptW w S y v i k : Int))))), (9, .int (sg)), (10, .int (nI (k))), (11, .int (jC w k)), (12, .long (iJ (ptW w S y v i k : Int)))]) (st' := [.long ((-1000000000 : Int64)), .long (iJ t)]) rfl (fun _ _ _ k9 => k9) ?_
              refine wn_pu (pc' := 112) (st' := [.int (lg_cmp (iJ t) ((-1000000000 : Int64)))]) rfl (fun _ _ _ => rfl) rfl rfl ?_
              refine wn_lc (t := 119) (f := 115) rfl rfl rfl (fun c15 => ?_) (fun c15 => ?_)
              · have c15 : (iJ t).toInt ≥ ((-1000000000 : Int64)).toInt := c15
                refine wn_incN (n := 1) (pc' := 122) (lv' := [(0, .ref (52)), (1, .int (nI (b))), (2, .int (nI (e))), (3, .int (nI (y))), (4, .int (nI (v))), (5, .long (iJ t)), (7, .long (iJ (p * ((ptW w S y v i k : Int))))), (9, .int (sg)), (10, .int (nI (k + 1))), (11, .int (jC w k)), (12, .long (iJ (ptW w S y v i k : Int)))]) rfl rfl rfl (Nat.le_of_ble_eq_true rfl) rfl (by decide) ?_
                refine wn_jp (pc' := 12) rfl rfl ?_
                have m1 : (-1000000000 : Int64).toInt = -1000000000 := by decide
                have m2 : (1000000000 : Int64).toInt = 1000000000 := by decide
                have i5 : p * (ptW w S y v i k : Int) ≤ 1000000000 * 4000 := Int.mul_le_mul hR.2.2.2.2 (by omega) (by omega) (by omega)
                have i6 : 0 ≤ p * (ptW w S y v i k : Int) := Int.mul_nonneg hR.2.2.2.1 (by omega)
                rw [iJ_int (by omega) (by omega)] at c13
                rw [iJ_int (by omega) (by omega)] at c14
                rw [iJ_int (by omega) (by omega)] at c15
                have q9 := rnW_s (jn := jC w) (vl := (ptW w S y v i)) (b := b) (k := k) (by omega)
                rw [hR.1] at q9
                have q9 := q9.trans (stp_t c5 (by omega))
                refine wn_weak (lv' := [(0, .ref (52)), (1, .int (nI (b))), (2, .int (nI (e))), (3, .int (nI (y))), (4, .int (nI (v))), (5, .long (iJ t)), (7, .long (iJ (p * ((ptW w S y v i k : Int))))), (9, .int (sg)), (10, .int (nI (k + 1)))]) (by simp) ?_
                have z9 := ih_lp1 t g (p * (ptW w S y v i k : Int)) sg ((k + 1)) (by omega) (by omega) (by omega) hs ⟨q9, by omega, by omega, by omega, by omega⟩
                exact z9
              · have c15 : ¬ ((iJ t).toInt ≥ ((-1000000000 : Int64)).toInt) := c15
                refine wn_go (pc' := 118) (lv' := [(0, .ref (52)), (1, .int (nI (b))), (2, .int (nI (e))), (3, .int (nI (y))), (4, .int (nI (v))), (5, .long (iJ t)), (7, .long (iJ (p * ((ptW w S y v i k : Int))))), (9, .int (sg)), (10, .int (nI (k))), (11, .int (jC w k)), (12, .long (iJ (ptW w S y v i k : Int)))]) (st' := [.long ((9223372036854775807 : Int64))]) rfl (fun _ _ _ k9 => k9) ?_
                have m1 : (-1000000000 : Int64).toInt = -1000000000 := by decide
                have m2 : (1000000000 : Int64).toInt = 1000000000 := by decide
                refine wn_lret rfl rfl ⟨congrArg (fun z => some (Value.long z)) ?_, rfl⟩
                have i5 : p * (ptW w S y v i k : Int) ≤ 1000000000 * 4000 := Int.mul_le_mul hR.2.2.2.2 (by omega) (by omega) (by omega)
                have i6 : 0 ≤ p * (ptW w S y v i k : Int) := Int.mul_nonneg hR.2.2.2.1 (by omega)
                rw [iJ_int (by omega) (by omega)] at c13
                rw [iJ_int (by omega) (by omega)] at c14
                rw [iJ_int (by omega) (by omega)] at c15
                have q9 := rnW_s (jn := jC w) (vl := (ptW w S y v i)) (b := b) (k := k) (by omega)
                rw [hR.1] at q9
                have q9 := q9.trans (stp_y c5 (by omega))
                rw [smW_none (rnW_none (by omega) (by omega) q9)]; rfl
  refine wn_weak (lv' := [(0, .ref (52)), (1, .int (nI (b))), (2, .int (nI (e))), (3, .int (nI (y))), (4, .int (nI (v))), (5, .long (iJ 0)), (7, .long (iJ 0)), (9, .int (nI (1))), (10, .int (nI (b)))]) (by simp) ?_
  have z9 := lp1 (e + 1) 0 1 0 (nI 1) b (by omega) (by omega) (by omega) ⟨by decide, by decide⟩ ⟨rnW_0 _ _ _, by decide, by decide, by decide, by decide⟩
  exact z9

theorem lsw_df {x : Int32} {a : Nat} (ha : a < 3) (e : x = nI a) (h0 : ¬ x = nI 0) (h1 : ¬ x = nI 1) : Op.lookupswitch.offset [(0, 28), (1, 42)] 56 x.toInt = 56 := by
  rcases (show a = 0 ∨ a = 1 ∨ a = 2 by omega) with rfl | rfl | rfl
  · exact absurd e h0
  · exact absurd e h1
  · rw [e]; decide
theorem x_isHolding (d : Nat) (h : aH) (ls : Nat) (w : Nat → Int32) (hWf : WfW w) (V : XV h ls w) (S : Nat → Nat → Nat) (y v i : Nat) (hy : y ≤ 60) (hv9 : v < nvW w) (NB : NbY h w S i) (l : Nat) (hl : l < nlW w) : Rn (d + 3) 57 [.ref (52), .int (nI (l)), .int (nI (y)), .int (nI (v))] h (some (.int (bI (hoW w S y v i l)))) h 0 0 := by
  obtain ⟨⟨e1, e2⟩, ⟨e3, e4⟩, ⟨e5, e6⟩⟩ := Wf_n hWf
  obtain ⟨⟨e7, e8⟩, ⟨e9, e10⟩⟩ := Wf_m hWf
  obtain ⟨v0, ⟨x9, v1⟩, ⟨v2, ⟨sz, rf, rt, rv, ag, vr, sd, tl, l0, l1, l2, l3, l4, l5, l6, l7, l8, g1, g2, g3, g4, g5⟩, ⟨sec, it, fi, se, sg, lst, rs, rp, pj, pk, pv, k0, k1, k2, k3, k4, k5, k6, k7, k8, k9, k10, k11, k12, k13⟩, ⟨hv, hc, y0, y1, y2, y3, y4⟩, ⟨an, wk, n0, n1, n2, n3, n4⟩⟩, v3⟩ := id V
  rw [e1, e3, e5] at l0
  rw [e7, e9] at k1
  obtain ⟨⟨a1, a1b⟩, a2, a3, ⟨a4, ha4, ea4⟩, a5, a6, a7, a8, a9, a10, a11, a12⟩ := k0 l hl
  have hHo : hoW w S y v i l = HoI (jC w) (ptW w S y v i) (lwB w l) (sec l) (lwE w l) (w (459 + 6 * l)) := by unfold hoW HoI; rw [secW_eq k0 hl, jC_s (by omega), jC_s (by omega)]
  have hX1 := sX_m (o := smW (jC w) (ptW w S y v i) (lwB w l) (sec l)) (fun x q => smW_rg q)
  have hX2 := sX_m (o := smW (jC w) (ptW w S y v i) (sec l) (lwE w l)) (fun x q => smW_rg q)
  refine Rn_of (by decide) (Nat.le_of_ble_eq_true rfl) ?_
  show Wn _ _ 0 [(0, .ref (52)), (1, .int (nI (l))), (2, .int (nI (y))), (3, .int (nI (v)))] [] _ _
  refine wn_ld (pc' := 1) (q := 0) (kin := 2) (v := .ref (52)) rfl (fun _ _ _ => rfl) rfl rfl ?_
  refine wn_get (pc' := 4) (v := .ref (ls)) rfl rfl v3 rfl ?_
  refine wn_get (pc' := 7) (v := .ref (ls + 9)) rfl rfl l0 rfl ?_
  refine wn_st (pc' := 9) (q := 4) (kin := 2) (lv' := [(0, .ref (52)), (1, .int (nI (l))), (2, .int (nI (y))), (3, .int (nI (v))), (4, .ref (ls + 9))]) rfl (fun _ _ _ => rfl) rfl (Nat.le_of_ble_eq_true rfl) rfl ?_
  refine wn_ld (pc' := 10) (q := 0) (kin := 2) (v := .ref (52)) rfl (fun _ _ _ => rfl) rfl rfl ?_
  refine wn_ld (pc' := 12) (q := 4) (kin := 2) (v := .ref (ls + 9)) rfl (fun _ _ _ => rfl) rfl rfl ?_
  refine wn_get (pc' := 15) (v := .ref (ls + 9 + 5)) rfl rfl k1 rfl ?_
  refine wn_ld (pc' := 16) (q := 1) (kin := 0) (v := .int (nI (l))) rfl (fun _ _ _ => rfl) rfl rfl ?_
  refine wn_ialdv (pc' := 17) (j := l) (v := (nI (lwB w l))) rfl rfl k6 rfl (by omega) (by decide) ((k12 l (by omega)).2.2.2.2.1) ?_
  refine wn_ld (pc' := 19) (q := 4) (kin := 2) (v := .ref (ls + 9)) rfl (fun _ _ _ => rfl) rfl rfl ?_
  refine wn_get (pc' := 22) (v := .ref (ls + 9 + 6)) rfl rfl k1 rfl ?_
  refine wn_ld (pc' := 23) (q := 1) (kin := 0) (v := .int (nI (l))) rfl (fun _ _ _ => rfl) rfl rfl ?_
  refine wn_ialdv (pc' := 24) (j := l) (v := (nI (sec l))) rfl rfl k7 rfl (by omega) (by decide) ((k12 l (by omega)).2.2.2.2.2.1) ?_
  refine wn_ld (pc' := 25) (q := 2) (kin := 0) (v := .int (nI (y))) rfl (fun _ _ _ => rfl) rfl rfl ?_
  refine wn_ld (pc' := 26) (q := 3) (kin := 0) (v := .int (nI (v))) rfl (fun _ _ _ => rfl) rfl rfl ?_
  refine wn_virL (pc' := 29) rfl rfl (by decide) rfl rfl v3 (Nat.le_of_ble_eq_true rfl) (x_workOut _ _ ls w hWf V S y v i (by omega) (by omega) NB (lwB w l) (sec l) (by omega) (by omega)) ?_
  refine wn_st (pc' := 31) (q := 5) (kin := 1) (lv' := [(0, .ref (52)), (1, .int (nI (l))), (2, .int (nI (y))), (3, .int (nI (v))), (4, .ref (ls + 9)), (5, .long (sX (smW (jC w) (ptW w S y v i) (lwB w l) (sec l))))]) rfl (fun _ _ _ => rfl) rfl (Nat.le_of_ble_eq_true rfl) rfl ?_
  refine wn_ld (pc' := 32) (q := 0) (kin := 2) (v := .ref (52)) rfl (fun _ _ _ => rfl) rfl rfl ?_
  refine wn_ld (pc' := 34) (q := 4) (kin := 2) (v := .ref (ls + 9)) rfl (fun _ _ _ => rfl) rfl rfl ?_
  refine wn_get (pc' := 37) (v := .ref (ls + 9 + 6)) rfl rfl k1 rfl ?_
  refine wn_ld (pc' := 38) (q := 1) (kin := 0) (v := .int (nI (l))) rfl (fun _ _ _ => rfl) rfl rfl ?_
  refine wn_ialdv (pc' := 39) (j := l) (v := (nI (sec l))) rfl rfl k7 rfl (by omega) (by decide) ((k12 l (by omega)).2.2.2.2.2.1) ?_
  refine wn_ld (pc' := 41) (q := 4) (kin := 2) (v := .ref (ls + 9)) rfl (fun _ _ _ => rfl) rfl rfl ?_
  refine wn_get (pc' := 44) (v := .ref (ls + 9 + 7)) rfl rfl k1 rfl ?_
  refine wn_ld (pc' := 45) (q := 1) (kin := 0) (v := .int (nI (l))) rfl (fun _ _ _ => rfl) rfl rfl ?_
  refine wn_ialdv (pc' := 46) (j := l) (v := (nI (lwE w l))) rfl rfl k8 rfl (by omega) (by decide) ((k12 l (by omega)).2.2.2.2.2.2) ?_
  refine wn_ld (pc' := 47) (q := 2) (kin := 0) (v := .int (nI (y))) rfl (fun _ _ _ => rfl) rfl rfl ?_
  refine wn_ld (pc' := 48) (q := 3) (kin := 0) (v := .int (nI (v))) rfl (fun _ _ _ => rfl) rfl rfl ?_
  refine wn_virL (pc' := 51) rfl rfl (by decide) rfl rfl v3 (Nat.le_of_ble_eq_true rfl) (x_workOut _ _ ls w hWf V S y v i (by omega) (by omega) NB (sec l) (lwE w l) (by omega) (by omega)) ?_
  refine wn_st (pc' := 53) (q := 7) (kin := 1) (lv' := [(0, .ref (52)), (1, .int (nI (l))), (2, .int (nI (y))), (3, .int (nI (v))), (4, .ref (ls + 9)), (5, .long (sX (smW (jC w) (ptW w S y v i) (lwB w l) (sec l)))), (7, .long (sX (smW (jC w) (ptW w S y v i) (sec l) (lwE w l))))]) rfl (fun _ _ _ => rfl) rfl (Nat.le_of_ble_eq_true rfl) rfl ?_
  refine wn_ld (pc' := 55) (q := 5) (kin := 1) (v := .long (sX (smW (jC w) (ptW w S y v i) (lwB w l) (sec l)))) rfl (fun _ _ _ => rfl) rfl rfl ?_
  refine wn_go (pc' := 58) (lv' := [(0, .ref (52)), (1, .int (nI (l))), (2, .int (nI (y))), (3, .int (nI (v))), (4, .ref (ls + 9)), (5, .long (sX (smW (jC w) (ptW w S y v i) (lwB w l) (sec l)))), (7, .long (sX (smW (jC w) (ptW w S y v i) (sec l) (lwE w l))))]) (st' := [.long ((9223372036854775807 : Int64)), .long (sX (smW (jC w) (ptW w S y v i) (lwB w l) (sec l)))]) rfl (fun _ _ _ k9 => k9) ?_
  refine wn_pu (pc' := 59) (st' := [.int (lg_cmp (sX (smW (jC w) (ptW w S y v i) (lwB w l) (sec l))) ((9223372036854775807 : Int64)))]) rfl (fun _ _ _ => rfl) rfl rfl ?_
  refine wn_lc (t := 71) (f := 62) rfl rfl rfl (fun c1 => ?_) (fun c1 => ?_)
  · have c1 : (sX (smW (jC w) (ptW w S y v i) (lwB w l) (sec l))).toInt = ((9223372036854775807 : Int64)).toInt := c1
    refine wn_ic (pc' := 72) (w := nI 0) rfl rfl (by decide) ?_
    refine wn_iret rfl rfl (by decide) ⟨?_, rfl⟩
    rw [hHo]
    have mx : (9223372036854775807 : Int64).toInt = 9223372036854775807 := by decide
    refine congrArg (fun z => some (Value.int z)) ?_
    rw [mx] at c1
    exact bI_f0 (fun ⟨x, y9, q1, q2, q3⟩ => by rw [hX1.1.mp c1] at q1; cases q1)
  · have c1 : ¬ ((sX (smW (jC w) (ptW w S y v i) (lwB w l) (sec l))).toInt = ((9223372036854775807 : Int64)).toInt) := c1
    refine wn_ld (pc' := 64) (q := 7) (kin := 1) (v := .long (sX (smW (jC w) (ptW w S y v i) (sec l) (lwE w l)))) rfl (fun _ _ _ => rfl) rfl rfl ?_
    refine wn_go (pc' := 67) (lv' := [(0, .ref (52)), (1, .int (nI (l))), (2, .int (nI (y))), (3, .int (nI (v))), (4, .ref (ls + 9)), (5, .long (sX (smW (jC w) (ptW w S y v i) (lwB w l) (sec l)))), (7, .long (sX (smW (jC w) (ptW w S y v i) (sec l) (lwE w l))))]) (st' := [.long ((9223372036854775807 : Int64)), .long (sX (smW (jC w) (ptW w S y v i) (sec l) (lwE w l)))]) rfl (fun _ _ _ k9 => k9) ?_
    refine wn_pu (pc' := 68) (st' := [.int (lg_cmp (sX (smW (jC w) (ptW w S y v i) (sec l) (lwE w l))) ((9223372036854775807 : Int64)))]) rfl (fun _ _ _ => rfl) rfl rfl ?_
    refine wn_lc (t := 73) (f := 71) rfl rfl rfl (fun c2 => ?_) (fun c2 => ?_)
    · have c2 : ¬ (sX (smW (jC w) (ptW w S y v i) (sec l) (lwE w l))).toInt = ((9223372036854775807 : Int64)).toInt := c2
      refine wn_ld (pc' := 75) (q := 4) (kin := 2) (v := .ref (ls + 9)) rfl (fun _ _ _ => rfl) rfl rfl ?_
      refine wn_get (pc' := 78) (v := .ref (ls + 9 + 4)) rfl rfl k1 rfl ?_
      refine wn_ld (pc' := 79) (q := 1) (kin := 0) (v := .int (nI (l))) rfl (fun _ _ _ => rfl) rfl rfl ?_
      refine wn_ialdv (pc' := 80) (j := l) (v := (w (459 + 6 * l))) rfl rfl k5 rfl (by omega) (by decide) ((k12 l (by omega)).2.2.2.1) ?_
      by_cases c3 : (w (459 + 6 * l)) = nI 0
      · rw [c3]
        refine wn_lsw (off := 28) (pc' := 108) rfl (by decide) rfl (by decide) rfl ?_
        refine wn_ld (pc' := 110) (q := 5) (kin := 1) (v := .long (sX (smW (jC w) (ptW w S y v i) (lwB w l) (sec l)))) rfl (fun _ _ _ => rfl) rfl rfl ?_
        refine wn_ld (pc' := 112) (q := 7) (kin := 1) (v := .long (sX (smW (jC w) (ptW w S y v i) (sec l) (lwE w l)))) rfl (fun _ _ _ => rfl) rfl rfl ?_
        refine wn_pu (pc' := 113) (st' := [.int (lg_cmp (sX (smW (jC w) (ptW w S y v i) (lwB w l) (sec l))) (sX (smW (jC w) (ptW w S y v i) (sec l) (lwE w l))))]) rfl (fun _ _ _ => rfl) rfl rfl ?_
        refine wn_lc (t := 120) (f := 116) rfl rfl rfl (fun c4 => ?_) (fun c4 => ?_)
        · have c4 : (sX (smW (jC w) (ptW w S y v i) (lwB w l) (sec l))).toInt ≤ (sX (smW (jC w) (ptW w S y v i) (sec l) (lwE w l))).toInt := c4
          refine wn_ic (pc' := 121) (w := nI 0) rfl rfl (by decide) ?_
          refine wn_iret rfl rfl (by decide) ⟨?_, rfl⟩
          rw [hHo]
          have mx : (9223372036854775807 : Int64).toInt = 9223372036854775807 := by decide
          refine congrArg (fun z => some (Value.int z)) ?_
          rw [mx] at c1 c2
          cases g1 : smW (jC w) (ptW w S y v i) (lwB w l) (sec l) with
          | none => exact absurd (hX1.1.mpr g1) c1
          | some x9 =>
            cases g2 : smW (jC w) (ptW w S y v i) (sec l) (lwE w l) with
            | none => exact absurd (hX2.1.mpr g2) c2
            | some y9 =>
              rw [hX1.2 x9 g1, hX2.2 y9 g2] at c4
              exact bI_f0 (fun ⟨x, z9, q1, q2, q3⟩ => by rw [g1] at q1; rw [g2] at q2; cases q1; cases q2; unfold cmW at q3; rw [if_pos (show w (459 + 6 * l) = 0 from c3)] at q3; omega)
        · have c4 : ¬ ((sX (smW (jC w) (ptW w S y v i) (lwB w l) (sec l))).toInt ≤ (sX (smW (jC w) (ptW w S y v i) (sec l) (lwE w l))).toInt) := c4
          refine wn_ic (pc' := 117) (w := nI 1) rfl rfl (by decide) ?_
          refine wn_jp (pc' := 121) rfl rfl ?_
          refine wn_iret rfl rfl (by decide) ⟨?_, rfl⟩
          rw [hHo]
          have mx : (9223372036854775807 : Int64).toInt = 9223372036854775807 := by decide
          refine congrArg (fun z => some (Value.int z)) ?_
          rw [mx] at c1 c2
          cases g1 : smW (jC w) (ptW w S y v i) (lwB w l) (sec l) with
          | none => exact absurd (hX1.1.mpr g1) c1
          | some x9 =>
            cases g2 : smW (jC w) (ptW w S y v i) (sec l) (lwE w l) with
            | none => exact absurd (hX2.1.mpr g2) c2
            | some y9 =>
              rw [hX1.2 x9 g1, hX2.2 y9 g2] at c4
              exact bI_t1 ⟨x9, y9, g1, g2, by unfold cmW; rw [if_pos (show w (459 + 6 * l) = 0 from c3)]; omega⟩
      by_cases c5 : (w (459 + 6 * l)) = nI 1
      · rw [c5]
        refine wn_lsw (off := 42) (pc' := 122) rfl (by decide) rfl (by decide) rfl ?_
        refine wn_ld (pc' := 124) (q := 5) (kin := 1) (v := .long (sX (smW (jC w) (ptW w S y v i) (lwB w l) (sec l)))) rfl (fun _ _ _ => rfl) rfl rfl ?_
        refine wn_ld (pc' := 126) (q := 7) (kin := 1) (v := .long (sX (smW (jC w) (ptW w S y v i) (sec l) (lwE w l)))) rfl (fun _ _ _ => rfl) rfl rfl ?_
        refine wn_pu (pc' := 127) (st' := [.int (lg_cmp (sX (smW (jC w) (ptW w S y v i) (lwB w l) (sec l))) (sX (smW (jC w) (ptW w S y v i) (sec l) (lwE w l))))]) rfl (fun _ _ _ => rfl) rfl rfl ?_
        refine wn_lc (t := 134) (f := 130) rfl rfl rfl (fun c6 => ?_) (fun c6 => ?_)
        · have c6 : (sX (smW (jC w) (ptW w S y v i) (lwB w l) (sec l))).toInt ≥ (sX (smW (jC w) (ptW w S y v i) (sec l) (lwE w l))).toInt := c6
          refine wn_ic (pc' := 135) (w := nI 0) rfl rfl (by decide) ?_
          refine wn_iret rfl rfl (by decide) ⟨?_, rfl⟩
          rw [hHo]
          have mx : (9223372036854775807 : Int64).toInt = 9223372036854775807 := by decide
          refine congrArg (fun z => some (Value.int z)) ?_
          rw [mx] at c1 c2
          cases g1 : smW (jC w) (ptW w S y v i) (lwB w l) (sec l) with
          | none => exact absurd (hX1.1.mpr g1) c1
          | some x9 =>
            cases g2 : smW (jC w) (ptW w S y v i) (sec l) (lwE w l) with
            | none => exact absurd (hX2.1.mpr g2) c2
            | some y9 =>
              rw [hX1.2 x9 g1, hX2.2 y9 g2] at c6
              exact bI_f0 (fun ⟨x, z9, q1, q2, q3⟩ => by rw [g1] at q1; rw [g2] at q2; cases q1; cases q2; unfold cmW at q3; rw [if_neg (show ¬ w (459 + 6 * l) = 0 from c3), if_pos (show w (459 + 6 * l) = 1 from c5)] at q3; omega)
        · have c6 : ¬ ((sX (smW (jC w) (ptW w S y v i) (lwB w l) (sec l))).toInt ≥ (sX (smW (jC w) (ptW w S y v i) (sec l) (lwE w l))).toInt) := c6
          refine wn_ic (pc' := 131) (w := nI 1) rfl rfl (by decide) ?_
          refine wn_jp (pc' := 135) rfl rfl ?_
          refine wn_iret rfl rfl (by decide) ⟨?_, rfl⟩
          rw [hHo]
          have mx : (9223372036854775807 : Int64).toInt = 9223372036854775807 := by decide
          refine congrArg (fun z => some (Value.int z)) ?_
          rw [mx] at c1 c2
          cases g1 : smW (jC w) (ptW w S y v i) (lwB w l) (sec l) with
          | none => exact absurd (hX1.1.mpr g1) c1
          | some x9 =>
            cases g2 : smW (jC w) (ptW w S y v i) (sec l) (lwE w l) with
            | none => exact absurd (hX2.1.mpr g2) c2
            | some y9 =>
              rw [hX1.2 x9 g1, hX2.2 y9 g2] at c6
              exact bI_t1 ⟨x9, y9, g1, g2, by unfold cmW; rw [if_neg (show ¬ w (459 + 6 * l) = 0 from c3), if_pos (show w (459 + 6 * l) = 1 from c5)]; omega⟩
      refine wn_lsw (off := 56) (pc' := 136) rfl (by decide) (lsw_df ha4 ea4 c3 c5) (by decide) rfl ?_
      refine wn_ld (pc' := 138) (q := 5) (kin := 1) (v := .long (sX (smW (jC w) (ptW w S y v i) (lwB w l) (sec l)))) rfl (fun _ _ _ => rfl) rfl rfl ?_
      refine wn_ld (pc' := 140) (q := 7) (kin := 1) (v := .long (sX (smW (jC w) (ptW w S y v i) (sec l) (lwE w l)))) rfl (fun _ _ _ => rfl) rfl rfl ?_
      refine wn_pu (pc' := 141) (st' := [.int (lg_cmp (sX (smW (jC w) (ptW w S y v i) (lwB w l) (sec l))) (sX (smW (jC w) (ptW w S y v i) (sec l) (lwE w l))))]) rfl (fun _ _ _ => rfl) rfl rfl ?_
      refine wn_lc (t := 148) (f := 144) rfl rfl rfl (fun c7 => ?_) (fun c7 => ?_)
      · have c7 : ¬ (sX (smW (jC w) (ptW w S y v i) (lwB w l) (sec l))).toInt = (sX (smW (jC w) (ptW w S y v i) (sec l) (lwE w l))).toInt := c7
        refine wn_ic (pc' := 149) (w := nI 0) rfl rfl (by decide) ?_
        refine wn_iret rfl rfl (by decide) ⟨?_, rfl⟩
        rw [hHo]
        have mx : (9223372036854775807 : Int64).toInt = 9223372036854775807 := by decide
        refine congrArg (fun z => some (Value.int z)) ?_
        rw [mx] at c1 c2
        cases g1 : smW (jC w) (ptW w S y v i) (lwB w l) (sec l) with
        | none => exact absurd (hX1.1.mpr g1) c1
        | some x9 =>
          cases g2 : smW (jC w) (ptW w S y v i) (sec l) (lwE w l) with
          | none => exact absurd (hX2.1.mpr g2) c2
          | some y9 =>
            rw [hX1.2 x9 g1, hX2.2 y9 g2] at c7
            exact bI_f0 (fun ⟨x, z9, q1, q2, q3⟩ => by rw [g1] at q1; rw [g2] at q2; cases q1; cases q2; unfold cmW at q3; rw [if_neg (show ¬ w (459 + 6 * l) = 0 from c3), if_neg (show ¬ w (459 + 6 * l) = 1 from c5)] at q3; omega)
      · have c7 : ¬ (¬ (sX (smW (jC w) (ptW w S y v i) (lwB w l) (sec l))).toInt = (sX (smW (jC w) (ptW w S y v i) (sec l) (lwE w l))).toInt) := c7
        refine wn_ic (pc' := 145) (w := nI 1) rfl rfl (by decide) ?_
        refine wn_jp (pc' := 149) rfl rfl ?_
        refine wn_iret rfl rfl (by decide) ⟨?_, rfl⟩
        rw [hHo]
        have mx : (9223372036854775807 : Int64).toInt = 9223372036854775807 := by decide
        refine congrArg (fun z => some (Value.int z)) ?_
        rw [mx] at c1 c2
        cases g1 : smW (jC w) (ptW w S y v i) (lwB w l) (sec l) with
        | none => exact absurd (hX1.1.mpr g1) c1
        | some x9 =>
          cases g2 : smW (jC w) (ptW w S y v i) (sec l) (lwE w l) with
          | none => exact absurd (hX2.1.mpr g2) c2
          | some y9 =>
            rw [hX1.2 x9 g1, hX2.2 y9 g2] at c7
            exact bI_t1 ⟨x9, y9, g1, g2, by unfold cmW; rw [if_neg (show ¬ w (459 + 6 * l) = 0 from c3), if_neg (show ¬ w (459 + 6 * l) = 1 from c5)]; omega⟩
    · have c2 : ¬ (¬ (sX (smW (jC w) (ptW w S y v i) (sec l) (lwE w l))).toInt = ((9223372036854775807 : Int64)).toInt) := c2
      refine wn_ic (pc' := 72) (w := nI 0) rfl rfl (by decide) ?_
      refine wn_iret rfl rfl (by decide) ⟨?_, rfl⟩
      rw [hHo]
      have mx : (9223372036854775807 : Int64).toInt = 9223372036854775807 := by decide
      refine congrArg (fun z => some (Value.int z)) ?_
      rw [mx] at c2
      exact bI_f0 (fun ⟨x, y9, q1, q2, q3⟩ => by rw [hX2.1.mp (Classical.not_not.mp c2)] at q2; cases q2)

theorem x_turningLaw (d : Nat) (h : aH) (ls : Nat) (w : Nat → Int32) (hWf : WfW w) (V : XV h ls w) (i y : Nat) (hi : i < ntW w) (hy : y ≤ 60) (Rc : Rch h w i y) (NB : NbY h w (sdW w y) i) (v : Nat) (hv9 : v < nvW w) : Rn (d + 4) 56 [.ref (52), .int (nI (i)), .int (nI (y)), .int (nI (v))] h (some (.int (oI (laW w y v i)))) h 0 0 := by
  obtain ⟨⟨e1, e2⟩, ⟨e3, e4⟩, ⟨e5, e6⟩⟩ := Wf_n hWf
  obtain ⟨⟨e7, e8⟩, ⟨e9, e10⟩⟩ := Wf_m hWf
  obtain ⟨v0, ⟨x9, v1⟩, ⟨v2, ⟨sz, rf, rt, rv, ag, vr, sd, tl, l0, l1, l2, l3, l4, l5, l6, l7, l8, g1, g2, g3, g4, g5⟩, ⟨sec, it, fi, se, sg, lst, rs, rp, pj, pk, pv, k0, k1, k2, k3, k4, k5, k6, k7, k8, k9, k10, k11, k12, k13⟩, ⟨hv, hc, y0, y1, y2, y3, y4⟩, ⟨an, wk, n0, n1, n2, n3, n4⟩⟩, v3⟩ := id V
  rw [e1, e3, e5] at l0
  rw [e7, e9] at k1
  refine Rn_of (by decide) (Nat.le_of_ble_eq_true rfl) ?_
  show Wn _ _ 0 [(0, .ref (52)), (1, .int (nI (i))), (2, .int (nI (y))), (3, .int (nI (v)))] [] _ _
  refine wn_ld (pc' := 1) (q := 0) (kin := 2) (v := .ref (52)) rfl (fun _ _ _ => rfl) rfl rfl ?_
  refine wn_get (pc' := 4) (v := .ref (ls)) rfl rfl v3 rfl ?_
  refine wn_get (pc' := 7) (v := .ref (ls + 9)) rfl rfl l0 rfl ?_
  refine wn_st (pc' := 9) (q := 4) (kin := 2) (lv' := [(0, .ref (52)), (1, .int (nI (i))), (2, .int (nI (y))), (3, .int (nI (v))), (4, .ref (ls + 9))]) rfl (fun _ _ _ => rfl) rfl (Nat.le_of_ble_eq_true rfl) rfl ?_
  refine wn_ld (pc' := 10) (q := 0) (kin := 2) (v := .ref (52)) rfl (fun _ _ _ => rfl) rfl rfl ?_
  refine wn_ld (pc' := 11) (q := 1) (kin := 0) (v := .int (nI (i))) rfl (fun _ _ _ => rfl) rfl rfl ?_
  refine wn_ld (pc' := 12) (q := 2) (kin := 0) (v := .int (nI (y))) rfl (fun _ _ _ => rfl) rfl rfl ?_
  refine wn_ld (pc' := 13) (q := 3) (kin := 0) (v := .int (nI (v))) rfl (fun _ _ _ => rfl) rfl rfl ?_
  have := sdW_5 hWf (y := y) (show v < nvW w by omega) (show i < ntW w by omega)
  refine wn_virI (pc' := 16) rfl rfl (by decide) rfl rfl v3 (Nat.le_of_ble_eq_true rfl) (x_variantAt _ _ ls w hWf V i y v (by omega) (by omega) (by omega) Rc) ?_
  refine wn_st (pc' := 18) (q := 5) (kin := 0) (lv' := [(0, .ref (52)), (1, .int (nI (i))), (2, .int (nI (y))), (3, .int (nI (v))), (4, .ref (ls + 9)), (5, .int (nI (sdW w y v i)))]) rfl (fun _ _ _ => rfl) rfl (Nat.le_of_ble_eq_true rfl) rfl ?_
  refine wn_ic (pc' := 19) (w := nI 0) rfl rfl (by decide) ?_
  refine wn_st (pc' := 21) (q := 6) (kin := 0) (lv' := [(0, .ref (52)), (1, .int (nI (i))), (2, .int (nI (y))), (3, .int (nI (v))), (4, .ref (ls + 9)), (5, .int (nI (sdW w y v i))), (6, .int (nI (0)))]) rfl (fun _ _ _ => rfl) rfl (Nat.le_of_ble_eq_true rfl) rfl ?_
  have lp1 : ∀ (n_lp1 : Nat) (l : Nat), (nlW w) + 1 ≤ l + n_lp1 → l ≤ nlW w → (∀ l9, l9 < l → ¬ (lwI w l9 = i ∧ w (457 + 6 * l9) = nI (sdW w y v i) ∧ hoW w (sdW w y) y v i l9)) → Wn (Rn (d + 3)) 56 21 [(0, .ref (52)), (1, .int (nI (i))), (2, .int (nI (y))), (3, .int (nI (v))), (4, .ref (ls + 9)), (5, .int (nI (sdW w y v i))), (6, .int (nI (l)))] [] (h) (fun r9 h9 => r9 = (some (.int (oI (laW w y v i)))) ∧ h9 = h) := by
    intro n_lp1
    induction n_lp1 with
    | zero => intro l hm_lp1 hl hn; exfalso; omega
    | succ n_lp1 ih_lp1 =>
      intro l hm_lp1 hl hn
      refine wn_ld (pc' := 23) (q := 6) (kin := 0) (v := .int (nI (l))) rfl (fun _ _ _ => rfl) rfl rfl ?_
      refine wn_ld (pc' := 25) (q := 4) (kin := 2) (v := .ref (ls + 9)) rfl (fun _ _ _ => rfl) rfl rfl ?_
      refine wn_get (pc' := 28) (v := .int (nI (nlW w))) rfl rfl k1 rfl ?_
      refine wn_icmpN (t := 76) (f := 31) rfl rfl rfl (by omega) (by omega) (fun c2 => ?_) (fun c2 => ?_)
      · have c2 : (nlW w) ≤ l := c2
        refine wn_ic (pc' := 77) (w := -1) rfl rfl (by decide) ?_
        refine wn_iret rfl rfl rfl ⟨?_, rfl⟩
        rw [show laW w y v i = none from frst_none (fun l9 h9 => hn l9 (by omega))]; rfl
      · have c2 : l < (nlW w) := c2
        refine wn_ld (pc' := 33) (q := 4) (kin := 2) (v := .ref (ls + 9)) rfl (fun _ _ _ => rfl) rfl rfl ?_
        refine wn_get (pc' := 36) (v := .ref (ls + 9 + 1)) rfl rfl k1 rfl ?_
        refine wn_ld (pc' := 38) (q := 6) (kin := 0) (v := .int (nI (l))) rfl (fun _ _ _ => rfl) rfl rfl ?_
        have := lwI_lt hWf (show l < nlW w by omega)
        refine wn_ialdv (pc' := 39) (j := l) (v := (nI (lwI w l))) rfl rfl k2 rfl (by omega) (by decide) ((k12 l (by omega)).1.trans (wf_lw hWf (by omega))) ?_
        refine wn_ld (pc' := 40) (q := 1) (kin := 0) (v := .int (nI (i))) rfl (fun _ _ _ => rfl) rfl rfl ?_
        refine wn_icmpN (t := 70) (f := 43) rfl rfl rfl (by omega) (by omega) (fun c3 => ?_) (fun c3 => ?_)
        · have c3 : ¬ (lwI w l) = i := c3
          refine wn_incN (n := 1) (pc' := 73) (lv' := [(0, .ref (52)), (1, .int (nI (i))), (2, .int (nI (y))), (3, .int (nI (v))), (4, .ref (ls + 9)), (5, .int (nI (sdW w y v i))), (6, .int (nI (l + 1)))]) rfl rfl rfl (Nat.le_of_ble_eq_true rfl) rfl (by decide) ?_
          refine wn_jp (pc' := 21) rfl rfl ?_
          refine wn_weak (lv' := [(0, .ref (52)), (1, .int (nI (i))), (2, .int (nI (y))), (3, .int (nI (v))), (4, .ref (ls + 9)), (5, .int (nI (sdW w y v i))), (6, .int (nI (l + 1)))]) (by simp) ?_
          have z9 := ih_lp1 (l + 1) (by omega) (by omega) (fun l9 h9 => by by_cases e : l9 = l; (subst e; exact (fun q8 => c3 q8.1)); exact hn l9 (by omega))
          exact z9
        · have c3 : (lwI w l) = i := c3
          refine wn_ld (pc' := 45) (q := 4) (kin := 2) (v := .ref (ls + 9)) rfl (fun _ _ _ => rfl) rfl rfl ?_
          refine wn_get (pc' := 48) (v := .ref (ls + 9 + 2)) rfl rfl k1 rfl ?_
          refine wn_ld (pc' := 50) (q := 6) (kin := 0) (v := .int (nI (l))) rfl (fun _ _ _ => rfl) rfl rfl ?_
          refine wn_ialdv (pc' := 51) (j := l) (v := (w (457 + 6 * l))) rfl rfl k3 rfl (by omega) (by decide) ((k12 l (by omega)).2.1) ?_
          refine wn_ld (pc' := 53) (q := 5) (kin := 0) (v := .int (nI (sdW w y v i))) rfl (fun _ _ _ => rfl) rfl rfl ?_
          refine wn_icmp (t := 70) (f := 56) rfl rfl rfl (fun c4 => ?_) (fun c4 => ?_)
          · have c4 : ¬ ((w (457 + 6 * l))) = ((nI (sdW w y v i))) := c4
            refine wn_incN (n := 1) (pc' := 73) (lv' := [(0, .ref (52)), (1, .int (nI (i))), (2, .int (nI (y))), (3, .int (nI (v))), (4, .ref (ls + 9)), (5, .int (nI (sdW w y v i))), (6, .int (nI (l + 1)))]) rfl rfl rfl (Nat.le_of_ble_eq_true rfl) rfl (by decide) ?_
            refine wn_jp (pc' := 21) rfl rfl ?_
            refine wn_weak (lv' := [(0, .ref (52)), (1, .int (nI (i))), (2, .int (nI (y))), (3, .int (nI (v))), (4, .ref (ls + 9)), (5, .int (nI (sdW w y v i))), (6, .int (nI (l + 1)))]) (by simp) ?_
            have z9 := ih_lp1 (l + 1) (by omega) (by omega) (fun l9 h9 => by by_cases e : l9 = l; (subst e; exact (fun q8 => c4 q8.2.1)); exact hn l9 (by omega))
            exact z9
          · have c4 : ((w (457 + 6 * l))) = ((nI (sdW w y v i))) := c4
            refine wn_ld (pc' := 57) (q := 0) (kin := 2) (v := .ref (52)) rfl (fun _ _ _ => rfl) rfl rfl ?_
            refine wn_ld (pc' := 59) (q := 6) (kin := 0) (v := .int (nI (l))) rfl (fun _ _ _ => rfl) rfl rfl ?_
            refine wn_ld (pc' := 60) (q := 2) (kin := 0) (v := .int (nI (y))) rfl (fun _ _ _ => rfl) rfl rfl ?_
            refine wn_ld (pc' := 61) (q := 3) (kin := 0) (v := .int (nI (v))) rfl (fun _ _ _ => rfl) rfl rfl ?_
            refine wn_virI (pc' := 64) rfl rfl (by decide) rfl rfl v3 (Nat.le_of_ble_eq_true rfl) (x_isHolding _ _ ls w hWf V (sdW w y) y v i (by omega) (by omega) NB l (by omega)) ?_
            refine wn_ifeqB (t := 70) (f := 67) rfl rfl rfl (fun c5 => ?_) (fun c5 => ?_)
            · have c5 : ¬ (hoW w (sdW w y) y v i l) := c5
              refine wn_incN (n := 1) (pc' := 73) (lv' := [(0, .ref (52)), (1, .int (nI (i))), (2, .int (nI (y))), (3, .int (nI (v))), (4, .ref (ls + 9)), (5, .int (nI (sdW w y v i))), (6, .int (nI (l + 1)))]) rfl rfl rfl (Nat.le_of_ble_eq_true rfl) rfl (by decide) ?_
              refine wn_jp (pc' := 21) rfl rfl ?_
              refine wn_weak (lv' := [(0, .ref (52)), (1, .int (nI (i))), (2, .int (nI (y))), (3, .int (nI (v))), (4, .ref (ls + 9)), (5, .int (nI (sdW w y v i))), (6, .int (nI (l + 1)))]) (by simp) ?_
              have z9 := ih_lp1 (l + 1) (by omega) (by omega) (fun l9 h9 => by by_cases e : l9 = l; (subst e; exact (fun q8 => c5 q8.2.2)); exact hn l9 (by omega))
              exact z9
            · have c5 : (hoW w (sdW w y) y v i l) := c5
              refine wn_ld (pc' := 69) (q := 6) (kin := 0) (v := .int (nI (l))) rfl (fun _ _ _ => rfl) rfl rfl ?_
              refine wn_iret rfl rfl rfl ⟨?_, rfl⟩
              rw [show laW w y v i = some l from frst_some (fun l9 h9 => hn l9 h9) ⟨c3, c4, c5⟩ (by omega)]; rfl
  refine wn_weak (lv' := [(0, .ref (52)), (1, .int (nI (i))), (2, .int (nI (y))), (3, .int (nI (v))), (4, .ref (ls + 9)), (5, .int (nI (sdW w y v i))), (6, .int (nI (0)))]) (by simp) ?_
  have z9 := lp1 ((nlW w) + 1) 0 (by omega) (by omega) (fun _ h9 => absurd h9 (by omega))
  exact z9

