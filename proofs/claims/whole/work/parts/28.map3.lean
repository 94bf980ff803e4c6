/-! frames; THE REFERENCE'S MAP: lawFor, lay, saidIn -/
def Fr (ks : List Nat) (h h' : aH) : Prop := h'.length = h.length ∧ ∀ k, k ∉ ks → h'[k]? = h[k]?
theorem Fr.rfl' (ks : List Nat) (h : aH) : Fr ks h h := ⟨rfl, fun _ _ => rfl⟩
theorem Fr.st {ks : List Nat} {h h' : aH} {k : Nat} {x : aE} (F : Fr ks h h') (hk : k ∈ ks) : Fr ks h (h'.set k x) := ⟨by rw [List.length_set]; exact F.1, fun j hj => by rw [List.getElem?_set_ne (fun e => hj (by rw [← e]; exact hk))]; exact F.2 j hj⟩
theorem Fr.tr {ks ks' : List Nat} {h h1 h2 : aH} (A : Fr ks h h1) (B : Fr ks' h1 h2) (hs : ∀ k, k ∈ ks' → k ∈ ks) : Fr ks h h2 := ⟨B.1.trans A.1, fun k hk => (B.2 k (fun q => hk (hs k q))).trans (A.2 k hk)⟩
theorem MH.st {h : aH} {w : Nat → Int32} {k : Nat} {x : aE} (H : MH h w) (h1 : k ≠ 71) (h2 : k ≠ 72) : MH (h.set k x) w := by
  obtain ⟨th, tp, sz, at9, fr, tk, vl, fk, fp, il, up, lo, q0, q1⟩ := H
  exact ⟨th, tp, sz, at9, fr, tk, vl, fk, fp, il, up, lo, gs_ne h1 q0, gs_ne h2 q1⟩
theorem m_lawFor (d : Nat) (h : aH) (w : Nat → Int32) (hWf : WfW w) (HM : MH h w) (S : Nat → Nat → Nat) (y : Nat) (hy : y ≤ 60) (HS : SaY h w y S) (hS : ∀ v i, v < nvW w → i < ntW w → S v i < 5) (v i : Nat) (hv : v < nvW w) (hi : i < ntW w) : Rn (d + 6) 179 [.ref (71), .int (nI (v)), .int (nI (i)), .int (nI (y))] h (some (.int (oI (lfW w S y v i)))) h 0 0 := by
  obtain ⟨⟨e1, e2⟩, ⟨e3, e4⟩, ⟨e5, e6⟩⟩ := Wf_n hWf
  obtain ⟨⟨e7, e8⟩, ⟨e9, e10⟩⟩ := Wf_m hWf
  obtain ⟨th, tp, sz, at9, fr, tk, vl, fk, fp, il, up, lo, hM, hW⟩ := id HM
  obtain ⟨sa9, s1, s2⟩ := id HS
  refine Rn_of (by decide) (Nat.le_of_ble_eq_true rfl) ?_
  show Wn _ _ 0 [(0, .ref (71)), (1, .int (nI (v))), (2, .int (nI (i))), (3, .int (nI (y)))] [] _ _
  refine wn_ic (pc' := 1) (w := nI 0) rfl rfl (by decide) ?_
  refine wn_st (pc' := 3) (q := 4) (kin := 0) (lv' := [(0, .ref (71)), (1, .int (nI (v))), (2, .int (nI (i))), (3, .int (nI (y))), (4, .int (nI (0)))]) rfl (fun _ _ _ => rfl) rfl (Nat.le_of_ble_eq_true rfl) rfl ?_
  have lp1 : ∀ (n_lp1 : Nat) (l : Nat), (nlW w) + 1 ≤ l + n_lp1 → l ≤ nlW w → (∀ l9, l9 < l → ¬ (lwI w l9 = i ∧ w (457 + 6 * l9) = nI (S v i) ∧ hoW w S y v i l9)) → Wn (Rn (d + 5)) 179 3 [(0, .ref (71)), (1, .int (nI (v))), (2, .int (nI (i))), (3, .int (nI (y))), (4, .int (nI (l)))] [] (h) (fun r9 h9 => r9 = (some (.int (oI (lfW w S y v i)))) ∧ h9 = h) := by
    intro n_lp1
    induction n_lp1 with
    | zero => intro l hm_lp1 hl hn; exfalso; omega
    | succ n_lp1 ih_lp1 =>
      intro l hm_lp1 hl hn
      refine wn_ld (pc' := 5) (q := 4) (kin := 0) (v := .int (nI (l))) rfl (fun _ _ _ => rfl) rfl rfl ?_
      refine wn_ld (pc' := 6) (q := 0) (kin := 2) (v := .ref (71)) rfl (fun _ _ _ => rfl) rfl rfl ?_
      refine wn_get (pc' := 9) (v := .ref (72)) rfl rfl hM rfl ?_
      refine wn_ic (pc' := 10) (w := nI 4) rfl rfl (by decide) ?_
      refine wn_ialdv (pc' := 11) (j := 4) (v := (nI (nlW w))) rfl rfl hW rfl (by omega) (by decide) (e7) ?_
      refine wn_icmpN (t := 66) (f := 14) rfl rfl rfl (by omega) (by omega) (fun c2 => ?_) (fun c2 => ?_)
      · have c2 : (nlW w) ≤ l := c2
        refine wn_ic (pc' := 67) (w := -1) rfl rfl (by decide) ?_
        refine wn_iret rfl rfl rfl ⟨?_, rfl⟩
        rw [show lfW w S y v i = none from frst_none (fun l9 h9 => hn l9 (by omega))]; rfl
      · have c2 : l < (nlW w) := c2
        refine wn_ld (pc' := 15) (q := 0) (kin := 2) (v := .ref (71)) rfl (fun _ _ _ => rfl) rfl rfl ?_
        refine wn_ld (pc' := 17) (q := 4) (kin := 0) (v := .int (nI (l))) rfl (fun _ _ _ => rfl) rfl rfl ?_
        refine wn_ic (pc' := 18) (w := nI 0) rfl rfl (by decide) ?_
        have := lwI_lt hWf (show l < nlW w by omega)
        refine wn_virI (pc' := 21) rfl rfl (by decide) rfl rfl hM (Nat.le_of_ble_eq_true rfl) (m_ofLaw _ _ w HM l 0 (by omega)) ?_
        rw [show 456 + 6 * l + 0 = 456 + 6 * l by omega]
        rw [wf_lw hWf (show l < nlW w by omega)]
        refine wn_ld (pc' := 22) (q := 2) (kin := 0) (v := .int (nI (i))) rfl (fun _ _ _ => rfl) rfl rfl ?_
        refine wn_icmpN (t := 60) (f := 25) rfl rfl rfl (by omega) (by omega) (fun c3 => ?_) (fun c3 => ?_)
        · have c3 : ¬ (lwI w l) = i := c3
          refine wn_incN (n := 1) (pc' := 63) (lv' := [(0, .ref (71)), (1, .int (nI (v))), (2, .int (nI (i))), (3, .int (nI (y))), (4, .int (nI (l + 1)))]) rfl rfl rfl (Nat.le_of_ble_eq_true rfl) rfl (by decide) ?_
          refine wn_jp (pc' := 3) rfl rfl ?_
          refine wn_weak (lv' := [(0, .ref (71)), (1, .int (nI (v))), (2, .int (nI (i))), (3, .int (nI (y))), (4, .int (nI (l + 1)))]) (by simp) ?_
          have z9 := ih_lp1 (l + 1) (by omega) (by omega) (fun l9 h9 => by by_cases e : l9 = l; (subst e; exact (fun q8 => c3 q8.1)); exact hn l9 (by omega))
          exact z9
        · have c3 : (lwI w l) = i := c3
          refine wn_ld (pc' := 26) (q := 0) (kin := 2) (v := .ref (71)) rfl (fun _ _ _ => rfl) rfl rfl ?_
          refine wn_ld (pc' := 28) (q := 4) (kin := 0) (v := .int (nI (l))) rfl (fun _ _ _ => rfl) rfl rfl ?_
          refine wn_ic (pc' := 29) (w := nI 1) rfl rfl (by decide) ?_
          refine wn_virI (pc' := 32) rfl rfl (by decide) rfl rfl hM (Nat.le_of_ble_eq_true rfl) (m_ofLaw _ _ w HM l 1 (by omega)) ?_
          rw [show 456 + 6 * l + 1 = 457 + 6 * l by omega]
          refine wn_ld (pc' := 33) (q := 0) (kin := 2) (v := .ref (71)) rfl (fun _ _ _ => rfl) rfl rfl ?_
          refine wn_get (pc' := 36) (v := .ref (78)) rfl rfl hM rfl ?_
          refine wn_ld (pc' := 37) (q := 3) (kin := 0) (v := .int (nI (y))) rfl (fun _ _ _ => rfl) rfl rfl ?_
          refine wn_ld (pc' := 38) (q := 1) (kin := 0) (v := .int (nI (v))) rfl (fun _ _ _ => rfl) rfl rfl ?_
          refine wn_ld (pc' := 39) (q := 2) (kin := 0) (v := .int (nI (i))) rfl (fun _ _ _ => rfl) rfl rfl ?_
          refine wn_staI (pc' := 42) rfl rfl (by decide) rfl rfl (Nat.le_of_ble_eq_true rfl) (m_cell _ _ y v i) ?_
          have := hS v i (by omega) (by omega)
          refine wn_ialdv (pc' := 43) (j := (y * 24 + v) * 10 + i) (v := (nI (S v i))) rfl rfl s1 rfl (by omega) (by decide) (s2 v i (by omega) (by omega)) ?_
          refine wn_icmp (t := 60) (f := 46) rfl rfl rfl (fun c4 => ?_) (fun c4 => ?_)
          · have c4 : ¬ ((w (457 + 6 * l))) = ((nI (S v i))) := c4
            refine wn_incN (n := 1) (pc' := 63) (lv' := [(0, .ref (71)), (1, .int (nI (v))), (2, .int (nI (i))), (3, .int (nI (y))), (4, .int (nI (l + 1)))]) rfl rfl rfl (Nat.le_of_ble_eq_true rfl) rfl (by decide) ?_
            refine wn_jp (pc' := 3) rfl rfl ?_
            refine wn_weak (lv' := [(0, .ref (71)), (1, .int (nI (v))), (2, .int (nI (i))), (3, .int (nI (y))), (4, .int (nI (l + 1)))]) (by simp) ?_
            have z9 := ih_lp1 (l + 1) (by omega) (by omega) (fun l9 h9 => by by_cases e : l9 = l; (subst e; exact (fun q8 => c4 q8.2.1)); exact hn l9 (by omega))
            exact z9
          · have c4 : ((w (457 + 6 * l))) = ((nI (S v i))) := c4
            refine wn_ld (pc' := 47) (q := 0) (kin := 2) (v := .ref (71)) rfl (fun _ _ _ => rfl) rfl rfl ?_
            refine wn_ld (pc' := 49) (q := 4) (kin := 0) (v := .int (nI (l))) rfl (fun _ _ _ => rfl) rfl rfl ?_
            refine wn_ld (pc' := 50) (q := 1) (kin := 0) (v := .int (nI (v))) rfl (fun _ _ _ => rfl) rfl rfl ?_
            refine wn_ld (pc' := 51) (q := 3) (kin := 0) (v := .int (nI (y))) rfl (fun _ _ _ => rfl) rfl rfl ?_
            refine wn_virI (pc' := 54) rfl rfl (by decide) rfl rfl hM (Nat.le_of_ble_eq_true rfl) (m_holds _ _ w hWf HM S y (by omega) HS hS l v i (by omega) (by omega) c3) ?_
            refine wn_ifeqB (t := 60) (f := 57) rfl rfl rfl (fun c5 => ?_) (fun c5 => ?_)
            · have c5 : ¬ (hoW w S y v i l) := c5
              refine wn_incN (n := 1) (pc' := 63) (lv' := [(0, .ref (71)), (1, .int (nI (v))), (2, .int (nI (i))), (3, .int (nI (y))), (4, .int (nI (l + 1)))]) rfl rfl rfl (Nat.le_of_ble_eq_true rfl) rfl (by decide) ?_
              refine wn_jp (pc' := 3) rfl rfl ?_
              refine wn_weak (lv' := [(0, .ref (71)), (1, .int (nI (v))), (2, .int (nI (i))), (3, .int (nI (y))), (4, .int (nI (l + 1)))]) (by simp) ?_
              have z9 := ih_lp1 (l + 1) (by omega) (by omega) (fun l9 h9 => by by_cases e : l9 = l; (subst e; exact (fun q8 => c5 q8.2.2)); exact hn l9 (by omega))
              exact z9
            · have c5 : (hoW w S y v i l) := c5
              refine wn_ld (pc' := 59) (q := 4) (kin := 0) (v := .int (nI (l))) rfl (fun _ _ _ => rfl) rfl rfl ?_
              refine wn_iret rfl rfl rfl ⟨?_, rfl⟩
              rw [show lfW w S y v i = some l from frst_some (fun l9 h9 => hn l9 h9) ⟨c3, c4, c5⟩ (by omega)]; rfl
  refine wn_weak (lv' := [(0, .ref (71)), (1, .int (nI (v))), (2, .int (nI (i))), (3, .int (nI (y))), (4, .int (nI (0)))]) (by simp) ?_
  have z9 := lp1 ((nlW w) + 1) 0 (by omega) (by omega) (fun _ h9 => absurd h9 (by omega))
  exact z9

def LdM (h : aH) (w : Nat → Int32) : Prop := ∃ sa9 tn : Nat → Int32, isI h 78 14640 sa9 ∧ isI h 79 14400 tn ∧ (∀ y v i, y ≤ 60 → v < nvW w → i < ntW w → sa9 ((y * 24 + v) * 10 + i) = nI (sdW w y v i)) ∧ ∀ y v i, y < 60 → v < nvW w → i < ntW w → tn ((y * 24 + v) * 10 + i) = oI (laW w y v i)
def LyA (w : Nat → Int32) (sa : Nat → Int32) (v i : Nat) : Prop := ∀ v' i', v' < nvW w → i' < ntW w → (v' < v ∨ (v' = v ∧ i' < i)) → sa ((0 * 24 + v') * 10 + i') = nI (sdW w 0 v' i')
def LyI (w : Nat → Int32) (sa tn : Nat → Int32) (y v i : Nat) : Prop := (∀ y' v' i', y' ≤ 60 → v' < nvW w → i' < ntW w → (y' ≤ y ∨ (y' = y + 1 ∧ (v' < v ∨ (v' = v ∧ i' < i)))) → sa ((y' * 24 + v') * 10 + i') = nI (sdW w y' v' i')) ∧ ∀ y' v' i', y' < 60 → v' < nvW w → i' < ntW w → (y' < y ∨ (y' = y ∧ (v' < v ∨ (v' = v ∧ i' < i)))) → tn ((y' * 24 + v') * 10 + i') = oI (laW w y' v' i')
theorem mx0 {x : Int32} {n : Nat} (h : m1 x n) (hn : n ≤ 1000) : (if nI 0 < x then x else nI 0) = nI x.toNatClampNeg := by
  rcases h with rfl | ⟨a, h1, rfl⟩
  · decide
  · rw [nI_clamp (by omega)]
    by_cases e : a = 0
    · subst e; decide
    · rw [if_pos (nI_lt (by omega) (by omega))]
theorem LyA_s {w sa : Nat → Int32} {v i : Nat} {x : Int32} (hWf : WfW w) (H : LyA w sa v i) (hv : v < nvW w) (hi : i < ntW w) (hx : x = nI (sdW w 0 v i)) : LyA w (upd sa ((0 * 24 + v) * 10 + i) x) v (i + 1) := by
  intro v' i' h1 h2 h3
  have b1 := hWf.1.2.1.2
  have b2 := hWf.1.2.2.2.1.2
  by_cases e : v' = v ∧ i' = i
  · obtain ⟨rfl, rfl⟩ := e
    rw [pk_us]; exact hx
  · rw [pk_un (by omega)]
    exact H v' i' h1 h2 (by omega)
theorem LyA_r {w sa : Nat → Int32} {v : Nat} (H : LyA w sa v (ntW w)) : LyA w sa (v + 1) 0 := fun v' i' h1 h2 h3 => H v' i' h1 h2 (by omega)
theorem LyA_e {w sa tn : Nat → Int32} (H : LyA w sa (nvW w) 0) : LyI w sa tn 0 0 0 := by
  refine ⟨fun y' v' i' h0 h1 h2 h3 => ?_, fun y' v' i' h0 h1 h2 h3 => by omega⟩
  obtain rfl : y' = 0 := by omega
  exact H v' i' h1 h2 (by omega)
theorem LyI_s {w sa tn : Nat → Int32} {y v i : Nat} {x t : Int32} (hWf : WfW w) (H : LyI w sa tn y v i) (hy : y < 60) (hv : v < nvW w) (hi : i < ntW w) (hx : x = nI (sdW w (y + 1) v i)) (ht : t = oI (laW w y v i)) : LyI w (upd sa (((y + 1) * 24 + v) * 10 + i) x) (upd tn ((y * 24 + v) * 10 + i) t) y v (i + 1) := by
  have b1 := hWf.1.2.1.2
  have b2 := hWf.1.2.2.2.1.2
  refine ⟨fun y' v' i' h0 h1 h2 h3 => ?_, fun y' v' i' h0 h1 h2 h3 => ?_⟩
  · by_cases e : y' = y + 1 ∧ v' = v ∧ i' = i
    · obtain ⟨rfl, rfl, rfl⟩ := e
      rw [pk_us]; exact hx
    · rw [pk_un (by omega)]
      exact H.1 y' v' i' h0 h1 h2 (by omega)
  · by_cases e : y' = y ∧ v' = v ∧ i' = i
    · obtain ⟨rfl, rfl, rfl⟩ := e
      rw [pk_us]; exact ht
    · rw [pk_un (by omega)]
      exact H.2 y' v' i' h0 h1 h2 (by omega)
theorem LyI_r {w sa tn : Nat → Int32} {y v : Nat} (H : LyI w sa tn y v (ntW w)) : LyI w sa tn y (v + 1) 0 := ⟨fun y' v' i' h0 h1 h2 h3 => H.1 y' v' i' h0 h1 h2 (by omega), fun y' v' i' h0 h1 h2 h3 => H.2 y' v' i' h0 h1 h2 (by omega)⟩
theorem LyI_y {w sa tn : Nat → Int32} {y : Nat} (H : LyI w sa tn y (nvW w) 0) : LyI w sa tn (y + 1) 0 0 := ⟨fun y' v' i' h0 h1 h2 h3 => H.1 y' v' i' h0 h1 h2 (by omega), fun y' v' i' h0 h1 h2 h3 => H.2 y' v' i' h0 h1 h2 (by omega)⟩
theorem sdW_n {w : Nat → Int32} {y v i : Nat} (h : laW w y v i = none) : sdW w (y + 1) v i = sdW w y v i := by
  show (match lfW w (sdW w y) y v i with | some l => (w (458 + 6 * l)).toNatClampNeg | none => sdW w y v i) = _
  rw [show lfW w (sdW w y) y v i = none from h]
theorem sdW_s {w : Nat → Int32} {y v i l : Nat} (h : laW w y v i = some l) : sdW w (y + 1) v i = (w (458 + 6 * l)).toNatClampNeg := by
  show (match lfW w (sdW w y) y v i with | some l => (w (458 + 6 * l)).toNatClampNeg | none => sdW w y v i) = _
  rw [show lfW w (sdW w y) y v i = some l from h]
theorem laW_l {w : Nat → Int32} (hWf : WfW w) {y v i l : Nat} (h : laW w y v i = some l) : l < nlW w ∧ w (458 + 6 * l) = nI (w (458 + 6 * l)).toNatClampNeg := by
  obtain ⟨g1, ⟨g2, _⟩, _⟩ := frst_is h
  obtain ⟨sec, h9⟩ := hWf.2.2.2.2.2.1
  obtain ⟨⟨_, h0⟩, _, ⟨a, h1, h2⟩, _⟩ := h9 l g1
  have := wf_vab hWf h0
  refine ⟨g1, ?_⟩
  rw [h2, nI_clamp (by omega)]
theorem lay_end {h h' : aH} {w sa tn : Nat → Int32} {th tp sz at9 fr tk vl fk fp il : Int32} {up lo : Int64} (q0 : isO h 71 9 (MoF th tp sz at9 fr tk vl fk fp il up lo)) (hf : Fr [71, 78, 79] h h') (c0 : isO h' 71 9 (MoF th tp sz at9 fr tk vl fk fp (nI 1) up lo)) (c1 : isI h' 72 2676 w) (c2 : isI h' 78 14640 sa) (c3 : isI h' 79 14400 tn) (H : LyI w sa tn 60 0 0) : RQ h h' w ∧ LdM h' w :=
  ⟨⟨hf.1, fun k h1 h2 h3 => hf.2 k (by simp only [List.mem_cons, List.not_mem_nil, or_false]; omega), ⟨_, _, _, _, _, _, _, _, _, _, _, _, _, q0, c0⟩, _, _, _, _, _, _, _, _, _, _, _, _, sa, tn, c0, c1, c2, c3, Or.inr ⟨by decide, fun y v i h1 h2 h3 => H.1 y v i h1 h2 h3 (by omega), fun y v i h1 h2 h3 => H.2 y v i h1 h2 h3 (by omega)⟩⟩, sa, tn, c2, c3, fun y v i h1 h2 h3 => H.1 y v i h1 h2 h3 (by omega), fun y v i h1 h2 h3 => H.2 y v i h1 h2 h3 (by omega)⟩
theorem m_lay (d : Nat) (h : aH) (w : Nat → Int32) (hWf : WfW w) (HQ : MQs h w) : Sp (Rn (d + 7)) 180 [.ref (71)] h (fun r9 h9 => r9 = none ∧ RQ h h9 w ∧ LdM h9 w) := by
  obtain ⟨⟨e1, e2⟩, ⟨e3, e4⟩, ⟨e5, e6⟩⟩ := Wf_n hWf
  obtain ⟨⟨e7, e8⟩, ⟨e9, e10⟩⟩ := Wf_m hWf
  obtain ⟨th, tp, sz, at9, fr, tk, vl, fk, fp, il, up, lo, sa9, tn, q0, q1, q2, q3, q4⟩ := id HQ
  refine Sp_of (by decide) (Nat.le_of_ble_eq_true rfl) ?_
  show Wn _ _ 0 [(0, .ref (71))] [] _ _
  refine wn_ld (pc' := 1) (q := 0) (kin := 2) (v := .ref (71)) rfl (fun _ _ _ => rfl) rfl rfl ?_
  refine wn_get (pc' := 4) (v := .int (il)) rfl rfl q0 rfl ?_
  refine wn_ifc (t := 8) (f := 7) rfl rfl rfl (fun c1 => ?_) (fun c1 => ?_)
  · have c1 : ((il)) = 0 := c1
    refine wn_ld (pc' := 9) (q := 0) (kin := 2) (v := .ref (71)) rfl (fun _ _ _ => rfl) rfl rfl ?_
    refine wn_ic (pc' := 10) (w := nI 1) rfl rfl (by decide) ?_
    refine wn_put (pc' := 13) rfl rfl q0 (Nat.le_of_ble_eq_true rfl) ⟨rfl, rfl⟩ ?_
    show Wn _ _ 13 _ [] (h.set 71 (.inr (9, [.int (th), .ref (72), .ref (73), .ref (74), .ref (75), .int (tp), .ref (76), .int (sz), .int (at9), .int (fr), .int (tk), .int (vl), .int (fk), .int (fp), .ref (77), .int (nI (1)), .ref (78), .ref (79), .ref (80), .long (up), .long (lo), .ref (81), .ref (82), .ref (83), .ref (84)]))) _
    refine wn_ic (pc' := 14) (w := nI 0) rfl rfl (by decide) ?_
    refine wn_st (pc' := 15) (q := 1) (kin := 0) (lv' := [(0, .ref (71)), (1, .int (nI (0)))]) rfl (fun _ _ _ => rfl) rfl (Nat.le_of_ble_eq_true rfl) rfl ?_
    have lp3 : ∀ (n_lp3 : Nat) (g2 : aH) (sa : Nat → Int32) (v : Nat), (nvW w) + 1 ≤ v + n_lp3 → Fr [71, 78, 79] h g2 → isO g2 71 9 [.int (th), .ref (72), .ref (73), .ref (74), .ref (75), .int (tp), .ref (76), .int (sz), .int (at9), .int (fr), .int (tk), .int (vl), .int (fk), .int (fp), .ref (77), .int (nI (1)), .ref (78), .ref (79), .ref (80), .long (up), .long (lo), .ref (81), .ref (82), .ref (83), .ref (84)] → isI g2 78 14640 sa → isI g2 79 14400 tn → v ≤ nvW w → LyA w sa v 0 → Wn (Rn (d + 6)) 180 15 [(0, .ref (71)), (1, .int (nI (v)))] [] (g2) (fun r9 h9 => r9 = none ∧ RQ h h9 w ∧ LdM h9 w) := by
      intro n_lp3
      induction n_lp3 with
      | zero => intro g2 sa v hm_lp3 hf_g2 c_71_g2 c_78_g2 c_79_g2 hv hL; exfalso; omega
      | succ n_lp3 ih_lp3 =>
        intro g2 sa v hm_lp3 hf_g2 c_71_g2 c_78_g2 c_79_g2 hv hL
        have HM_g2 : MH g2 w := ⟨_, _, _, _, _, _, _, _, _, _, _, _, c_71_g2, ((hf_g2.2 72 (by decide)).trans q1)⟩
        refine wn_ld (pc' := 16) (q := 1) (kin := 0) (v := .int (nI (v))) rfl (fun _ _ _ => rfl) rfl rfl ?_
        refine wn_ld (pc' := 17) (q := 0) (kin := 2) (v := .ref (71)) rfl (fun _ _ _ => rfl) rfl rfl ?_
        refine wn_get (pc' := 20) (v := .ref (72)) rfl rfl c_71_g2 rfl ?_
        refine wn_ic (pc' := 21) (w := nI 1) rfl rfl (by decide) ?_
        refine wn_ialdv (pc' := 22) (j := 1) (v := (nI (nvW w))) rfl rfl ((hf_g2.2 72 (by decide)).trans q1) rfl (by omega) (by decide) (e1) ?_
        refine wn_icmpN (t := 79) (f := 25) rfl rfl rfl (by omega) (by omega) (fun c4 => ?_) (fun c4 => ?_)
        · have c4 : (nvW w) ≤ v := c4
          obtain rfl : v = nvW w := by omega
          refine wn_ic (pc' := 80) (w := nI 0) rfl rfl (by decide) ?_
          refine wn_st (pc' := 81) (q := 1) (kin := 0) (lv' := [(0, .ref (71)), (1, .int (nI (0)))]) rfl (fun _ _ _ => rfl) rfl (Nat.le_of_ble_eq_true rfl) rfl ?_
          have lp6 : ∀ (n_lp6 : Nat) (g5 : aH) (sa3 : Nat → Int32) (tn3 : Nat → Int32) (y : Nat), 60 + 1 ≤ y + n_lp6 → Fr [71, 78, 79] h g5 → isO g5 71 9 [.int (th), .ref (72), .ref (73), .ref (74), .ref (75), .int (tp), .ref (76), .int (sz), .int (at9), .int (fr), .int (tk), .int (vl), .int (fk), .int (fp), .ref (77), .int (nI (1)), .ref (78), .ref (79), .ref (80), .long (up), .long (lo), .ref (81), .ref (82), .ref (83), .ref (84)] → isI g5 78 14640 sa3 → isI g5 79 14400 tn3 → y ≤ 60 → LyI w sa3 tn3 y 0 0 → Wn (Rn (d + 6)) 180 81 [(0, .ref (71)), (1, .int (nI (y)))] [] (g5) (fun r9 h9 => r9 = none ∧ RQ h h9 w ∧ LdM h9 w) := by
            intro n_lp6
            induction n_lp6 with
            | zero => intro g5 sa3 tn3 y hm_lp6 hf_g5 c_71_g5 c_78_g5 c_79_g5 hy hL3; exfalso; omega
            | succ n_lp6 ih_lp6 =>
              intro g5 sa3 tn3 y hm_lp6 hf_g5 c_71_g5 c_78_g5 c_79_g5 hy hL3
              have HM_g5 : MH g5 w := ⟨_, _, _, _, _, _, _, _, _, _, _, _, c_71_g5, ((hf_g5.2 72 (by decide)).trans q1)⟩
              refine wn_ld (pc' := 82) (q := 1) (kin := 0) (v := .int (nI (y))) rfl (fun _ _ _ => rfl) rfl rfl ?_
              refine wn_bp (pc' := 84) (w := nI 60) rfl rfl (by decide) ?_
              refine wn_icmpN (t := 191) (f := 87) rfl rfl rfl (by omega) (by omega) (fun c7 => ?_) (fun c7 => ?_)
              · have c7 : 60 ≤ y := c7
                obtain rfl : y = 60 := by omega
                exact wn_vret rfl rfl ⟨rfl, lay_end q0 hf_g5 c_71_g5 ((hf_g5.2 72 (by decide)).trans q1) c_78_g5 c_79_g5 hL3⟩
              · have c7 : y < 60 := c7
                refine wn_ic (pc' := 88) (w := nI 0) rfl rfl (by decide) ?_
                refine wn_st (pc' := 89) (q := 2) (kin := 0) (lv' := [(0, .ref (71)), (1, .int (nI (y))), (2, .int (nI (0)))]) rfl (fun _ _ _ => rfl) rfl (Nat.le_of_ble_eq_true rfl) rfl ?_
                have lp9 : ∀ (n_lp9 : Nat) (g8 : aH) (sa4 : Nat → Int32) (tn4 : Nat → Int32) (v2 : Nat), (nvW w) + 1 ≤ v2 + n_lp9 → Fr [71, 78, 79] h g8 → isO g8 71 9 [.int (th), .ref (72), .ref (73), .ref (74), .ref (75), .int (tp), .ref (76), .int (sz), .int (at9), .int (fr), .int (tk), .int (vl), .int (fk), .int (fp), .ref (77), .int (nI (1)), .ref (78), .ref (79), .ref (80), .long (up), .long (lo), .ref (81), .ref (82), .ref (83), .ref (84)] → isI g8 78 14640 sa4 → isI g8 79 14400 tn4 → v2 ≤ nvW w → LyI w sa4 tn4 y v2 0 → Wn (Rn (d + 6)) 180 89 [(0, .ref (71)), (1, .int (nI (y))), (2, .int (nI (v2)))] [] (g8) (fun r9 h9 => r9 = none ∧ RQ h h9 w ∧ LdM h9 w) := by
                  intro n_lp9
                  induction n_lp9 with
                  | zero => intro g8 sa4 tn4 v2 hm_lp9 hf_g8 c_71_g8 c_78_g8 c_79_g8 hv2 hL4; exfalso; omega
                  | succ n_lp9 ih_lp9 =>
                    intro g8 sa4 tn4 v2 hm_lp9 hf_g8 c_71_g8 c_78_g8 c_79_g8 hv2 hL4
                    have HM_g8 : MH g8 w := ⟨_, _, _, _, _, _, _, _, _, _, _, _, c_71_g8, ((hf_g8.2 72 (by decide)).trans q1)⟩
                    refine wn_ld (pc' := 90) (q := 2) (kin := 0) (v := .int (nI (v2))) rfl (fun _ _ _ => rfl) rfl rfl ?_
                    refine wn_ld (pc' := 91) (q := 0) (kin := 2) (v := .ref (71)) rfl (fun _ _ _ => rfl) rfl rfl ?_
                    refine wn_get (pc' := 94) (v := .ref (72)) rfl rfl c_71_g8 rfl ?_
                    refine wn_ic (pc' := 95) (w := nI 1) rfl rfl (by decide) ?_
                    refine wn_ialdv (pc' := 96) (j := 1) (v := (nI (nvW w))) rfl rfl ((hf_g8.2 72 (by decide)).trans q1) rfl (by omega) (by decide) (e1) ?_
                    refine wn_icmpN (t := 185) (f := 99) rfl rfl rfl (by omega) (by omega) (fun c10 => ?_) (fun c10 => ?_)
                    · have c10 : (nvW w) ≤ v2 := c10
                      obtain rfl : v2 = nvW w := by omega
                      refine wn_incN (n := 1) (pc' := 188) (lv' := [(0, .ref (71)), (1, .int (nI (y + 1))), (2, .int (nI ((nvW w))))]) rfl rfl rfl (Nat.le_of_ble_eq_true rfl) rfl (by decide) ?_
                      refine wn_jp (pc' := 81) rfl rfl ?_
                      refine wn_weak (lv' := [(0, .ref (71)), (1, .int (nI (y + 1)))]) (by simp) ?_
                      have z9 := ih_lp6 g8 sa4 tn4 (y + 1) (by omega) hf_g8 c_71_g8 c_78_g8 c_79_g8 (by omega) (LyI_y hL4)
                      exact z9
                    · have c10 : v2 < (nvW w) := c10
                      refine wn_ic (pc' := 100) (w := nI 0) rfl rfl (by decide) ?_
                      refine wn_st (pc' := 101) (q := 3) (kin := 0) (lv' := [(0, .ref (71)), (1, .int (nI (y))), (2, .int (nI (v2))), (3, .int (nI (0)))]) rfl (fun _ _ _ => rfl) rfl (Nat.le_of_ble_eq_true rfl) rfl ?_
                      have lp12 : ∀ (n_lp12 : Nat) (g11 : aH) (sa5 : Nat → Int32) (tn5 : Nat → Int32) (i2 : Nat), (ntW w) + 1 ≤ i2 + n_lp12 → Fr [71, 78, 79] h g11 → isO g11 71 9 [.int (th), .ref (72), .ref (73), .ref (74), .ref (75), .int (tp), .ref (76), .int (sz), .int (at9), .int (fr), .int (tk), .int (vl), .int (fk), .int (fp), .ref (77), .int (nI (1)), .ref (78), .ref (79), .ref (80), .long (up), .long (lo), .ref (81), .ref (82), .ref (83), .ref (84)] → isI g11 78 14640 sa5 → isI g11 79 14400 tn5 → i2 ≤ ntW w → LyI w sa5 tn5 y v2 i2 → Wn (Rn (d + 6)) 180 101 [(0, .ref (71)), (1, .int (nI (y))), (2, .int (nI (v2))), (3, .int (nI (i2)))] [] (g11) (fun r9 h9 => r9 = none ∧ RQ h h9 w ∧ LdM h9 w) := by
                        intro n_lp12
                        induction n_lp12 with
                        | zero => intro g11 sa5 tn5 i2 hm_lp12 hf_g11 c_71_g11 c_78_g11 c_79_g11 hi2 hL5; exfalso; omega
                        | succ n_lp12 ih_lp12 =>
                          intro g11 sa5 tn5 i2 hm_lp12 hf_g11 c_71_g11 c_78_g11 c_79_g11 hi2 hL5
                          have HM_g11 : MH g11 w := ⟨_, _, _, _, _, _, _, _, _, _, _, _, c_71_g11, ((hf_g11.2 72 (by decide)).trans q1)⟩
                          refine wn_ld (pc' := 102) (q := 3) (kin := 0) (v := .int (nI (i2))) rfl (fun _ _ _ => rfl) rfl rfl ?_
                          refine wn_ld (pc' := 103) (q := 0) (kin := 2) (v := .ref (71)) rfl (fun _ _ _ => rfl) rfl rfl ?_
                          refine wn_get (pc' := 106) (v := .ref (72)) rfl rfl c_71_g11 rfl ?_
                          refine wn_ic (pc' := 107) (w := nI 3) rfl rfl (by decide) ?_
                          refine wn_ialdv (pc' := 108) (j := 3) (v := (nI (ntW w))) rfl rfl ((hf_g11.2 72 (by decide)).trans q1) rfl (by omega) (by decide) (e5) ?_
                          refine wn_icmpN (t := 179) (f := 111) rfl rfl rfl (by omega) (by omega) (fun c13 => ?_) (fun c13 => ?_)
                          · have c13 : (ntW w) ≤ i2 := c13
                            obtain rfl : i2 = ntW w := by omega
                            refine wn_incN (n := 1) (pc' := 182) (lv' := [(0, .ref (71)), (1, .int (nI (y))), (2, .int (nI (v2 + 1))), (3, .int (nI ((ntW w))))]) rfl rfl rfl (Nat.le_of_ble_eq_true rfl) rfl (by decide) ?_
                            refine wn_jp (pc' := 89) rfl rfl ?_
                            refine wn_weak (lv' := [(0, .ref (71)), (1, .int (nI (y))), (2, .int (nI (v2 + 1)))]) (by simp) ?_
                            have z9 := ih_lp9 g11 sa5 tn5 (v2 + 1) (by omega) hf_g11 c_71_g11 c_78_g11 c_79_g11 (by omega) (LyI_r hL5)
                            exact z9
                          · have c13 : i2 < (ntW w) := c13
                            refine wn_ld (pc' := 112) (q := 0) (kin := 2) (v := .ref (71)) rfl (fun _ _ _ => rfl) rfl rfl ?_
                            refine wn_ld (pc' := 113) (q := 2) (kin := 0) (v := .int (nI (v2))) rfl (fun _ _ _ => rfl) rfl rfl ?_
                            refine wn_ld (pc' := 114) (q := 3) (kin := 0) (v := .int (nI (i2))) rfl (fun _ _ _ => rfl) rfl rfl ?_
                            refine wn_ld (pc' := 115) (q := 1) (kin := 0) (v := .int (nI (y))) rfl (fun _ _ _ => rfl) rfl rfl ?_
                            refine wn_virI (pc' := 118) rfl rfl (by decide) rfl rfl c_71_g11 (Nat.le_of_ble_eq_true rfl) (m_lawFor _ _ w hWf HM_g11 (sdW w y) y (by omega) ⟨_, c_78_g11, fun v9 i9 p1 p2 => hL5.1 y v9 i9 (by omega) p1 p2 (by omega)⟩ (fun v9 i9 p1 p2 => sdW_5 hWf p1 p2) v2 i2 (by omega) (by omega)) ?_
                            cases ho9 : lfW w (sdW w y) y v2 i2 with
                            | none =>
                              show Wn _ _ 118 _ [.int (-1)] _ _
                              refine wn_st (pc' := 120) (q := 4) (kin := 0) (lv' := [(0, .ref (71)), (1, .int (nI (y))), (2, .int (nI (v2))), (3, .int (nI (i2))), (4, .int (-1))]) rfl (fun _ _ _ => rfl) rfl (Nat.le_of_ble_eq_true rfl) rfl ?_
                              refine wn_ld (pc' := 121) (q := 0) (kin := 2) (v := .ref (71)) rfl (fun _ _ _ => rfl) rfl rfl ?_
                              refine wn_get (pc' := 124) (v := .ref (79)) rfl rfl c_71_g11 rfl ?_
                              refine wn_ld (pc' := 125) (q := 1) (kin := 0) (v := .int (nI (y))) rfl (fun _ _ _ => rfl) rfl rfl ?_
                              refine wn_ld (pc' := 126) (q := 2) (kin := 0) (v := .int (nI (v2))) rfl (fun _ _ _ => rfl) rfl rfl ?_
                              refine wn_ld (pc' := 127) (q := 3) (kin := 0) (v := .int (nI (i2))) rfl (fun _ _ _ => rfl) rfl rfl ?_
                              refine wn_staI (pc' := 130) rfl rfl (by decide) rfl rfl (Nat.le_of_ble_eq_true rfl) (m_cell _ _ y v2 i2) ?_
                              refine wn_ld (pc' := 132) (q := 4) (kin := 0) (v := .int (-1)) rfl (fun _ _ _ => rfl) rfl rfl ?_
                              refine wn_iast (pc' := 133) (j := (y * 24 + v2) * 10 + i2) rfl rfl c_79_g11 rfl (by omega) (by decide) ?_
                              refine wn_ld (pc' := 134) (q := 0) (kin := 2) (v := .ref (71)) rfl (fun _ _ _ => rfl) rfl rfl ?_
                              refine wn_get (pc' := 137) (v := .ref (78)) rfl rfl (gs_ne (by decide) c_71_g11) rfl ?_
                              refine wn_ld (pc' := 138) (q := 1) (kin := 0) (v := .int (nI (y))) rfl (fun _ _ _ => rfl) rfl rfl ?_
                              refine wn_ic (pc' := 139) (w := nI 1) rfl rfl (by decide) ?_
                              refine wn_addN (pc' := 140) rfl rfl ?_
                              refine wn_ld (pc' := 141) (q := 2) (kin := 0) (v := .int (nI (v2))) rfl (fun _ _ _ => rfl) rfl rfl ?_
                              refine wn_ld (pc' := 142) (q := 3) (kin := 0) (v := .int (nI (i2))) rfl (fun _ _ _ => rfl) rfl rfl ?_
                              refine wn_staI (pc' := 145) rfl rfl (by decide) rfl rfl (Nat.le_of_ble_eq_true rfl) (m_cell _ _ (y + 1) v2 i2) ?_
                              refine wn_ld (pc' := 147) (q := 4) (kin := 0) (v := .int (-1)) rfl (fun _ _ _ => rfl) rfl rfl ?_
                              refine wn_ic (pc' := 148) (w := -1) rfl rfl (by decide) ?_
                              refine wn_icmp (t := 165) (f := 151) rfl rfl rfl (fun c14 => ?_) (fun c14 => ?_)
                              · have c14 : ¬ ((-1) : Int32) = ((-1)) := c14
                                exact absurd rfl c14
                              · have c14 : ((-1) : Int32) = ((-1)) := c14
                                refine wn_ld (pc' := 152) (q := 0) (kin := 2) (v := .ref (71)) rfl (fun _ _ _ => rfl) rfl rfl ?_
                                refine wn_get (pc' := 155) (v := .ref (78)) rfl rfl (gs_ne (by decide) c_71_g11) rfl ?_
                                refine wn_ld (pc' := 156) (q := 1) (kin := 0) (v := .int (nI (y))) rfl (fun _ _ _ => rfl) rfl rfl ?_
                                refine wn_ld (pc' := 157) (q := 2) (kin := 0) (v := .int (nI (v2))) rfl (fun _ _ _ => rfl) rfl rfl ?_
                                refine wn_ld (pc' := 158) (q := 3) (kin := 0) (v := .int (nI (i2))) rfl (fun _ _ _ => rfl) rfl rfl ?_
                                refine wn_staI (pc' := 161) rfl rfl (by decide) rfl rfl (Nat.le_of_ble_eq_true rfl) (m_cell _ _ y v2 i2) ?_
                                refine wn_ialdv (pc' := 162) (j := (y * 24 + v2) * 10 + i2) (v := (nI (sdW w y v2 i2))) rfl rfl (gs_ne (by decide) c_78_g11) rfl (by omega) (by decide) (hL5.1 y v2 i2 (by omega) (by omega) (by omega) (by omega)) ?_
                                refine wn_jp (pc' := 172) rfl rfl ?_
                                refine wn_iast (pc' := 173) (j := ((y + 1) * 24 + v2) * 10 + i2) rfl rfl (gs_ne (by decide) c_78_g11) rfl (by omega) (by decide) ?_
                                refine wn_incN (n := 1) (pc' := 176) (lv' := [(0, .ref (71)), (1, .int (nI (y))), (2, .int (nI (v2))), (3, .int (nI (i2 + 1))), (4, .int (-1))]) rfl rfl rfl (Nat.le_of_ble_eq_true rfl) rfl (by decide) ?_
                                refine wn_jp (pc' := 101) rfl rfl ?_
                                refine wn_weak (lv' := [(0, .ref (71)), (1, .int (nI (y))), (2, .int (nI (v2))), (3, .int (nI (i2 + 1)))]) (by simp) ?_
                                have z9 := ih_lp12 ((g11.set 79 (.inl (0, 14400, .inl (upd tn5 ((y * 24 + v2) * 10 + i2) ((-1)))))).set 78 (.inl (0, 14640, .inl (upd sa5 (((y + 1) * 24 + v2) * 10 + i2) ((nI (sdW w y v2 i2))))))) (upd sa5 (((y + 1) * 24 + v2) * 10 + i2) ((nI (sdW w y v2 i2)))) (upd tn5 ((y * 24 + v2) * 10 + i2) ((-1))) (i2 + 1) (by omega) (Fr.st (Fr.st hf_g11 (by decide)) (by decide)) (gs_ne (by decide) (gs_ne (by decide) c_71_g11)) (gs_self (gs_ne (by decide) c_78_g11)) (gs_ne (by decide) (gs_self c_79_g11)) (by omega) (LyI_s hWf hL5 (by omega) (by omega) (by omega) (congrArg nI (sdW_n ho9)).symm (by rw [show laW w y v2 i2 = _ from ho9]; rfl))
                                exact z9
                            | some l =>
                              have ho8 := (laW_l hWf ho9).1
                              show Wn _ _ 118 _ [.int (nI (l))] _ _
                              refine wn_st (pc' := 120) (q := 4) (kin := 0) (lv' := [(0, .ref (71)), (1, .int (nI (y))), (2, .int (nI (v2))), (3, .int (nI (i2))), (4, .int (nI (l)))]) rfl (fun _ _ _ => rfl) rfl (Nat.le_of_ble_eq_true rfl) rfl ?_
                              refine wn_ld (pc' := 121) (q := 0) (kin := 2) (v := .ref (71)) rfl (fun _ _ _ => rfl) rfl rfl ?_
                              refine wn_get (pc' := 124) (v := .ref (79)) rfl rfl c_71_g11 rfl ?_
                              refine wn_ld (pc' := 125) (q := 1) (kin := 0) (v := .int (nI (y))) rfl (fun _ _ _ => rfl) rfl rfl ?_
                              refine wn_ld (pc' := 126) (q := 2) (kin := 0) (v := .int (nI (v2))) rfl (fun _ _ _ => rfl) rfl rfl ?_
                              refine wn_ld (pc' := 127) (q := 3) (kin := 0) (v := .int (nI (i2))) rfl (fun _ _ _ => rfl) rfl rfl ?_
                              refine wn_staI (pc' := 130) rfl rfl (by decide) rfl rfl (Nat.le_of_ble_eq_true rfl) (m_cell _ _ y v2 i2) ?_
                              refine wn_ld (pc' := 132) (q := 4) (kin := 0) (v := .int (nI (l))) rfl (fun _ _ _ => rfl) rfl rfl ?_
                              refine wn_iast (pc' := 133) (j := (y * 24 + v2) * 10 + i2) rfl rfl c_79_g11 rfl (by omega) (by decide) ?_
                              refine wn_ld (pc' := 134) (q := 0) (kin := 2) (v := .ref (71)) rfl (fun _ _ _ => rfl) rfl rfl ?_
                              refine wn_get (pc' := 137) (v := .ref (78)) rfl rfl (gs_ne (by decide) c_71_g11) rfl ?_
                              refine wn_ld (pc' := 138) (q := 1) (kin := 0) (v := .int (nI (y))) rfl (fun _ _ _ => rfl) rfl rfl ?_
                              refine wn_ic (pc' := 139) (w := nI 1) rfl rfl (by decide) ?_
                              refine wn_addN (pc' := 140) rfl rfl ?_
                              refine wn_ld (pc' := 141) (q := 2) (kin := 0) (v := .int (nI (v2))) rfl (fun _ _ _ => rfl) rfl rfl ?_
                              refine wn_ld (pc' := 142) (q := 3) (kin := 0) (v := .int (nI (i2))) rfl (fun _ _ _ => rfl) rfl rfl ?_
                              refine wn_staI (pc' := 145) rfl rfl (by decide) rfl rfl (Nat.le_of_ble_eq_true rfl) (m_cell _ _ (y + 1) v2 i2) ?_
                              refine wn_ld (pc' := 147) (q := 4) (kin := 0) (v := .int (nI (l))) rfl (fun _ _ _ => rfl) rfl rfl ?_
                              refine wn_ic (pc' := 148) (w := -1) rfl rfl (by decide) ?_
                              refine wn_icmp (t := 165) (f := 151) rfl rfl rfl (fun c15 => ?_) (fun c15 => ?_)
                              · have c15 : ¬ ((nI (l))) = ((-1)) := c15
                                refine wn_ld (pc' := 166) (q := 0) (kin := 2) (v := .ref (71)) rfl (fun _ _ _ => rfl) rfl rfl ?_
                                refine wn_ld (pc' := 168) (q := 4) (kin := 0) (v := .int (nI (l))) rfl (fun _ _ _ => rfl) rfl rfl ?_
                                refine wn_ic (pc' := 169) (w := nI 2) rfl rfl (by decide) ?_
                                refine wn_virI (pc' := 172) rfl rfl (by decide) rfl rfl (gs_ne (by decide) c_71_g11) (Nat.le_of_ble_eq_true rfl) (m_ofLaw _ _ w (MH.st HM_g11 (by decide) (by decide)) l 2 (by omega)) ?_
                                rw [show 456 + 6 * l + 2 = 458 + 6 * l by omega]
                                refine wn_iast (pc' := 173) (j := ((y + 1) * 24 + v2) * 10 + i2) rfl rfl (gs_ne (by decide) c_78_g11) rfl (by omega) (by decide) ?_
                                refine wn_incN (n := 1) (pc' := 176) (lv' := [(0, .ref (71)), (1, .int (nI (y))), (2, .int (nI (v2))), (3, .int (nI (i2 + 1))), (4, .int (nI (l)))]) rfl rfl rfl (Nat.le_of_ble_eq_true rfl) rfl (by decide) ?_
                                refine wn_jp (pc' := 101) rfl rfl ?_
                                refine wn_weak (lv' := [(0, .ref (71)), (1, .int (nI (y))), (2, .int (nI (v2))), (3, .int (nI (i2 + 1)))]) (by simp) ?_
                                have z9 := ih_lp12 ((g11.set 79 (.inl (0, 14400, .inl (upd tn5 ((y * 24 + v2) * 10 + i2) ((nI (l))))))).set 78 (.inl (0, 14640, .inl (upd sa5 (((y + 1) * 24 + v2) * 10 + i2) ((w (458 + 6 * l))))))) (upd sa5 (((y + 1) * 24 + v2) * 10 + i2) ((w (458 + 6 * l)))) (upd tn5 ((y * 24 + v2) * 10 + i2) ((nI (l)))) (i2 + 1) (by omega) (Fr.st (Fr.st hf_g11 (by decide)) (by decide)) (gs_ne (by decide) (gs_ne (by decide) c_71_g11)) (gs_self (gs_ne (by decide) c_78_g11)) (gs_ne (by decide) (gs_self c_79_g11)) (by omega) (LyI_s hWf hL5 (by omega) (by omega) (by omega) ((laW_l hWf ho9).2.trans (congrArg nI (sdW_s ho9)).symm) (by rw [show laW w y v2 i2 = _ from ho9]; rfl))
                                exact z9
                              · have c15 : ((nI (l))) = ((-1)) := c15
                                exact absurd c15 (nI_m1 (by omega))
                      refine wn_weak (lv' := [(0, .ref (71)), (1, .int (nI (y))), (2, .int (nI (v2))), (3, .int (nI (0)))]) (by simp) ?_
                      have z9 := lp12 ((ntW w) + 1) g8 sa4 tn4 0 (by omega) hf_g8 c_71_g8 c_78_g8 c_79_g8 (by omega) hL4
                      exact z9
                refine wn_weak (lv' := [(0, .ref (71)), (1, .int (nI (y))), (2, .int (nI (0)))]) (by simp) ?_
                have z9 := lp9 ((nvW w) + 1) g5 sa3 tn3 0 (by omega) hf_g5 c_71_g5 c_78_g5 c_79_g5 (by omega) hL3
                exact z9
          refine wn_weak (lv' := [(0, .ref (71)), (1, .int (nI (0)))]) (by simp) ?_
          have z9 := lp6 (60 + 1) g2 sa tn 0 (by omega) hf_g2 c_71_g2 c_78_g2 c_79_g2 (by omega) (LyA_e hL)
          exact z9
        · have c4 : v < (nvW w) := c4
          refine wn_ic (pc' := 26) (w := nI 0) rfl rfl (by decide) ?_
          refine wn_st (pc' := 27) (q := 2) (kin := 0) (lv' := [(0, .ref (71)), (1, .int (nI (v))), (2, .int (nI (0)))]) rfl (fun _ _ _ => rfl) rfl (Nat.le_of_ble_eq_true rfl) rfl ?_
          have lp17 : ∀ (n_lp17 : Nat) (g16 : aH) (sa2 : Nat → Int32) (i : Nat), (ntW w) + 1 ≤ i + n_lp17 → Fr [71, 78, 79] h g16 → isO g16 71 9 [.int (th), .ref (72), .ref (73), .ref (74), .ref (75), .int (tp), .ref (76), .int (sz), .int (at9), .int (fr), .int (tk), .int (vl), .int (fk), .int (fp), .ref (77), .int (nI (1)), .ref (78), .ref (79), .ref (80), .long (up), .long (lo), .ref (81), .ref (82), .ref (83), .ref (84)] → isI g16 78 14640 sa2 → isI g16 79 14400 tn → i ≤ ntW w → LyA w sa2 v i → Wn (Rn (d + 6)) 180 27 [(0, .ref (71)), (1, .int (nI (v))), (2, .int (nI (i)))] [] (g16) (fun r9 h9 => r9 = none ∧ RQ h h9 w ∧ LdM h9 w) := by
            intro n_lp17
            induction n_lp17 with
            | zero => intro g16 sa2 i hm_lp17 hf_g16 c_71_g16 c_78_g16 c_79_g16 hi hL2; exfalso; omega
            | succ n_lp17 ih_lp17 =>
              intro g16 sa2 i hm_lp17 hf_g16 c_71_g16 c_78_g16 c_79_g16 hi hL2
              have HM_g16 : MH g16 w := ⟨_, _, _, _, _, _, _, _, _, _, _, _, c_71_g16, ((hf_g16.2 72 (by decide)).trans q1)⟩
              refine wn_ld (pc' := 28) (q := 2) (kin := 0) (v := .int (nI (i))) rfl (fun _ _ _ => rfl) rfl rfl ?_
              refine wn_ld (pc' := 29) (q := 0) (kin := 2) (v := .ref (71)) rfl (fun _ _ _ => rfl) rfl rfl ?_
              refine wn_get (pc' := 32) (v := .ref (72)) rfl rfl c_71_g16 rfl ?_
              refine wn_ic (pc' := 33) (w := nI 3) rfl rfl (by decide) ?_
              refine wn_ialdv (pc' := 34) (j := 3) (v := (nI (ntW w))) rfl rfl ((hf_g16.2 72 (by decide)).trans q1) rfl (by omega) (by decide) (e5) ?_
              refine wn_icmpN (t := 73) (f := 37) rfl rfl rfl (by omega) (by omega) (fun c18 => ?_) (fun c18 => ?_)
              · have c18 : (ntW w) ≤ i := c18
                obtain rfl : i = ntW w := by omega
                refine wn_incN (n := 1) (pc' := 76) (lv' := [(0, .ref (71)), (1, .int (nI (v + 1))), (2, .int (nI ((ntW w))))]) rfl rfl rfl (Nat.le_of_ble_eq_true rfl) rfl (by decide) ?_
                refine wn_jp (pc' := 15) rfl rfl ?_
                refine wn_weak (lv' := [(0, .ref (71)), (1, .int (nI (v + 1)))]) (by simp) ?_
                have z9 := ih_lp3 g16 sa2 (v + 1) (by omega) hf_g16 c_71_g16 c_78_g16 c_79_g16 (by omega) (LyA_r hL2)
                exact z9
              · have c18 : i < (ntW w) := c18
                refine wn_ld (pc' := 38) (q := 0) (kin := 2) (v := .ref (71)) rfl (fun _ _ _ => rfl) rfl rfl ?_
                refine wn_get (pc' := 41) (v := .ref (78)) rfl rfl c_71_g16 rfl ?_
                refine wn_ic (pc' := 42) (w := nI 0) rfl rfl (by decide) ?_
                refine wn_ld (pc' := 43) (q := 1) (kin := 0) (v := .int (nI (v))) rfl (fun _ _ _ => rfl) rfl rfl ?_
                refine wn_ld (pc' := 44) (q := 2) (kin := 0) (v := .int (nI (i))) rfl (fun _ _ _ => rfl) rfl rfl ?_
                refine wn_staI (pc' := 47) rfl rfl (by decide) rfl rfl (Nat.le_of_ble_eq_true rfl) (m_cell _ _ 0 v i) ?_
                refine wn_ic (pc' := 48) (w := nI 0) rfl rfl (by decide) ?_
                refine wn_ld (pc' := 49) (q := 0) (kin := 2) (v := .ref (71)) rfl (fun _ _ _ => rfl) rfl rfl ?_
                refine wn_get (pc' := 52) (v := .ref (72)) rfl rfl c_71_g16 rfl ?_
                refine wn_sp (pc' := 55) (w := nI 216) rfl rfl (by decide) ?_
                refine wn_bp (pc' := 57) (w := nI 10) rfl rfl (by decide) ?_
                refine wn_ld (pc' := 58) (q := 1) (kin := 0) (v := .int (nI (v))) rfl (fun _ _ _ => rfl) rfl rfl ?_
                refine wn_mulN (pc' := 59) rfl rfl ?_
                refine wn_addN (pc' := 60) rfl rfl ?_
                refine wn_ld (pc' := 61) (q := 2) (kin := 0) (v := .int (nI (i))) rfl (fun _ _ _ => rfl) rfl rfl ?_
                refine wn_addN (pc' := 62) rfl rfl ?_
                refine wn_ialdv (pc' := 63) (j := (216 + (10 * v)) + i) (v := (w (216 + 10 * v + i))) rfl rfl ((hf_g16.2 72 (by decide)).trans q1) rfl (by omega) (by decide) (rfl) ?_
                refine wn_max (pc' := 66) rfl rfl (Nat.le_of_ble_eq_true rfl) ?_
                refine wn_iast (pc' := 67) (j := (0 * 24 + v) * 10 + i) rfl rfl c_78_g16 rfl (by omega) (by decide) ?_
                refine wn_incN (n := 1) (pc' := 70) (lv' := [(0, .ref (71)), (1, .int (nI (v))), (2, .int (nI (i + 1)))]) rfl rfl rfl (Nat.le_of_ble_eq_true rfl) rfl (by decide) ?_
                refine wn_jp (pc' := 27) rfl rfl ?_
                refine wn_weak (lv' := [(0, .ref (71)), (1, .int (nI (v))), (2, .int (nI (i + 1)))]) (by simp) ?_
                have z9 := ih_lp17 (g16.set 78 (.inl (0, 14640, .inl (upd sa2 ((0 * 24 + v) * 10 + i) ((if (nI (0)) < (w (216 + 10 * v + i)) then (w (216 + 10 * v + i)) else (nI (0)))))))) (upd sa2 ((0 * 24 + v) * 10 + i) ((if (nI (0)) < (w (216 + 10 * v + i)) then (w (216 + 10 * v + i)) else (nI (0))))) (i + 1) (by omega) (Fr.st hf_g16 (by decide)) (gs_ne (by decide) c_71_g16) (gs_self c_78_g16) (gs_ne (by decide) c_79_g16) (by omega) (LyA_s hWf hL2 (by omega) (by omega) (mx0 (hWf.2.2.2.2.1.1 v i (by omega) (by omega)) (by have := wf_vab hWf (show i < ntW w by omega); omega)))
                exact z9
          refine wn_weak (lv' := [(0, .ref (71)), (1, .int (nI (v))), (2, .int (nI (0)))]) (by simp) ?_
          have z9 := lp17 ((ntW w) + 1) g2 sa 0 (by omega) hf_g2 c_71_g2 c_78_g2 c_79_g2 (by omega) hL
          exact z9
    refine wn_weak (lv' := [(0, .ref (71)), (1, .int (nI (0)))]) (by simp) ?_
    have z9 := lp3 ((nvW w) + 1) (h.set 71 (.inr (9, [.int (th), .ref (72), .ref (73), .ref (74), .ref (75), .int (tp), .ref (76), .int (sz), .int (at9), .int (fr), .int (tk), .int (vl), .int (fk), .int (fp), .ref (77), .int (nI (1)), .ref (78), .ref (79), .ref (80), .long (up), .long (lo), .ref (81), .ref (82), .ref (83), .ref (84)]))) sa9 0 (by omega) (Fr.st (Fr.rfl' [71, 78, 79] h) (by decide)) (gs_self q0) (gs_ne (by decide) q2) (gs_ne (by decide) q3) (by omega) (fun _ _ _ _ q => by omega)
    exact z9
  · have c1 : ¬ ((il)) = 0 := c1
    refine wn_vret rfl rfl ⟨rfl, RQ.rfl' HQ, ?_⟩
    rcases q4 with e | ⟨e, g1, g2⟩
    · exact absurd e c1
    · exact ⟨sa9, tn, q2, q3, g1, g2⟩

theorem m_saidIn (d : Nat) (h : aH) (w : Nat → Int32) (hWf : WfW w) (HQ : MQs h w) (v i y : Nat) (hv : v < nvW w) (hi : i < ntW w) (hy : y ≤ 60) : Sp (Rn (d + 8)) 181 [.ref (71), .int (nI (v)), .int (nI (i)), .int (nI (y))] h (fun r9 h9 => r9 = some (.int (nI (sdW w y v i))) ∧ RQ h h9 w) := by
  obtain ⟨⟨e1, e2⟩, ⟨e3, e4⟩, ⟨e5, e6⟩⟩ := Wf_n hWf
  obtain ⟨⟨e7, e8⟩, ⟨e9, e10⟩⟩ := Wf_m hWf
  obtain ⟨th, tp, sz, at9, fr, tk, vl, fk, fp, il, up, lo, sa9, tn, q0, q1, q2, q3, q4⟩ := id HQ
  refine Sp_of (by decide) (Nat.le_of_ble_eq_true rfl) ?_
  show Wn _ _ 0 [(0, .ref (71)), (1, .int (nI (v))), (2, .int (nI (i))), (3, .int (nI (y)))] [] _ _
  refine wn_ld (pc' := 1) (q := 0) (kin := 2) (v := .ref (71)) rfl (fun _ _ _ => rfl) rfl rfl ?_
  refine wn_virS (pc' := 4) rfl rfl (by decide) rfl rfl q0 (Nat.le_of_ble_eq_true rfl) (m_lay _ _ w hWf HQ) (fun r9 h1 e2 => ?_)
  obtain ⟨rfl, RQ_h1, sa_h1, tn_h1, l1_h1, l2_h1, l3_h1, l4_h1⟩ := e2
  obtain ⟨th_h1, tp_h1, sz_h1, at9_h1, fr_h1, tk_h1, vl_h1, fk_h1, fp_h1, il_h1, up_h1, lo_h1, hM_h1, hW_h1⟩ := RQ_h1.mh
  show Wn _ _ 4 _ [] h1 _
  refine wn_ld (pc' := 5) (q := 0) (kin := 2) (v := .ref (71)) rfl (fun _ _ _ => rfl) rfl rfl ?_
  refine wn_get (pc' := 8) (v := .ref (78)) rfl rfl hM_h1 rfl ?_
  refine wn_ld (pc' := 9) (q := 3) (kin := 0) (v := .int (nI (y))) rfl (fun _ _ _ => rfl) rfl rfl ?_
  refine wn_ld (pc' := 10) (q := 1) (kin := 0) (v := .int (nI (v))) rfl (fun _ _ _ => rfl) rfl rfl ?_
  refine wn_ld (pc' := 11) (q := 2) (kin := 0) (v := .int (nI (i))) rfl (fun _ _ _ => rfl) rfl rfl ?_
  refine wn_staI (pc' := 14) rfl rfl (by decide) rfl rfl (Nat.le_of_ble_eq_true rfl) (m_cell _ _ y v i) ?_
  refine wn_ialdv (pc' := 15) (j := (y * 24 + v) * 10 + i) (v := (nI (sdW w y v i))) rfl rfl l1_h1 rfl (by omega) (by decide) (l3_h1 y v i (by omega) (by omega) (by omega)) ?_
  exact wn_iret rfl rfl rfl ⟨rfl, RQ_h1⟩

