/-! THE REFERENCE'S MAP: holds -/
def iJ (x : Int) : Int64 := Int64.ofInt x
theorem iJ_add (a b : Int) : iJ a + iJ b = iJ (a + b) := (Int64.ofInt_add a b).symm
theorem iJ_sub (a b : Int) : iJ a - iJ b = iJ (a - b) := (Int64.ofInt_sub a b).symm
theorem iJ_mul (a b : Int) : iJ a * iJ b = iJ (a * b) := (Int64.ofInt_mul a b).symm
theorem iJ_int {x : Int} (h1 : -9223372036854775808 ≤ x) (h2 : x < 9223372036854775808) : (iJ x).toInt = x := Int64.toInt_ofInt_of_le h1 h2
theorem lN_iJ (n : Nat) : lN n = iJ (n : Int) := rfl
section WNJ
variable {C : aC} {i pc : Nat} {lv : aL} {st : List Value} {h : aH} {Q : Option Value → aH → Prop}
theorem wn_laddJ {a b pc' : Nat} {x y : Int} (hi : ins i pc = some (.ladd, a, b)) (hn : pc + 1 = pc') (kk : Wn C i pc' lv (.long (iJ (x + y)) :: st) h Q) : Wn C i pc lv (.long (iJ y) :: .long (iJ x) :: st) h Q := by
  subst hn
  exact wn_go hi (fun K r h1 k9 => ⟨_, rfl, by rw [iJ_add]; exact k9⟩) kk
theorem wn_lsubJ {a b pc' : Nat} {x y : Int} (hi : ins i pc = some (.lsub, a, b)) (hn : pc + 1 = pc') (kk : Wn C i pc' lv (.long (iJ (x - y)) :: st) h Q) : Wn C i pc lv (.long (iJ y) :: .long (iJ x) :: st) h Q := by
  subst hn
  exact wn_go hi (fun K r h1 k9 => ⟨_, rfl, by rw [iJ_sub]; exact k9⟩) kk
theorem wn_lmulJ {a b pc' : Nat} {x y : Int} (hi : ins i pc = some (.lmul, a, b)) (hn : pc + 1 = pc') (kk : Wn C i pc' lv (.long (iJ (x * y)) :: st) h Q) : Wn C i pc lv (.long (iJ y) :: .long (iJ x) :: st) h Q := by
  subst hn
  exact wn_go hi (fun K r h1 k9 => ⟨_, rfl, by rw [iJ_mul]; exact k9⟩) kk
end WNJ
def rgF (x : Int) : Prop := -1000000000 ≤ x ∧ x ≤ 1000000000
def OutI (jn : Nat → Int32) (vl : Nat → Nat) (b sec e k : Nat) (su fr : Int) : Prop := rgF su ∧ ((b ≤ k ∧ k ≤ sec ∧ fr = 0 ∧ (∃ t g p, rnW jn vl b k = some (t, g, p) ∧ su = t + g * p) ∧ jn k ≠ 3) ∨ (sec < k ∧ k ≤ e ∧ smW jn vl b sec = some fr ∧ rgF fr ∧ (∃ t g p, rnW jn vl sec k = some (t, g, p) ∧ su = t + g * p) ∧ (k < e → jn k ≠ 3)))
def InI (jn : Nat → Int32) (vl : Nat → Nat) (b sec e k : Nat) (su fr tm : Int) (jo : Int32) : Prop := rgF su ∧ 0 ≤ tm ∧ tm ≤ 1000000000 ∧ ((b < k ∧ k ≤ sec ∧ fr = 0 ∧ jo ≠ 4 ∧ rnW jn vl b k = some (su, (if jo = 2 then -1 else 1), tm)) ∨ (sec < k ∧ k ≤ e ∧ jo = 4 ∧ smW jn vl b sec = some su ∧ rnW jn vl sec k = some (0, 1, tm)) ∨ (sec < k ∧ k ≤ e ∧ jo ≠ 4 ∧ smW jn vl b sec = some fr ∧ rgF fr ∧ rnW jn vl sec k = some (su, (if jo = 2 then -1 else 1), tm)))
def HoI (jn : Nat → Int32) (vl : Nat → Nat) (b sec e : Nat) (sg : Int32) : Prop := ∃ x y, smW jn vl b sec = some x ∧ smW jn vl sec e = some y ∧ cmW sg x y
theorem stp_n {jn : Nat → Int32} {vl : Nat → Nat} {k : Nat} {t g p : Int} (hj : jn k ≠ 3) (hr : rgF (t + g * p)) : stpW jn vl k (t, g, p) = some (t + g * p, (if jn k = 2 then -1 else 1), (vl k : Int)) := by
  unfold stpW
  rw [if_neg hj]
  exact if_neg (by unfold rgF at hr; dsimp only; omega)
theorem stp_x {jn : Nat → Int32} {vl : Nat → Nat} {k : Nat} {t g p : Int} (hj : jn k ≠ 3) (hr : ¬ rgF (t + g * p)) : stpW jn vl k (t, g, p) = none := by
  unfold stpW
  rw [if_neg hj]
  exact if_pos (by unfold rgF at hr; dsimp only; omega)
theorem stp_t {jn : Nat → Int32} {vl : Nat → Nat} {k : Nat} {t g p : Int} (hj : jn k = 3) (hr : p * vl k ≤ 1000000000) : stpW jn vl k (t, g, p) = some (t, g, p * vl k) := by
  unfold stpW
  rw [if_pos hj]
  exact if_neg (by dsimp only; omega)
theorem stp_y {jn : Nat → Int32} {vl : Nat → Nat} {k : Nat} {t g p : Int} (hj : jn k = 3) (hr : ¬ p * vl k ≤ 1000000000) : stpW jn vl k (t, g, p) = none := by
  unfold stpW
  rw [if_pos hj]
  exact if_pos (by dsimp only; omega)
section HLD
variable {jn : Nat → Int32} {vl : Nat → Nat} {b sec e k : Nat} {su fr tm : Int} {jo sg : Int32}
theorem hl_1 (H : OutI jn vl b sec e k su fr) (hb : b < sec) (he : sec < e) (hk : k < e) (hv : vl k ≤ 4000) (h4 : jn sec = 4) (h5 : b ≤ k → k ≠ sec → jn k ≠ 4) : InI jn vl b sec e (k + 1) su fr (vl k : Int) (jn k) := by
  obtain ⟨r, H⟩ := H
  refine ⟨r, by omega, by omega, ?_⟩
  rcases H with ⟨h1, h2, h3, ⟨t, g, p, h6, h7⟩, h8⟩ | ⟨h1, h2, h3, h3', ⟨t, g, p, h6, h7⟩, h8⟩
  · by_cases q : k = sec
    · refine Or.inr (Or.inl ⟨by omega, by omega, by rw [q]; exact h4, ?_, ?_⟩)
      · subst q
        unfold rgF at r
        rw [h7]
        exact smW_some h6 (by omega) (by omega)
      · subst q
        rw [rnW_s (Nat.le_refl _), rnW_0]
        show stpW jn vl k (0, 1, 0) = _
        rw [stp_n (by rw [h4]; decide) (by unfold rgF; omega), h4]
        rfl
    · refine Or.inl ⟨by omega, by omega, h3, h5 h1 q, ?_⟩
      rw [rnW_s h1, h6]
      show stpW jn vl k (t, g, p) = _
      rw [stp_n h8 (by rw [← h7]; exact r), ← h7]
  · refine Or.inr (Or.inr ⟨by omega, by omega, h5 (by omega) (by omega), h3, h3', ?_⟩)
    rw [rnW_s (by omega), h6]
    show stpW jn vl k (t, g, p) = _
    rw [stp_n (h8 hk) (by rw [← h7]; exact r), ← h7]
theorem hl_2 (H : InI jn vl b sec e k su fr tm jo) (hk : k < e) (hj : jn k = 3) (h4 : jn sec = 4) (hr : tm * vl k ≤ 1000000000) : InI jn vl b sec e (k + 1) su fr (tm * vl k) jo := by
  obtain ⟨r, a0, a1, H⟩ := H
  refine ⟨r, Int.mul_nonneg a0 (by omega), hr, ?_⟩
  have hs : k ≠ sec := fun q => by rw [q, h4] at hj; exact absurd hj (by decide)
  rcases H with ⟨h1, h2, h3, h5, h6⟩ | ⟨h1, h2, h3, h5, h6⟩ | ⟨h1, h2, h3, h5, h5', h6⟩
  · refine Or.inl ⟨by omega, by omega, h3, h5, ?_⟩
    rw [rnW_s (by omega), h6]
    exact stp_t hj hr
  · refine Or.inr (Or.inl ⟨by omega, by omega, h3, h5, ?_⟩)
    rw [rnW_s (by omega), h6]
    exact stp_t hj hr
  · refine Or.inr (Or.inr ⟨by omega, by omega, h3, h5, h5', ?_⟩)
    rw [rnW_s (by omega), h6]
    exact stp_t hj hr
theorem hl_2n (H : InI jn vl b sec e k su fr tm jo) (hk : k < e) (hj : jn k = 3) (h4 : jn sec = 4) (hr : ¬ tm * vl k ≤ 1000000000) : ¬ HoI jn vl b sec e sg := by
  obtain ⟨r, a0, a1, H⟩ := H
  have hs : k ≠ sec := fun q => by rw [q, h4] at hj; exact absurd hj (by decide)
  rintro ⟨x, y, q1, q2, _⟩
  rcases H with ⟨h1, h2, h3, h5, h6⟩ | ⟨h1, h2, h3, h5, h6⟩ | ⟨h1, h2, h3, h5, h5', h6⟩
  · have g : rnW jn vl b (k + 1) = none := by rw [rnW_s (by omega), h6]; exact stp_y hj hr
    rw [smW_none (rnW_none (by omega) (by omega) g)] at q1; cases q1
  · have g : rnW jn vl sec (k + 1) = none := by rw [rnW_s (by omega), h6]; exact stp_y hj hr
    rw [smW_none (rnW_none (by omega) (by omega) g)] at q2; cases q2
  · have g : rnW jn vl sec (k + 1) = none := by rw [rnW_s (by omega), h6]; exact stp_y hj hr
    rw [smW_none (rnW_none (by omega) (by omega) g)] at q2; cases q2
theorem hl_3 (H : InI jn vl b sec e k su fr tm jo) (he : sec < e) (hj : k < e → jn k ≠ 3) (S9 F9 v9 : Int) (e1 : S9 = if jo = 4 then 0 else su) (e2 : F9 = if jo = 4 then su else fr) (e3 : v9 = if jo = 2 then S9 - tm else S9 + tm) : (rgF v9 → OutI jn vl b sec e k v9 F9) ∧ (¬ rgF v9 → ¬ HoI jn vl b sec e sg) := by
  obtain ⟨r, a0, a1, H⟩ := H
  rcases H with ⟨h1, h2, h3, h5, h6⟩ | ⟨h1, h2, h3, h5, h6⟩ | ⟨h1, h2, h3, h5, h5', h6⟩
  · rw [if_neg h5] at e1 e2
    subst e1; subst e2
    have ev : v9 = S9 + (if jo = 2 then -1 else 1) * tm := by
      rw [e3]; split <;> omega
    refine ⟨fun q => ⟨q, Or.inl ⟨by omega, h2, h3, ⟨_, _, _, h6, ev⟩, hj (by omega)⟩⟩, fun q => ?_⟩
    rintro ⟨x, y, q1, q2, _⟩
    by_cases c : k = sec
    · subst c
      rw [smW_far h6 (by unfold rgF at q; omega)] at q1; cases q1
    · have g : rnW jn vl b (k + 1) = none := by rw [rnW_s (by omega), h6]; exact stp_x (hj (by omega)) (by rw [← ev]; exact q)
      rw [smW_none (rnW_none (by omega) (by omega) g)] at q1; cases q1
  · rw [if_pos h3] at e1 e2
    subst e1; subst e2
    have n2 : jo ≠ 2 := by rw [h3]; decide
    rw [if_neg n2] at e3
    have ev : v9 = 0 + 1 * tm := by omega
    refine ⟨fun q => ⟨q, Or.inr ⟨h1, h2, h5, r, ⟨_, _, _, h6, ev⟩, hj⟩⟩, fun q => ?_⟩
    exact absurd (show rgF v9 from ⟨by omega, by omega⟩) q
  · rw [if_neg h3] at e1 e2
    subst e1; subst e2
    have ev : v9 = S9 + (if jo = 2 then -1 else 1) * tm := by
      rw [e3]; split <;> omega
    refine ⟨fun q => ⟨q, Or.inr ⟨h1, h2, h5, h5', ⟨_, _, _, h6, ev⟩, hj⟩⟩, fun q => ?_⟩
    rintro ⟨x, y, q1, q2, _⟩
    by_cases c : k = e
    · subst c
      rw [smW_far h6 (by unfold rgF at q; omega)] at q2; cases q2
    · have g : rnW jn vl sec (k + 1) = none := by rw [rnW_s (by omega), h6]; exact stp_x (hj (by omega)) (by rw [← ev]; exact q)
      rw [smW_none (rnW_none (by omega) (by omega) g)] at q2; cases q2
theorem hl_4 (H : OutI jn vl b sec e k su fr) (he : sec < e) (hk : ¬ k < e) : rgF su ∧ rgF fr ∧ (HoI jn vl b sec e sg ↔ cmW sg fr su) := by
  obtain ⟨r, H⟩ := H
  rcases H with ⟨h1, h2, _⟩ | ⟨h1, h2, h3, h3', ⟨t, g, p, h6, h7⟩, h8⟩
  · omega
  · have : k = e := by omega
    subst this
    have e : smW jn vl sec k = some su := by
      rw [h7]
      unfold rgF at r
      exact smW_some h6 (by omega) (by omega)
    refine ⟨r, h3', ?_, fun q => ⟨fr, su, h3, e, q⟩⟩
    rintro ⟨x, y, q1, q2, q3⟩
    rw [h3] at q1; rw [e] at q2
    cases q1; cases q2; exact q3
theorem hl_0 (hb : b ≤ sec) (h : jn b = 0) : OutI jn vl b sec e b 0 0 := ⟨⟨by omega, by omega⟩, Or.inl ⟨Nat.le_refl _, hb, rfl, ⟨0, 1, 0, rnW_0 _ _ _, rfl⟩, by rw [h]; decide⟩⟩
end HLD
theorem secW_eq {w : Nat → Int32} {sec : Nat → Nat} (H : WfL w sec) {l : Nat} (hl : l < nlW w) : secW w l = sec l := by
  obtain ⟨a1, a2, a3, a4, a5, a6, a7, a8, a9, a10, a11, a12⟩ := H l hl
  unfold secW
  rw [frst_some (k := sec l) ?_ ⟨a7, a10⟩ a8]
  rintro j hj ⟨q1, q2⟩
  obtain ⟨a, c1, c2, c3⟩ := a12 j q1 (by omega) (by omega)
  rw [c3] at q2
  rcases (show a = 1 ∨ a = 2 ∨ a = 3 by omega) with rfl | rfl | rfl <;> exact absurd q2 (by decide)

theorem m_holds (d : Nat) (h : aH) (w : Nat → Int32) (hWf : WfW w) (HM : MH h w) (S : Nat → Nat → Nat) (y : Nat) (hy : y ≤ 60) (HS : SaY h w y S) (hS : ∀ v i, v < nvW w → i < ntW w → S v i < 5) (l v i : Nat) (hl : l < nlW w) (hv : v < nvW w) (hi : lwI w l = i) : Rn (d + 5) 178 [.ref (71), .int (nI (l)), .int (nI (v)), .int (nI (y))] h (some (.int (bI (hoW w S y v i l)))) h 0 0 := by
  obtain ⟨⟨e1, e2⟩, ⟨e3, e4⟩, ⟨e5, e6⟩⟩ := Wf_n hWf
  obtain ⟨⟨e7, e8⟩, ⟨e9, e10⟩⟩ := Wf_m hWf
  obtain ⟨th, tp, sz, at9, fr, tk, vl, fk, fp, il, up, lo, hM, hW⟩ := id HM
  obtain ⟨sa9, s1, s2⟩ := id HS
  obtain ⟨sec, HL⟩ := hWf.2.2.2.2.2.1
  obtain ⟨⟨a1, a1b⟩, a2, a3, a4, a5, a6, a7, a8, a9, a10, a11, a12⟩ := HL l hl
  have hHo : hoW w S y v i l = HoI (fun k => w (576 + 3 * k)) (ptW w S y v i) (lwB w l) (sec l) (lwE w l) (w (459 + 6 * l)) := by unfold hoW HoI; rw [secW_eq HL hl]
  have jn4 : ∀ k, lwB w l ≤ k → k < lwE w l → k ≠ sec l → ¬ w (576 + 3 * k) = 4 := by
    intro k q1 q2 q3 q4
    by_cases c : k = lwB w l
    · rw [c, a11] at q4; exact absurd q4 (by decide)
    · obtain ⟨a, c1, c2, c3⟩ := a12 k (by omega) q2 q3
      rw [c3] at q4
      rcases (show a = 1 ∨ a = 2 ∨ a = 3 by omega) with rfl | rfl | rfl <;> exact absurd q4 (by decide)
  rw [hi] at a1 a1b
  refine Rn_of (by decide) (Nat.le_of_ble_eq_true rfl) ?_
  show Wn _ _ 0 [(0, .ref (71)), (1, .int (nI (l))), (2, .int (nI (v))), (3, .int (nI (y)))] [] _ _
  refine wn_ld (pc' := 1) (q := 0) (kin := 2) (v := .ref (71)) rfl (fun _ _ _ => rfl) rfl rfl ?_
  refine wn_ld (pc' := 2) (q := 1) (kin := 0) (v := .int (nI (l))) rfl (fun _ _ _ => rfl) rfl rfl ?_
  refine wn_ic (pc' := 3) (w := nI 4) rfl rfl (by decide) ?_
  refine wn_virI (pc' := 6) rfl rfl (by decide) rfl rfl hM (Nat.le_of_ble_eq_true rfl) (m_ofLaw _ _ w HM l 4 (by omega)) ?_
  rw [show 456 + 6 * l + 4 = 460 + 6 * l by omega, a5]
  refine wn_st (pc' := 8) (q := 4) (kin := 0) (lv' := [(0, .ref (71)), (1, .int (nI (l))), (2, .int (nI (v))), (3, .int (nI (y))), (4, .int (nI (lwB w l)))]) rfl (fun _ _ _ => rfl) rfl (Nat.le_of_ble_eq_true rfl) rfl ?_
  refine wn_ld (pc' := 10) (q := 4) (kin := 0) (v := .int (nI (lwB w l))) rfl (fun _ _ _ => rfl) rfl rfl ?_
  refine wn_ld (pc' := 11) (q := 0) (kin := 2) (v := .ref (71)) rfl (fun _ _ _ => rfl) rfl rfl ?_
  refine wn_ld (pc' := 12) (q := 1) (kin := 0) (v := .int (nI (l))) rfl (fun _ _ _ => rfl) rfl rfl ?_
  refine wn_ic (pc' := 13) (w := nI 5) rfl rfl (by decide) ?_
  refine wn_virI (pc' := 16) rfl rfl (by decide) rfl rfl hM (Nat.le_of_ble_eq_true rfl) (m_ofLaw _ _ w HM l 5 (by omega)) ?_
  rw [show 456 + 6 * l + 5 = 461 + 6 * l by omega, a6]
  refine wn_addN (pc' := 17) rfl rfl ?_
  refine wn_st (pc' := 19) (q := 5) (kin := 0) (lv' := [(0, .ref (71)), (1, .int (nI (l))), (2, .int (nI (v))), (3, .int (nI (y))), (4, .int (nI (lwB w l))), (5, .int (nI ((lwB w l) + (lwE w l - lwB w l))))]) rfl (fun _ _ _ => rfl) rfl (Nat.le_of_ble_eq_true rfl) rfl ?_
  refine wn_pu (pc' := 20) (st' := .long (iJ 0) :: []) rfl (fun _ _ _ => rfl) rfl rfl ?_
  refine wn_st (pc' := 22) (q := 6) (kin := 1) (lv' := [(0, .ref (71)), (1, .int (nI (l))), (2, .int (nI (v))), (3, .int (nI (y))), (4, .int (nI (lwB w l))), (5, .int (nI ((lwB w l) + (lwE w l - lwB w l)))), (6, .long (iJ 0))]) rfl (fun _ _ _ => rfl) rfl (Nat.le_of_ble_eq_true rfl) rfl ?_
  refine wn_pu (pc' := 23) (st' := .long (iJ 0) :: []) rfl (fun _ _ _ => rfl) rfl rfl ?_
  refine wn_st (pc' := 25) (q := 8) (kin := 1) (lv' := [(0, .ref (71)), (1, .int (nI (l))), (2, .int (nI (v))), (3, .int (nI (y))), (4, .int (nI (lwB w l))), (5, .int (nI ((lwB w l) + (lwE w l - lwB w l)))), (6, .long (iJ 0)), (8, .long (iJ 0))]) rfl (fun _ _ _ => rfl) rfl (Nat.le_of_ble_eq_true rfl) rfl ?_
  have lp1 : ∀ (n_lp1 : Nat) (k : Nat) (su : Int) (fr : Int), (lwE w l) + 1 ≤ k + n_lp1 → k ≤ lwE w l → OutI (fun k => w (576 + 3 * k)) (ptW w S y v i) (lwB w l) (sec l) (lwE w l) k su fr → Wn (Rn (d + 4)) 178 25 [(0, .ref (71)), (1, .int (nI (l))), (2, .int (nI (v))), (3, .int (nI (y))), (4, .int (nI (k))), (5, .int (nI ((lwB w l) + (lwE w l - lwB w l)))), (6, .long (iJ fr)), (8, .long (iJ su))] [] (h) (fun r9 h9 => r9 = (some (.int (bI (hoW w S y v i l)))) ∧ h9 = h) := by
    intro n_lp1
    induction n_lp1 with
    | zero => intro k su fr hm_lp1 hk hO; exfalso; omega
    | succ n_lp1 ih_lp1 =>
      intro k su fr hm_lp1 hk hO
      refine wn_ld (pc' := 27) (q := 4) (kin := 0) (v := .int (nI (k))) rfl (fun _ _ _ => rfl) rfl rfl ?_
      refine wn_ld (pc' := 29) (q := 5) (kin := 0) (v := .int (nI ((lwB w l) + (lwE w l - lwB w l)))) rfl (fun _ _ _ => rfl) rfl rfl ?_
      refine wn_icmpN (t := 184) (f := 32) rfl rfl rfl (by omega) (by omega) (fun c2 => ?_) (fun c2 => ?_)
      · have c2 : ((lwB w l) + (lwE w l - lwB w l)) ≤ k := c2
        refine wn_ld (pc' := 185) (q := 0) (kin := 2) (v := .ref (71)) rfl (fun _ _ _ => rfl) rfl rfl ?_
        refine wn_ld (pc' := 186) (q := 1) (kin := 0) (v := .int (nI (l))) rfl (fun _ _ _ => rfl) rfl rfl ?_
        refine wn_ic (pc' := 187) (w := nI 3) rfl rfl (by decide) ?_
        refine wn_virI (pc' := 190) rfl rfl (by decide) rfl rfl hM (Nat.le_of_ble_eq_true rfl) (m_ofLaw _ _ w HM l 3 (by omega)) ?_
        rw [show 456 + 6 * l + 3 = 459 + 6 * l by omega]
        refine wn_st (pc' := 192) (q := 10) (kin := 0) (lv' := [(0, .ref (71)), (1, .int (nI (l))), (2, .int (nI (v))), (3, .int (nI (y))), (4, .int (nI (k))), (5, .int (nI ((lwB w l) + (lwE w l - lwB w l)))), (6, .long (iJ fr)), (8, .long (iJ su)), (10, .int (w (459 + 6 * l)))]) rfl (fun _ _ _ => rfl) rfl (Nat.le_of_ble_eq_true rfl) rfl ?_
        refine wn_ld (pc' := 194) (q := 10) (kin := 0) (v := .int (w (459 + 6 * l))) rfl (fun _ _ _ => rfl) rfl rfl ?_
        refine wn_ifc (t := 213) (f := 197) rfl rfl rfl (fun c3 => ?_) (fun c3 => ?_)
        · have c3 : ¬ ((w (459 + 6 * l))) = 0 := c3
          refine wn_ld (pc' := 215) (q := 10) (kin := 0) (v := .int (w (459 + 6 * l))) rfl (fun _ _ _ => rfl) rfl rfl ?_
          refine wn_ic (pc' := 216) (w := nI 1) rfl rfl (by decide) ?_
          refine wn_icmp (t := 235) (f := 219) rfl rfl rfl (fun c4 => ?_) (fun c4 => ?_)
          · have c4 : ¬ ((w (459 + 6 * l))) = ((nI (1))) := c4
            refine wn_ld (pc' := 237) (q := 6) (kin := 1) (v := .long (iJ fr)) rfl (fun _ _ _ => rfl) rfl rfl ?_
            refine wn_ld (pc' := 239) (q := 8) (kin := 1) (v := .long (iJ su)) rfl (fun _ _ _ => rfl) rfl rfl ?_
            refine wn_pu (pc' := 240) (st' := [.int (lg_cmp (iJ fr) (iJ su))]) rfl (fun _ _ _ => rfl) rfl rfl ?_
            refine wn_lc (t := 247) (f := 243) rfl rfl rfl (fun c5 => ?_) (fun c5 => ?_)
            · have c5 : ¬ (iJ fr).toInt = (iJ su).toInt := c5
              refine wn_ic (pc' := 248) (w := nI 0) rfl rfl (by decide) ?_
              refine wn_iret rfl rfl (by decide) ⟨?_, rfl⟩
              rw [hHo]
              obtain ⟨o1, o2, o3⟩ := hl_4 (sg := w (459 + 6 * l)) hO a8 (by omega)
              unfold rgF at o1 o2
              rw [iJ_int (by omega) (by omega), iJ_int (by omega) (by omega)] at c5
              have o4 := o3
              unfold cmW at o4
              rw [if_neg c3, if_neg (show ¬ w (459 + 6 * l) = 1 from c4)] at o4
              exact congrArg (fun z => some (Value.int z)) (bI_f0 (fun q => by have := o4.mp q; omega))
            · have c5 : ¬ (¬ (iJ fr).toInt = (iJ su).toInt) := c5
              refine wn_ic (pc' := 244) (w := nI 1) rfl rfl (by decide) ?_
              refine wn_jp (pc' := 248) rfl rfl ?_
              refine wn_iret rfl rfl (by decide) ⟨?_, rfl⟩
              rw [hHo]
              obtain ⟨o1, o2, o3⟩ := hl_4 (sg := w (459 + 6 * l)) hO a8 (by omega)
              unfold rgF at o1 o2
              rw [iJ_int (by omega) (by omega), iJ_int (by omega) (by omega)] at c5
              have o4 := o3
              unfold cmW at o4
              rw [if_neg c3, if_neg (show ¬ w (459 + 6 * l) = 1 from c4)] at o4
              exact congrArg (fun z => some (Value.int z)) (bI_t1 (o4.mpr (by omega)))
          · have c4 : ((w (459 + 6 * l))) = ((nI (1))) := c4
            refine wn_ld (pc' := 221) (q := 6) (kin := 1) (v := .long (iJ fr)) rfl (fun _ _ _ => rfl) rfl rfl ?_
            refine wn_ld (pc' := 223) (q := 8) (kin := 1) (v := .long (iJ su)) rfl (fun _ _ _ => rfl) rfl rfl ?_
            refine wn_pu (pc' := 224) (st' := [.int (lg_cmp (iJ fr) (iJ su))]) rfl (fun _ _ _ => rfl) rfl rfl ?_
            refine wn_lc (t := 231) (f := 227) rfl rfl rfl (fun c6 => ?_) (fun c6 => ?_)
            · have c6 : (iJ fr).toInt ≥ (iJ su).toInt := c6
              refine wn_ic (pc' := 232) (w := nI 0) rfl rfl (by decide) ?_
              refine wn_jp (pc' := 248) rfl rfl ?_
              refine wn_iret rfl rfl (by decide) ⟨?_, rfl⟩
              rw [hHo]
              obtain ⟨o1, o2, o3⟩ := hl_4 (sg := w (459 + 6 * l)) hO a8 (by omega)
              unfold rgF at o1 o2
              rw [iJ_int (by omega) (by omega), iJ_int (by omega) (by omega)] at c6
              have o4 := o3
              unfold cmW at o4
              rw [if_neg c3, if_pos (show w (459 + 6 * l) = 1 from c4)] at o4
              exact congrArg (fun z => some (Value.int z)) (bI_f0 (fun q => by have := o4.mp q; omega))
            · have c6 : ¬ ((iJ fr).toInt ≥ (iJ su).toInt) := c6
              refine wn_ic (pc' := 228) (w := nI 1) rfl rfl (by decide) ?_
              refine wn_jp (pc' := 248) rfl rfl ?_
              refine wn_iret rfl rfl (by decide) ⟨?_, rfl⟩
              rw [hHo]
              obtain ⟨o1, o2, o3⟩ := hl_4 (sg := w (459 + 6 * l)) hO a8 (by omega)
              unfold rgF at o1 o2
              rw [iJ_int (by omega) (by omega), iJ_int (by omega) (by omega)] at c6
              have o4 := o3
              unfold cmW at o4
              rw [if_neg c3, if_pos (show w (459 + 6 * l) = 1 from c4)] at o4
              exact congrArg (fun z => some (Value.int z)) (bI_t1 (o4.mpr (by omega)))
        · have c3 : ((w (459 + 6 * l))) = 0 := c3
          refine wn_ld (pc' := 199) (q := 6) (kin := 1) (v := .long (iJ fr)) rfl (fun _ _ _ => rfl) rfl rfl ?_
          refine wn_ld (pc' := 201) (q := 8) (kin := 1) (v := .long (iJ su)) rfl (fun _ _ _ => rfl) rfl rfl ?_
          refine wn_pu (pc' := 202) (st' := [.int (lg_cmp (iJ fr) (iJ su))]) rfl (fun _ _ _ => rfl) rfl rfl ?_
          refine wn_lc (t := 209) (f := 205) rfl rfl rfl (fun c7 => ?_) (fun c7 => ?_)
          · have c7 : (iJ fr).toInt ≤ (iJ su).toInt := c7
            refine wn_ic (pc' := 210) (w := nI 0) rfl rfl (by decide) ?_
            refine wn_jp (pc' := 248) rfl rfl ?_
            refine wn_iret rfl rfl (by decide) ⟨?_, rfl⟩
            rw [hHo]
            obtain ⟨o1, o2, o3⟩ := hl_4 (sg := w (459 + 6 * l)) hO a8 (by omega)
            unfold rgF at o1 o2
            rw [iJ_int (by omega) (by omega), iJ_int (by omega) (by omega)] at c7
            have o4 := o3
            unfold cmW at o4
            rw [if_pos c3] at o4
            exact congrArg (fun z => some (Value.int z)) (bI_f0 (fun q => by have := o4.mp q; omega))
          · have c7 : ¬ ((iJ fr).toInt ≤ (iJ su).toInt) := c7
            refine wn_ic (pc' := 206) (w := nI 1) rfl rfl (by decide) ?_
            refine wn_jp (pc' := 248) rfl rfl ?_
            refine wn_iret rfl rfl (by decide) ⟨?_, rfl⟩
            rw [hHo]
            obtain ⟨o1, o2, o3⟩ := hl_4 (sg := w (459 + 6 * l)) hO a8 (by omega)
            unfold rgF at o1 o2
            rw [iJ_int (by omega) (by omega), iJ_int (by omega) (by omega)] at c7
            have o4 := o3
            unfold cmW at o4
            rw [if_pos c3] at o4
            exact congrArg (fun z => some (Value.int z)) (bI_t1 (o4.mpr (by omega)))
      · have c2 : k < ((lwB w l) + (lwE w l - lwB w l)) := c2
        refine wn_ld (pc' := 33) (q := 0) (kin := 2) (v := .ref (71)) rfl (fun _ _ _ => rfl) rfl rfl ?_
        refine wn_get (pc' := 36) (v := .ref (72)) rfl rfl hM rfl ?_
        refine wn_sp (pc' := 39) (w := nI 576) rfl rfl (by decide) ?_
        refine wn_ic (pc' := 40) (w := nI 3) rfl rfl (by decide) ?_
        refine wn_ld (pc' := 42) (q := 4) (kin := 0) (v := .int (nI (k))) rfl (fun _ _ _ => rfl) rfl rfl ?_
        refine wn_mulN (pc' := 43) rfl rfl ?_
        refine wn_addN (pc' := 44) rfl rfl ?_
        refine wn_ialdv (pc' := 45) (j := 576 + (3 * k)) (v := (w (576 + 3 * k))) rfl rfl hW rfl (by omega) (by decide) (rfl) ?_
        refine wn_st (pc' := 47) (q := 10) (kin := 0) (lv' := [(0, .ref (71)), (1, .int (nI (l))), (2, .int (nI (v))), (3, .int (nI (y))), (4, .int (nI (k))), (5, .int (nI ((lwB w l) + (lwE w l - lwB w l)))), (6, .long (iJ fr)), (8, .long (iJ su)), (10, .int (w (576 + 3 * k)))]) rfl (fun _ _ _ => rfl) rfl (Nat.le_of_ble_eq_true rfl) rfl ?_
        refine wn_ld (pc' := 48) (q := 0) (kin := 2) (v := .ref (71)) rfl (fun _ _ _ => rfl) rfl rfl ?_
        refine wn_ld (pc' := 50) (q := 4) (kin := 0) (v := .int (nI (k))) rfl (fun _ _ _ => rfl) rfl rfl ?_
        refine wn_ld (pc' := 51) (q := 2) (kin := 0) (v := .int (nI (v))) rfl (fun _ _ _ => rfl) rfl rfl ?_
        refine wn_ld (pc' := 52) (q := 0) (kin := 2) (v := .ref (71)) rfl (fun _ _ _ => rfl) rfl rfl ?_
        refine wn_ld (pc' := 53) (q := 1) (kin := 0) (v := .int (nI (l))) rfl (fun _ _ _ => rfl) rfl rfl ?_
        refine wn_ic (pc' := 54) (w := nI 0) rfl rfl (by decide) ?_
        refine wn_virI (pc' := 57) rfl rfl (by decide) rfl rfl hM (Nat.le_of_ble_eq_true rfl) (m_ofLaw _ _ w HM l 0 (by omega)) ?_
        rw [show 456 + 6 * l + 0 = 456 + 6 * l by omega, a1]
        refine wn_ld (pc' := 58) (q := 3) (kin := 0) (v := .int (nI (y))) rfl (fun _ _ _ => rfl) rfl rfl ?_
        have := ptW_le hWf (S := S) (y := y) (i := i) (show v < nvW w by omega) (by omega) (show k < npW w by omega)
        refine wn_virL (pc' := 61) rfl rfl (by decide) rfl rfl hM (Nat.le_of_ble_eq_true rfl) (m_partOf _ _ w hWf HM S y (by omega) HS hS k v i (by omega) (by omega) (by omega)) ?_
        rw [lN_iJ]
        refine wn_st (pc' := 63) (q := 11) (kin := 1) (lv' := [(0, .ref (71)), (1, .int (nI (l))), (2, .int (nI (v))), (3, .int (nI (y))), (4, .int (nI (k))), (5, .int (nI ((lwB w l) + (lwE w l - lwB w l)))), (6, .long (iJ fr)), (8, .long (iJ su)), (10, .int (w (576 + 3 * k))), (11, .long (iJ (((ptW w S y v i k)) : Int)))]) rfl (fun _ _ _ => rfl) rfl (Nat.le_of_ble_eq_true rfl) rfl ?_
        refine wn_incN (n := 1) (pc' := 66) (lv' := [(0, .ref (71)), (1, .int (nI (l))), (2, .int (nI (v))), (3, .int (nI (y))), (4, .int (nI (k + 1))), (5, .int (nI ((lwB w l) + (lwE w l - lwB w l)))), (6, .long (iJ fr)), (8, .long (iJ su)), (10, .int (w (576 + 3 * k))), (11, .long (iJ (((ptW w S y v i k)) : Int)))]) rfl rfl rfl (Nat.le_of_ble_eq_true rfl) rfl (by decide) ?_
        have lp8 : ∀ (n_lp8 : Nat) (k2 : Nat) (tm : Int), (lwE w l) + 1 ≤ k2 + n_lp8 → k + 1 ≤ k2 → k2 ≤ lwE w l → InI (fun k => w (576 + 3 * k)) (ptW w S y v i) (lwB w l) (sec l) (lwE w l) k2 su fr tm (w (576 + 3 * k)) → Wn (Rn (d + 4)) 178 66 [(0, .ref (71)), (1, .int (nI (l))), (2, .int (nI (v))), (3, .int (nI (y))), (4, .int (nI (k2))), (5, .int (nI ((lwB w l) + (lwE w l - lwB w l)))), (6, .long (iJ fr)), (8, .long (iJ su)), (10, .int (w (576 + 3 * k))), (11, .long (iJ tm))] [] (h) (fun r9 h9 => r9 = (some (.int (bI (hoW w S y v i l)))) ∧ h9 = h) := by
          intro n_lp8
          induction n_lp8 with
          | zero => intro k2 tm hm_lp8 hkk hk2 hI; exfalso; omega
          | succ n_lp8 ih_lp8 =>
            intro k2 tm hm_lp8 hkk hk2 hI
            refine wn_ld (pc' := 68) (q := 4) (kin := 0) (v := .int (nI (k2))) rfl (fun _ _ _ => rfl) rfl rfl ?_
            refine wn_ld (pc' := 70) (q := 5) (kin := 0) (v := .int (nI ((lwB w l) + (lwE w l - lwB w l)))) rfl (fun _ _ _ => rfl) rfl rfl ?_
            refine wn_icmpN (t := 131) (f := 73) rfl rfl rfl (by omega) (by omega) (fun c9 => ?_) (fun c9 => ?_)
            · have c9 : ((lwB w l) + (lwE w l - lwB w l)) ≤ k2 := c9
              refine wn_ld (pc' := 133) (q := 10) (kin := 0) (v := .int (w (576 + 3 * k))) rfl (fun _ _ _ => rfl) rfl rfl ?_
              refine wn_ic (pc' := 134) (w := nI 4) rfl rfl (by decide) ?_
              refine wn_icmp (t := 144) (f := 137) rfl rfl rfl (fun c10 => ?_) (fun c10 => ?_)
              · have c10 : ¬ ((w (576 + 3 * k))) = ((nI (4))) := c10
                refine wn_ld (pc' := 146) (q := 10) (kin := 0) (v := .int (w (576 + 3 * k))) rfl (fun _ _ _ => rfl) rfl rfl ?_
                refine wn_ic (pc' := 147) (w := nI 2) rfl rfl (by decide) ?_
                refine wn_icmp (t := 158) (f := 150) rfl rfl rfl (fun c11 => ?_) (fun c11 => ?_)
                · have c11 : ¬ ((w (576 + 3 * k))) = ((nI (2))) := c11
                  refine wn_ld (pc' := 160) (q := 8) (kin := 1) (v := .long (iJ su)) rfl (fun _ _ _ => rfl) rfl rfl ?_
                  refine wn_ld (pc' := 162) (q := 11) (kin := 1) (v := .long (iJ tm)) rfl (fun _ _ _ => rfl) rfl rfl ?_
                  refine wn_laddJ (pc' := 163) rfl rfl ?_
                  refine wn_st (pc' := 165) (q := 8) (kin := 1) (lv' := [(0, .ref (71)), (1, .int (nI (l))), (2, .int (nI (v))), (3, .int (nI (y))), (4, .int (nI (k2))), (5, .int (nI ((lwB w l) + (lwE w l - lwB w l)))), (6, .long (iJ fr)), (8, .long (iJ (su + tm))), (10, .int (w (576 + 3 * k))), (11, .long (iJ tm))]) rfl (fun _ _ _ => rfl) rfl (Nat.le_of_ble_eq_true rfl) rfl ?_
                  refine wn_ld (pc' := 167) (q := 8) (kin := 1) (v := .long (iJ (su + tm))) rfl (fun _ _ _ => rfl) rfl rfl ?_
                  refine wn_go (pc' := 170) (lv' := [(0, .ref (71)), (1, .int (nI (l))), (2, .int (nI (v))), (3, .int (nI (y))), (4, .int (nI (k2))), (5, .int (nI ((lwB w l) + (lwE w l - lwB w l)))), (6, .long (iJ fr)), (8, .long (iJ (su + tm))), (10, .int (w (576 + 3 * k))), (11, .long (iJ tm))]) (st' := [.long ((-1000000000 : Int64)), .long (iJ (su + tm))]) rfl (fun _ _ _ k9 => k9) ?_
                  refine wn_go (pc' := 173) (lv' := [(0, .ref (71)), (1, .int (nI (l))), (2, .int (nI (v))), (3, .int (nI (y))), (4, .int (nI (k2))), (5, .int (nI ((lwB w l) + (lwE w l - lwB w l)))), (6, .long (iJ fr)), (8, .long (iJ (su + tm))), (10, .int (w (576 + 3 * k))), (11, .long (iJ tm))]) (st' := [.long ((1000000000 : Int64)), .long ((-1000000000 : Int64)), .long (iJ (su + tm))]) rfl (fun _ _ _ k9 => k9) ?_
                  refine wn_staI (pc' := 176) rfl rfl (by decide) rfl rfl (Nat.le_of_ble_eq_true rfl) (m_in _ _ _ _ _) ?_
                  refine wn_ifneB (t := 181) (f := 179) rfl rfl rfl (fun c12 => ?_) (fun c12 => ?_)
                  · have c12 : (((-1000000000 : Int64)).toInt ≤ (iJ (su + tm)).toInt ∧ (iJ (su + tm)).toInt ≤ ((1000000000 : Int64)).toInt) := c12
                    refine wn_jp (pc' := 25) rfl rfl ?_
                    have h3 := hl_3 (sg := w (459 + 6 * l)) hI (by omega) (fun q => by omega) su fr (su + tm) (by rw [if_neg]; exact c10) (by rw [if_neg]; exact c10) (by rw [if_neg]; exact c11)
                    have i1 := hI.1
                    have i2 := hI.2.1
                    have i3 := hI.2.2.1
                    unfold rgF at i1
                    rw [iJ_int (by omega) (by omega)] at c12
                    have m1 : (-1000000000 : Int64).toInt = -1000000000 := by decide
                    have m2 : (1000000000 : Int64).toInt = 1000000000 := by decide
                    have h9out := h3.1 ⟨by omega, by omega⟩
                    refine wn_weak (lv' := [(0, .ref (71)), (1, .int (nI (l))), (2, .int (nI (v))), (3, .int (nI (y))), (4, .int (nI (k2))), (5, .int (nI ((lwB w l) + (lwE w l - lwB w l)))), (6, .long (iJ fr)), (8, .long (iJ (su + tm)))]) (by simp) ?_
                    have z9 := ih_lp1 k2 ((su + tm)) fr (by omega) (by omega) (h9out)
                    exact z9
                  · have c12 : ¬ (((-1000000000 : Int64)).toInt ≤ (iJ (su + tm)).toInt ∧ (iJ (su + tm)).toInt ≤ ((1000000000 : Int64)).toInt) := c12
                    refine wn_ic (pc' := 180) (w := nI 0) rfl rfl (by decide) ?_
                    refine wn_iret rfl rfl (by decide) ⟨?_, rfl⟩
                    rw [hHo]
                    have h3 := hl_3 (sg := w (459 + 6 * l)) hI (by omega) (fun q => by omega) su fr (su + tm) (by rw [if_neg]; exact c10) (by rw [if_neg]; exact c10) (by rw [if_neg]; exact c11)
                    have i1 := hI.1
                    have i2 := hI.2.1
                    have i3 := hI.2.2.1
                    unfold rgF at i1
                    rw [iJ_int (by omega) (by omega)] at c12
                    have m1 : (-1000000000 : Int64).toInt = -1000000000 := by decide
                    have m2 : (1000000000 : Int64).toInt = 1000000000 := by decide
                    have h9n := h3.2 (fun q => by unfold rgF at q; omega)
                    exact congrArg (fun z => some (Value.int z)) (bI_f0 h9n)
                · have c11 : ((w (576 + 3 * k))) = ((nI (2))) := c11
                  refine wn_ld (pc' := 152) (q := 8) (kin := 1) (v := .long (iJ su)) rfl (fun _ _ _ => rfl) rfl rfl ?_
                  refine wn_ld (pc' := 154) (q := 11) (kin := 1) (v := .long (iJ tm)) rfl (fun _ _ _ => rfl) rfl rfl ?_
                  refine wn_lsubJ (pc' := 155) rfl rfl ?_
                  refine wn_jp (pc' := 163) rfl rfl ?_
                  refine wn_st (pc' := 165) (q := 8) (kin := 1) (lv' := [(0, .ref (71)), (1, .int (nI (l))), (2, .int (nI (v))), (3, .int (nI (y))), (4, .int (nI (k2))), (5, .int (nI ((lwB w l) + (lwE w l - lwB w l)))), (6, .long (iJ fr)), (8, .long (iJ (su - tm))), (10, .int (w (576 + 3 * k))), (11, .long (iJ tm))]) rfl (fun _ _ _ => rfl) rfl (Nat.le_of_ble_eq_true rfl) rfl ?_
                  refine wn_ld (pc' := 167) (q := 8) (kin := 1) (v := .long (iJ (su - tm))) rfl (fun _ _ _ => rfl) rfl rfl ?_
                  refine wn_go (pc' := 170) (lv' := [(0, .ref (71)), (1, .int (nI (l))), (2, .int (nI (v))), (3, .int (nI (y))), (4, .int (nI (k2))), (5, .int (nI ((lwB w l) + (lwE w l - lwB w l)))), (6, .long (iJ fr)), (8, .long (iJ (su - tm))), (10, .int (w (576 + 3 * k))), (11, .long (iJ tm))]) (st' := [.long ((-1000000000 : Int64)), .long (iJ (su - tm))]) rfl (fun _ _ _ k9 => k9) ?_
                  refine wn_go (pc' := 173) (lv' := [(0, .ref (71)), (1, .int (nI (l))), (2, .int (nI (v))), (3, .int (nI (y))), (4, .int (nI (k2))), (5, .int (nI ((lwB w l) + (lwE w l - lwB w l)))), (6, .long (iJ fr)), (8, .long (iJ (su - tm))), (10, .int (w (576 + 3 * k))), (11, .long (iJ tm))]) (st' := [.long ((1000000000 : Int64)), .long ((-1000000000 : Int64)), .long (iJ (su - tm))]) rfl (fun _ _ _ k9 => k9) ?_
                  refine wn_staI (pc' := 176) rfl rfl (by decide) rfl rfl (Nat.le_of_ble_eq_true rfl) (m_in _ _ _ _ _) ?_
                  refine wn_ifneB (t := 181) (f := 179) rfl rfl rfl (fun c13 => ?_) (fun c13 => ?_)
                  · have c13 : (((-1000000000 : Int64)).toInt ≤ (iJ (su - tm)).toInt ∧ (iJ (su - tm)).toInt ≤ ((1000000000 : Int64)).toInt) := c13
                    refine wn_jp (pc' := 25) rfl rfl ?_
                    have h3 := hl_3 (sg := w (459 + 6 * l)) hI (by omega) (fun q => by omega) su fr (su - tm) (by rw [if_neg]; exact c10) (by rw [if_neg]; exact c10) (by rw [if_pos]; exact c11)
                    have i1 := hI.1
                    have i2 := hI.2.1
                    have i3 := hI.2.2.1
                    unfold rgF at i1
                    rw [iJ_int (by omega) (by omega)] at c13
                    have m1 : (-1000000000 : Int64).toInt = -1000000000 := by decide
                    have m2 : (1000000000 : Int64).toInt = 1000000000 := by decide
                    have h9out := h3.1 ⟨by omega, by omega⟩
                    refine wn_weak (lv' := [(0, .ref (71)), (1, .int (nI (l))), (2, .int (nI (v))), (3, .int (nI (y))), (4, .int (nI (k2))), (5, .int (nI ((lwB w l) + (lwE w l - lwB w l)))), (6, .long (iJ fr)), (8, .long (iJ (su - tm)))]) (by simp) ?_
                    have z9 := ih_lp1 k2 ((su - tm)) fr (by omega) (by omega) (h9out)
                    exact z9
                  · have c13 : ¬ (((-1000000000 : Int64)).toInt ≤ (iJ (su - tm)).toInt ∧ (iJ (su - tm)).toInt ≤ ((1000000000 : Int64)).toInt) := c13
                    refine wn_ic (pc' := 180) (w := nI 0) rfl rfl (by decide) ?_
                    refine wn_iret rfl rfl (by decide) ⟨?_, rfl⟩
                    rw [hHo]
                    have h3 := hl_3 (sg := w (459 + 6 * l)) hI (by omega) (fun q => by omega) su fr (su - tm) (by rw [if_neg]; exact c10) (by rw [if_neg]; exact c10) (by rw [if_pos]; exact c11)
                    have i1 := hI.1
                    have i2 := hI.2.1
                    have i3 := hI.2.2.1
                    unfold rgF at i1
                    rw [iJ_int (by omega) (by omega)] at c13
                    have m1 : (-1000000000 : Int64).toInt = -1000000000 := by decide
                    have m2 : (1000000000 : Int64).toInt = 1000000000 := by decide
                    have h9n := h3.2 (fun q => by unfold rgF at q; omega)
                    exact congrArg (fun z => some (Value.int z)) (bI_f0 h9n)
              · have c10 : ((w (576 + 3 * k))) = ((nI (4))) := c10
                refine wn_ld (pc' := 139) (q := 8) (kin := 1) (v := .long (iJ su)) rfl (fun _ _ _ => rfl) rfl rfl ?_
                refine wn_st (pc' := 141) (q := 6) (kin := 1) (lv' := [(0, .ref (71)), (1, .int (nI (l))), (2, .int (nI (v))), (3, .int (nI (y))), (4, .int (nI (k2))), (5, .int (nI ((lwB w l) + (lwE w l - lwB w l)))), (6, .long (iJ su)), (8, .long (iJ su)), (10, .int (w (576 + 3 * k))), (11, .long (iJ tm))]) rfl (fun _ _ _ => rfl) rfl (Nat.le_of_ble_eq_true rfl) rfl ?_
                refine wn_pu (pc' := 142) (st' := .long (iJ 0) :: []) rfl (fun _ _ _ => rfl) rfl rfl ?_
                refine wn_st (pc' := 144) (q := 8) (kin := 1) (lv' := [(0, .ref (71)), (1, .int (nI (l))), (2, .int (nI (v))), (3, .int (nI (y))), (4, .int (nI (k2))), (5, .int (nI ((lwB w l) + (lwE w l - lwB w l)))), (6, .long (iJ su)), (8, .long (iJ 0)), (10, .int (w (576 + 3 * k))), (11, .long (iJ tm))]) rfl (fun _ _ _ => rfl) rfl (Nat.le_of_ble_eq_true rfl) rfl ?_
                refine wn_ld (pc' := 146) (q := 10) (kin := 0) (v := .int (w (576 + 3 * k))) rfl (fun _ _ _ => rfl) rfl rfl ?_
                refine wn_ic (pc' := 147) (w := nI 2) rfl rfl (by decide) ?_
                refine wn_icmp (t := 158) (f := 150) rfl rfl rfl (fun c14 => ?_) (fun c14 => ?_)
                · have c14 : ¬ ((w (576 + 3 * k))) = ((nI (2))) := c14
                  refine wn_ld (pc' := 160) (q := 8) (kin := 1) (v := .long (iJ 0)) rfl (fun _ _ _ => rfl) rfl rfl ?_
                  refine wn_ld (pc' := 162) (q := 11) (kin := 1) (v := .long (iJ tm)) rfl (fun _ _ _ => rfl) rfl rfl ?_
                  refine wn_laddJ (pc' := 163) rfl rfl ?_
                  refine wn_st (pc' := 165) (q := 8) (kin := 1) (lv' := [(0, .ref (71)), (1, .int (nI (l))), (2, .int (nI (v))), (3, .int (nI (y))), (4, .int (nI (k2))), (5, .int (nI ((lwB w l) + (lwE w l - lwB w l)))), (6, .long (iJ su)), (8, .long (iJ (0 + tm))), (10, .int (w (576 + 3 * k))), (11, .long (iJ tm))]) rfl (fun _ _ _ => rfl) rfl (Nat.le_of_ble_eq_true rfl) rfl ?_
                  refine wn_ld (pc' := 167) (q := 8) (kin := 1) (v := .long (iJ (0 + tm))) rfl (fun _ _ _ => rfl) rfl rfl ?_
                  refine wn_go (pc' := 170) (lv' := [(0, .ref (71)), (1, .int (nI (l))), (2, .int (nI (v))), (3, .int (nI (y))), (4, .int (nI (k2))), (5, .int (nI ((lwB w l) + (lwE w l - lwB w l)))), (6, .long (iJ su)), (8, .long (iJ (0 + tm))), (10, .int (w (576 + 3 * k))), (11, .long (iJ tm))]) (st' := [.long ((-1000000000 : Int64)), .long (iJ (0 + tm))]) rfl (fun _ _ _ k9 => k9) ?_
                  refine wn_go (pc' := 173) (lv' := [(0, .ref (71)), (1, .int (nI (l))), (2, .int (nI (v))), (3, .int (nI (y))), (4, .int (nI (k2))), (5, .int (nI ((lwB w l) + (lwE w l - lwB w l)))), (6, .long (iJ su)), (8, .long (iJ (0 + tm))), (10, .int (w (576 + 3 * k))), (11, .long (iJ tm))]) (st' := [.long ((1000000000 : Int64)), .long ((-1000000000 : Int64)), .long (iJ (0 + tm))]) rfl (fun _ _ _ k9 => k9) ?_
                  refine wn_staI (pc' := 176) rfl rfl (by decide) rfl rfl (Nat.le_of_ble_eq_true rfl) (m_in _ _ _ _ _) ?_
                  refine wn_ifneB (t := 181) (f := 179) rfl rfl rfl (fun c15 => ?_) (fun c15 => ?_)
                  · have c15 : (((-1000000000 : Int64)).toInt ≤ (iJ (0 + tm)).toInt ∧ (iJ (0 + tm)).toInt ≤ ((1000000000 : Int64)).toInt) := c15
                    refine wn_jp (pc' := 25) rfl rfl ?_
                    have h3 := hl_3 (sg := w (459 + 6 * l)) hI (by omega) (fun q => by omega) 0 su (0 + tm) (by rw [if_pos]; exact c10) (by rw [if_pos]; exact c10) (by rw [if_neg]; exact c14)
                    have i1 := hI.1
                    have i2 := hI.2.1
                    have i3 := hI.2.2.1
                    unfold rgF at i1
                    rw [iJ_int (by omega) (by omega)] at c15
                    have m1 : (-1000000000 : Int64).toInt = -1000000000 := by decide
                    have m2 : (1000000000 : Int64).toInt = 1000000000 := by decide
                    have h9out := h3.1 ⟨by omega, by omega⟩
                    refine wn_weak (lv' := [(0, .ref (71)), (1, .int (nI (l))), (2, .int (nI (v))), (3, .int (nI (y))), (4, .int (nI (k2))), (5, .int (nI ((lwB w l) + (lwE w l - lwB w l)))), (6, .long (iJ su)), (8, .long (iJ (0 + tm)))]) (by simp) ?_
                    have z9 := ih_lp1 k2 ((0 + tm)) su (by omega) (by omega) (h9out)
                    exact z9
                  · have c15 : ¬ (((-1000000000 : Int64)).toInt ≤ (iJ (0 + tm)).toInt ∧ (iJ (0 + tm)).toInt ≤ ((1000000000 : Int64)).toInt) := c15
                    refine wn_ic (pc' := 180) (w := nI 0) rfl rfl (by decide) ?_
                    refine wn_iret rfl rfl (by decide) ⟨?_, rfl⟩
                    rw [hHo]
                    have h3 := hl_3 (sg := w (459 + 6 * l)) hI (by omega) (fun q => by omega) 0 su (0 + tm) (by rw [if_pos]; exact c10) (by rw [if_pos]; exact c10) (by rw [if_neg]; exact c14)
                    have i1 := hI.1
                    have i2 := hI.2.1
                    have i3 := hI.2.2.1
                    unfold rgF at i1
                    rw [iJ_int (by omega) (by omega)] at c15
                    have m1 : (-1000000000 : Int64).toInt = -1000000000 := by decide
                    have m2 : (1000000000 : Int64).toInt = 1000000000 := by decide
                    have h9n := h3.2 (fun q => by unfold rgF at q; omega)
                    exact congrArg (fun z => some (Value.int z)) (bI_f0 h9n)
                · have c14 : ((w (576 + 3 * k))) = ((nI (2))) := c14
                  refine wn_ld (pc' := 152) (q := 8) (kin := 1) (v := .long (iJ 0)) rfl (fun _ _ _ => rfl) rfl rfl ?_
                  refine wn_ld (pc' := 154) (q := 11) (kin := 1) (v := .long (iJ tm)) rfl (fun _ _ _ => rfl) rfl rfl ?_
                  refine wn_lsubJ (pc' := 155) rfl rfl ?_
                  refine wn_jp (pc' := 163) rfl rfl ?_
                  refine wn_st (pc' := 165) (q := 8) (kin := 1) (lv' := [(0, .ref (71)), (1, .int (nI (l))), (2, .int (nI (v))), (3, .int (nI (y))), (4, .int (nI (k2))), (5, .int (nI ((lwB w l) + (lwE w l - lwB w l)))), (6, .long (iJ su)), (8, .long (iJ (0 - tm))), (10, .int (w (576 + 3 * k))), (11, .long (iJ tm))]) rfl (fun _ _ _ => rfl) rfl (Nat.le_of_ble_eq_true rfl) rfl ?_
                  refine wn_ld (pc' := 167) (q := 8) (kin := 1) (v := .long (iJ (0 - tm))) rfl (fun _ _ _ => rfl) rfl rfl ?_
                  refine wn_go (pc' := 170) (lv' := [(0, .ref (71)), (1, .int (nI (l))), (2, .int (nI (v))), (3, .int (nI (y))), (4, .int (nI (k2))), (5, .int (nI ((lwB w l) + (lwE w l - lwB w l)))), (6, .long (iJ su)), (8, .long (iJ (0 - tm))), (10, .int (w (576 + 3 * k))), (11, .long (iJ tm))]) (st' := [.long ((-1000000000 : Int64)), .long (iJ (0 - tm))]) rfl (fun _ _ _ k9 => k9) ?_
                  refine wn_go (pc' := 173) (lv' := [(0, .ref (71)), (1, .int (nI (l))), (2, .int (nI (v))), (3, .int (nI (y))), (4, .int (nI (k2))), (5, .int (nI ((lwB w l) + (lwE w l - lwB w l)))), (6, .long (iJ su)), (8, .long (iJ (0 - tm))), (10, .int (w (576 + 3 * k))), (11, .long (iJ tm))]) (st' := [.long ((1000000000 : Int64)), .long ((-1000000000 : Int64)), .long (iJ (0 - tm))]) rfl (fun _ _ _ k9 => k9) ?_
                  refine wn_staI (pc' := 176) rfl rfl (by decide) rfl rfl (Nat.le_of_ble_eq_true rfl) (m_in _ _ _ _ _) ?_
                  refine wn_ifneB (t := 181) (f := 179) rfl rfl rfl (fun c16 => ?_) (fun c16 => ?_)
                  · have c16 : (((-1000000000 : Int64)).toInt ≤ (iJ (0 - tm)).toInt ∧ (iJ (0 - tm)).toInt ≤ ((1000000000 : Int64)).toInt) := c16
                    refine wn_jp (pc' := 25) rfl rfl ?_
                    have h3 := hl_3 (sg := w (459 + 6 * l)) hI (by omega) (fun q => by omega) 0 su (0 - tm) (by rw [if_pos]; exact c10) (by rw [if_pos]; exact c10) (by rw [if_pos]; exact c14)
                    have i1 := hI.1
                    have i2 := hI.2.1
                    have i3 := hI.2.2.1
                    unfold rgF at i1
                    rw [iJ_int (by omega) (by omega)] at c16
                    have m1 : (-1000000000 : Int64).toInt = -1000000000 := by decide
                    have m2 : (1000000000 : Int64).toInt = 1000000000 := by decide
                    have h9out := h3.1 ⟨by omega, by omega⟩
                    refine wn_weak (lv' := [(0, .ref (71)), (1, .int (nI (l))), (2, .int (nI (v))), (3, .int (nI (y))), (4, .int (nI (k2))), (5, .int (nI ((lwB w l) + (lwE w l - lwB w l)))), (6, .long (iJ su)), (8, .long (iJ (0 - tm)))]) (by simp) ?_
                    have z9 := ih_lp1 k2 ((0 - tm)) su (by omega) (by omega) (h9out)
                    exact z9
                  · have c16 : ¬ (((-1000000000 : Int64)).toInt ≤ (iJ (0 - tm)).toInt ∧ (iJ (0 - tm)).toInt ≤ ((1000000000 : Int64)).toInt) := c16
                    refine wn_ic (pc' := 180) (w := nI 0) rfl rfl (by decide) ?_
                    refine wn_iret rfl rfl (by decide) ⟨?_, rfl⟩
                    rw [hHo]
                    have h3 := hl_3 (sg := w (459 + 6 * l)) hI (by omega) (fun q => by omega) 0 su (0 - tm) (by rw [if_pos]; exact c10) (by rw [if_pos]; exact c10) (by rw [if_pos]; exact c14)
                    have i1 := hI.1
                    have i2 := hI.2.1
                    have i3 := hI.2.2.1
                    unfold rgF at i1
                    rw [iJ_int (by omega) (by omega)] at c16
                    have m1 : (-1000000000 : Int64).toInt = -1000000000 := by decide
                    have m2 : (1000000000 : Int64).toInt = 1000000000 := by decide
                    have h9n := h3.2 (fun q => by unfold rgF at q; omega)
                    exact congrArg (fun z => some (Value.int z)) (bI_f0 h9n)
            · have c9 : k2 < ((lwB w l) + (lwE w l - lwB w l)) := c9
              refine wn_ld (pc' := 74) (q := 0) (kin := 2) (v := .ref (71)) rfl (fun _ _ _ => rfl) rfl rfl ?_
              refine wn_get (pc' := 77) (v := .ref (72)) rfl rfl hM rfl ?_
              refine wn_sp (pc' := 80) (w := nI 576) rfl rfl (by decide) ?_
              refine wn_ic (pc' := 81) (w := nI 3) rfl rfl (by decide) ?_
              refine wn_ld (pc' := 83) (q := 4) (kin := 0) (v := .int (nI (k2))) rfl (fun _ _ _ => rfl) rfl rfl ?_
              refine wn_mulN (pc' := 84) rfl rfl ?_
              refine wn_addN (pc' := 85) rfl rfl ?_
              refine wn_ialdv (pc' := 86) (j := 576 + (3 * k2)) (v := (w (576 + 3 * k2))) rfl rfl hW rfl (by omega) (by decide) (rfl) ?_
              refine wn_ic (pc' := 87) (w := nI 3) rfl rfl (by decide) ?_
              refine wn_icmp (t := 131) (f := 90) rfl rfl rfl (fun c17 => ?_) (fun c17 => ?_)
              · have c17 : ¬ ((w (576 + 3 * k2))) = ((nI (3))) := c17
                refine wn_ld (pc' := 133) (q := 10) (kin := 0) (v := .int (w (576 + 3 * k))) rfl (fun _ _ _ => rfl) rfl rfl ?_
                refine wn_ic (pc' := 134) (w := nI 4) rfl rfl (by decide) ?_
                refine wn_icmp (t := 144) (f := 137) rfl rfl rfl (fun c18 => ?_) (fun c18 => ?_)
                · have c18 : ¬ ((w (576 + 3 * k))) = ((nI (4))) := c18
                  refine wn_ld (pc' := 146) (q := 10) (kin := 0) (v := .int (w (576 + 3 * k))) rfl (fun _ _ _ => rfl) rfl rfl ?_
                  refine wn_ic (pc' := 147) (w := nI 2) rfl rfl (by decide) ?_
                  refine wn_icmp (t := 158) (f := 150) rfl rfl rfl (fun c19 => ?_) (fun c19 => ?_)
                  · have c19 : ¬ ((w (576 + 3 * k))) = ((nI (2))) := c19
                    refine wn_ld (pc' := 160) (q := 8) (kin := 1) (v := .long (iJ su)) rfl (fun _ _ _ => rfl) rfl rfl ?_
                    refine wn_ld (pc' := 162) (q := 11) (kin := 1) (v := .long (iJ tm)) rfl (fun _ _ _ => rfl) rfl rfl ?_
                    refine wn_laddJ (pc' := 163) rfl rfl ?_
                    refine wn_st (pc' := 165) (q := 8) (kin := 1) (lv' := [(0, .ref (71)), (1, .int (nI (l))), (2, .int (nI (v))), (3, .int (nI (y))), (4, .int (nI (k2))), (5, .int (nI ((lwB w l) + (lwE w l - lwB w l)))), (6, .long (iJ fr)), (8, .long (iJ (su + tm))), (10, .int (w (576 + 3 * k))), (11, .long (iJ tm))]) rfl (fun _ _ _ => rfl) rfl (Nat.le_of_ble_eq_true rfl) rfl ?_
                    refine wn_ld (pc' := 167) (q := 8) (kin := 1) (v := .long (iJ (su + tm))) rfl (fun _ _ _ => rfl) rfl rfl ?_
                    refine wn_go (pc' := 170) (lv' := [(0, .ref (71)), (1, .int (nI (l))), (2, .int (nI (v))), (3, .int (nI (y))), (4, .int (nI (k2))), (5, .int (nI ((lwB w l) + (lwE w l - lwB w l)))), (6, .long (iJ fr)), (8, .long (iJ (su + tm))), (10, .int (w (576 + 3 * k))), (11, .long (iJ tm))]) (st' := [.long ((-1000000000 : Int64)), .long (iJ (su + tm))]) rfl (fun _ _ _ k9 => k9) ?_
                    refine wn_go (pc' := 173) (lv' := [(0, .ref (71)), (1, .int (nI (l))), (2, .int (nI (v))), (3, .int (nI (y))), (4, .int (nI (k2))), (5, .int (nI ((lwB w l) + (lwE w l - lwB w l)))), (6, .long (iJ fr)), (8, .long (iJ (su + tm))), (10, .int (w (576 + 3 * k))), (11, .long (iJ tm))]) (st' := [.long ((1000000000 : Int64)), .long ((-1000000000 : Int64)), .long (iJ (su + tm))]) rfl (fun _ _ _ k9 => k9) ?_
                    refine wn_staI (pc' := 176) rfl rfl (by decide) rfl rfl (Nat.le_of_ble_eq_true rfl) (m_in _ _ _ _ _) ?_
                    refine wn_ifneB (t := 181) (f := 179) rfl rfl rfl (fun c20 => ?_) (fun c20 => ?_)
                    · have c20 : (((-1000000000 : Int64)).toInt ≤ (iJ (su + tm)).toInt ∧ (iJ (su + tm)).toInt ≤ ((1000000000 : Int64)).toInt) := c20
                      refine wn_jp (pc' := 25) rfl rfl ?_
                      have h3 := hl_3 (sg := w (459 + 6 * l)) hI (by omega) (fun _ => c17) su fr (su + tm) (by rw [if_neg]; exact c18) (by rw [if_neg]; exact c18) (by rw [if_neg]; exact c19)
                      have i1 := hI.1
                      have i2 := hI.2.1
                      have i3 := hI.2.2.1
                      unfold rgF at i1
                      rw [iJ_int (by omega) (by omega)] at c20
                      have m1 : (-1000000000 : Int64).toInt = -1000000000 := by decide
                      have m2 : (1000000000 : Int64).toInt = 1000000000 := by decide
                      have h9out := h3.1 ⟨by omega, by omega⟩
                      refine wn_weak (lv' := [(0, .ref (71)), (1, .int (nI (l))), (2, .int (nI (v))), (3, .int (nI (y))), (4, .int (nI (k2))), (5, .int (nI ((lwB w l) + (lwE w l - lwB w l)))), (6, .long (iJ fr)), (8, .long (iJ (su + tm)))]) (by simp) ?_
                      have z9 := ih_lp1 k2 ((su + tm)) fr (by omega) (by omega) (h9out)
                      exact z9
                    · have c20 : ¬ (((-1000000000 : Int64)).toInt ≤ (iJ (su + tm)).toInt ∧ (iJ (su + tm)).toInt ≤ ((1000000000 : Int64)).toInt) := c20
                      refine wn_ic (pc' := 180) (w := nI 0) rfl rfl (by decide) ?_
                      refine wn_iret rfl rfl (by decide) ⟨?_, rfl⟩
                      rw [hHo]
                      have h3 := hl_3 (sg := w (459 + 6 * l)) hI (by omega) (fun _ => c17) su fr (su + tm) (by rw [if_neg]; exact c18) (by rw [if_neg]; exact c18) (by rw [if_neg]; exact c19)
                      have i1 := hI.1
                      have i2 := hI.2.1
                      have i3 := hI.2.2.1
                      unfold rgF at i1
                      rw [iJ_int (by omega) (by omega)] at c20
                      have m1 : (-1000000000 : Int64).toInt = -1000000000 := by decide
                      have m2 : (1000000000 : Int64).toInt = 1000000000 := by decide
                      have h9n := h3.2 (fun q => by unfold rgF at q; omega)
                      exact congrArg (fun z => some (Value.int z)) (bI_f0 h9n)
                  · have c19 : ((w (576 + 3 * k))) = ((nI (2))) := c19
                    refine wn_ld (pc' := 152) (q := 8) (kin := 1) (v := .long (iJ su)) rfl (fun _ _ _ => rfl) rfl rfl ?_
                    refine wn_ld (pc' := 154) (q := 11) (kin := 1) (v := .long (iJ tm)) rfl (fun _ _ _ => rfl) rfl rfl ?_
                    refine wn_lsubJ (pc' := 155) rfl rfl ?_
                    refine wn_jp (pc' := 163) rfl rfl ?_
                    refine wn_st (pc' := 165) (q := 8) (kin := 1) (lv' := [(0, .ref (71)), (1, .int (nI (l))), (2, .int (nI (v))), (3, .int (nI (y))), (4, .int (nI (k2))), (5, .int (nI ((lwB w l) + (lwE w l - lwB w l)))), (6, .long (iJ fr)), (8, .long (iJ (su - tm))), (10, .int (w (576 + 3 * k))), (11, .long (iJ tm))]) rfl (fun _ _ _ => rfl) rfl (Nat.le_of_ble_eq_true rfl) rfl ?_
                    refine wn_ld (pc' := 167) (q := 8) (kin := 1) (v := .long (iJ (su - tm))) rfl (fun _ _ _ => rfl) rfl rfl ?_
                    refine wn_go (pc' := 170) (lv' := [(0, .ref (71)), (1, .int (nI (l))), (2, .int (nI (v))), (3, .int (nI (y))), (4, .int (nI (k2))), (5, .int (nI ((lwB w l) + (lwE w l - lwB w l)))), (6, .long (iJ fr)), (8, .long (iJ (su - tm))), (10, .int (w (576 + 3 * k))), (11, .long (iJ tm))]) (st' := [.long ((-1000000000 : Int64)), .long (iJ (su - tm))]) rfl (fun _ _ _ k9 => k9) ?_
                    refine wn_go (pc' := 173) (lv' := [(0, .ref (71)), (1, .int (nI (l))), (2, .int (nI (v))), (3, .int (nI (y))), (4, .int (nI (k2))), (5, .int (nI ((lwB w l) + (lwE w l - lwB w l)))), (6, .long (iJ fr)), (8, .long (iJ (su - tm))), (10, .int (w (576 + 3 * k))), (11, .long (iJ tm))]) (st' := [.long ((1000000000 : Int64)), .long ((-1000000000 : Int64)), .long (iJ (su - tm))]) rfl (fun _ _ _ k9 => k9) ?_
                    refine wn_staI (pc' := 176) rfl rfl (by decide) rfl rfl (Nat.le_of_ble_eq_true rfl) (m_in _ _ _ _ _) ?_
                    refine wn_ifneB (t := 181) (f := 179) rfl rfl rfl (fun c21 => ?_) (fun c21 => ?_)
                    · have c21 : (((-1000000000 : Int64)).toInt ≤ (iJ (su - tm)).toInt ∧ (iJ (su - tm)).toInt ≤ ((1000000000 : Int64)).toInt) := c21
                      refine wn_jp (pc' := 25) rfl rfl ?_
                      have h3 := hl_3 (sg := w (459 + 6 * l)) hI (by omega) (fun _ => c17) su fr (su - tm) (by rw [if_neg]; exact c18) (by rw [if_neg]; exact c18) (by rw [if_pos]; exact c19)
                      have i1 := hI.1
                      have i2 := hI.2.1
                      have i3 := hI.2.2.1
                      unfold rgF at i1
                      rw [iJ_int (by omega) (by omega)] at c21
                      have m1 : (-1000000000 : Int64).toInt = -1000000000 := by decide
                      have m2 : (1000000000 : Int64).toInt = 1000000000 := by decide
                      have h9out := h3.1 ⟨by omega, by omega⟩
                      refine wn_weak (lv' := [(0, .ref (71)), (1, .int (nI (l))), (2, .int (nI (v))), (3, .int (nI (y))), (4, .int (nI (k2))), (5, .int (nI ((lwB w l) + (lwE w l - lwB w l)))), (6, .long (iJ fr)), (8, .long (iJ (su - tm)))]) (by simp) ?_
                      have z9 := ih_lp1 k2 ((su - tm)) fr (by omega) (by omega) (h9out)
                      exact z9
                    · have c21 : ¬ (((-1000000000 : Int64)).toInt ≤ (iJ (su - tm)).toInt ∧ (iJ (su - tm)).toInt ≤ ((1000000000 : Int64)).toInt) := c21
                      refine wn_ic (pc' := 180) (w := nI 0) rfl rfl (by decide) ?_
                      refine wn_iret rfl rfl (by decide) ⟨?_, rfl⟩
                      rw [hHo]
                      have h3 := hl_3 (sg := w (459 + 6 * l)) hI (by omega) (fun _ => c17) su fr (su - tm) (by rw [if_neg]; exact c18) (by rw [if_neg]; exact c18) (by rw [if_pos]; exact c19)
                      have i1 := hI.1
                      have i2 := hI.2.1
                      have i3 := hI.2.2.1
                      unfold rgF at i1
                      rw [iJ_int (by omega) (by omega)] at c21
                      have m1 : (-1000000000 : Int64).toInt = -1000000000 := by decide
                      have m2 : (1000000000 : Int64).toInt = 1000000000 := by decide
                      have h9n := h3.2 (fun q => by unfold rgF at q; omega)
                      exact congrArg (fun z => some (Value.int z)) (bI_f0 h9n)
                · have c18 : ((w (576 + 3 * k))) = ((nI (4))) := c18
                  refine wn_ld (pc' := 139) (q := 8) (kin := 1) (v := .long (iJ su)) rfl (fun _ _ _ => rfl) rfl rfl ?_
                  refine wn_st (pc' := 141) (q := 6) (kin := 1) (lv' := [(0, .ref (71)), (1, .int (nI (l))), (2, .int (nI (v))), (3, .int (nI (y))), (4, .int (nI (k2))), (5, .int (nI ((lwB w l) + (lwE w l - lwB w l)))), (6, .long (iJ su)), (8, .long (iJ su)), (10, .int (w (576 + 3 * k))), (11, .long (iJ tm))]) rfl (fun _ _ _ => rfl) rfl (Nat.le_of_ble_eq_true rfl) rfl ?_
                  refine wn_pu (pc' := 142) (st' := .long (iJ 0) :: []) rfl (fun _ _ _ => rfl) rfl rfl ?_
                  refine wn_st (pc' := 144) (q := 8) (kin := 1) (lv' := [(0, .ref (71)), (1, .int (nI (l))), (2, .int (nI (v))), (3, .int (nI (y))), (4, .int (nI (k2))), (5, .int (nI ((lwB w l) + (lwE w l - lwB w l)))), (6, .long (iJ su)), (8, .long (iJ 0)), (10, .int (w (576 + 3 * k))), (11, .long (iJ tm))]) rfl (fun _ _ _ => rfl) rfl (Nat.le_of_ble_eq_true rfl) rfl ?_
                  refine wn_ld (pc' := 146) (q := 10) (kin := 0) (v := .int (w (576 + 3 * k))) rfl (fun _ _ _ => rfl) rfl rfl ?_
                  refine wn_ic (pc' := 147) (w := nI 2) rfl rfl (by decide) ?_
                  refine wn_icmp (t := 158) (f := 150) rfl rfl rfl (fun c22 => ?_) (fun c22 => ?_)
                  · have c22 : ¬ ((w (576 + 3 * k))) = ((nI (2))) := c22
                    refine wn_ld (pc' := 160) (q := 8) (kin := 1) (v := .long (iJ 0)) rfl (fun _ _ _ => rfl) rfl rfl ?_
                    refine wn_ld (pc' := 162) (q := 11) (kin := 1) (v := .long (iJ tm)) rfl (fun _ _ _ => rfl) rfl rfl ?_
                    refine wn_laddJ (pc' := 163) rfl rfl ?_
                    refine wn_st (pc' := 165) (q := 8) (kin := 1) (lv' := [(0, .ref (71)), (1, .int (nI (l))), (2, .int (nI (v))), (3, .int (nI (y))), (4, .int (nI (k2))), (5, .int (nI ((lwB w l) + (lwE w l - lwB w l)))), (6, .long (iJ su)), (8, .long (iJ (0 + tm))), (10, .int (w (576 + 3 * k))), (11, .long (iJ tm))]) rfl (fun _ _ _ => rfl) rfl (Nat.le_of_ble_eq_true rfl) rfl ?_
                    refine wn_ld (pc' := 167) (q := 8) (kin := 1) (v := .long (iJ (0 + tm))) rfl (fun _ _ _ => rfl) rfl rfl ?_
                    refine wn_go (pc' := 170) (lv' := [(0, .ref (71)), (1, .int (nI (l))), (2, .int (nI (v))), (3, .int (nI (y))), (4, .int (nI (k2))), (5, .int (nI ((lwB w l) + (lwE w l - lwB w l)))), (6, .long (iJ su)), (8, .long (iJ (0 + tm))), (10, .int (w (576 + 3 * k))), (11, .long (iJ tm))]) (st' := [.long ((-1000000000 : Int64)), .long (iJ (0 + tm))]) rfl (fun _ _ _ k9 => k9) ?_
                    refine wn_go (pc' := 173) (lv' := [(0, .ref (71)), (1, .int (nI (l))), (2, .int (nI (v))), (3, .int (nI (y))), (4, .int (nI (k2))), (5, .int (nI ((lwB w l) + (lwE w l - lwB w l)))), (6, .long (iJ su)), (8, .long (iJ (0 + tm))), (10, .int (w (576 + 3 * k))), (11, .long (iJ tm))]) (st' := [.long ((1000000000 : Int64)), .long ((-1000000000 : Int64)), .long (iJ (0 + tm))]) rfl (fun _ _ _ k9 => k9) ?_
                    refine wn_staI (pc' := 176) rfl rfl (by decide) rfl rfl (Nat.le_of_ble_eq_true rfl) (m_in _ _ _ _ _) ?_
                    refine wn_ifneB (t := 181) (f := 179) rfl rfl rfl (fun c23 => ?_) (fun c23 => ?_)
                    · have c23 : (((-1000000000 : Int64)).toInt ≤ (iJ (0 + tm)).toInt ∧ (iJ (0 + tm)).toInt ≤ ((1000000000 : Int64)).toInt) := c23
                      refine wn_jp (pc' := 25) rfl rfl ?_
                      have h3 := hl_3 (sg := w (459 + 6 * l)) hI (by omega) (fun _ => c17) 0 su (0 + tm) (by rw [if_pos]; exact c18) (by rw [if_pos]; exact c18) (by rw [if_neg]; exact c22)
                      have i1 := hI.1
                      have i2 := hI.2.1
                      have i3 := hI.2.2.1
                      unfold rgF at i1
                      rw [iJ_int (by omega) (by omega)] at c23
                      have m1 : (-1000000000 : Int64).toInt = -1000000000 := by decide
                      have m2 : (1000000000 : Int64).toInt = 1000000000 := by decide
                      have h9out := h3.1 ⟨by omega, by omega⟩
                      refine wn_weak (lv' := [(0, .ref (71)), (1, .int (nI (l))), (2, .int (nI (v))), (3, .int (nI (y))), (4, .int (nI (k2))), (5, .int (nI ((lwB w l) + (lwE w l - lwB w l)))), (6, .long (iJ su)), (8, .long (iJ (0 + tm)))]) (by simp) ?_
                      have z9 := ih_lp1 k2 ((0 + tm)) su (by omega) (by omega) (h9out)
                      exact z9
                    · have c23 : ¬ (((-1000000000 : Int64)).toInt ≤ (iJ (0 + tm)).toInt ∧ (iJ (0 + tm)).toInt ≤ ((1000000000 : Int64)).toInt) := c23
                      refine wn_ic (pc' := 180) (w := nI 0) rfl rfl (by decide) ?_
                      refine wn_iret rfl rfl (by decide) ⟨?_, rfl⟩
                      rw [hHo]
                      have h3 := hl_3 (sg := w (459 + 6 * l)) hI (by omega) (fun _ => c17) 0 su (0 + tm) (by rw [if_pos]; exact c18) (by rw [if_pos]; exact c18) (by rw [if_neg]; exact c22)
                      have i1 := hI.1
                      have i2 := hI.2.1
                      have i3 := hI.2.2.1
                      unfold rgF at i1
                      rw [iJ_int (by omega) (by omega)] at c23
                      have m1 : (-1000000000 : Int64).toInt = -1000000000 := by decide
                      have m2 : (1000000000 : Int64).toInt = 1000000000 := by decide
                      have h9n := h3.2 (fun q => by unfold rgF at q; omega)
                      exact congrArg (fun z => some (Value.int z)) (bI_f0 h9n)
                  · have c22 : ((w (576 + 3 * k))) = ((nI (2))) := c22
                    refine wn_ld (pc' := 152) (q := 8) (kin := 1) (v := .long (iJ 0)) rfl (fun _ _ _ => rfl) rfl rfl ?_
                    refine wn_ld (pc' := 154) (q := 11) (kin := 1) (v := .long (iJ tm)) rfl (fun _ _ _ => rfl) rfl rfl ?_
                    refine wn_lsubJ (pc' := 155) rfl rfl ?_
                    refine wn_jp (pc' := 163) rfl rfl ?_
                    refine wn_st (pc' := 165) (q := 8) (kin := 1) (lv' := [(0, .ref (71)), (1, .int (nI (l))), (2, .int (nI (v))), (3, .int (nI (y))), (4, .int (nI (k2))), (5, .int (nI ((lwB w l) + (lwE w l - lwB w l)))), (6, .long (iJ su)), (8, .long (iJ (0 - tm))), (10, .int (w (576 + 3 * k))), (11, .long (iJ tm))]) rfl (fun _ _ _ => rfl) rfl (Nat.le_of_ble_eq_true rfl) rfl ?_
                    refine wn_ld (pc' := 167) (q := 8) (kin := 1) (v := .long (iJ (0 - tm))) rfl (fun _ _ _ => rfl) rfl rfl ?_
                    refine wn_go (pc' := 170) (lv' := [(0, .ref (71)), (1, .int (nI (l))), (2, .int (nI (v))), (3, .int (nI (y))), (4, .int (nI (k2))), (5, .int (nI ((lwB w l) + (lwE w l - lwB w l)))), (6, .long (iJ su)), (8, .long (iJ (0 - tm))), (10, .int (w (576 + 3 * k))), (11, .long (iJ tm))]) (st' := [.long ((-1000000000 : Int64)), .long (iJ (0 - tm))]) rfl (fun _ _ _ k9 => k9) ?_
                    refine wn_go (pc' := 173) (lv' := [(0, .ref (71)), (1, .int (nI (l))), (2, .int (nI (v))), (3, .int (nI (y))), (4, .int (nI (k2))), (5, .int (nI ((lwB w l) + (lwE w l - lwB w l)))), (6, .long (iJ su)), (8, .long (iJ (0 - tm))), (10, .int (w (576 + 3 * k))), (11, .long (iJ tm))]) (st' := [.long ((1000000000 : Int64)), .long ((-1000000000 : Int64)), .long (iJ (0 - tm))]) rfl (fun _ _ _ k9 => k9) ?_
                    refine wn_staI (pc' := 176) rfl rfl (by decide) rfl rfl (Nat.le_of_ble_eq_true rfl) (m_in _ _ _ _ _) ?_
                    refine wn_ifneB (t := 181) (f := 179) rfl rfl rfl (fun c24 => ?_) (fun c24 => ?_)
                    · have c24 : (((-1000000000 : Int64)).toInt ≤ (iJ (0 - tm)).toInt ∧ (iJ (0 - tm)).toInt ≤ ((1000000000 : Int64)).toInt) := c24
                      refine wn_jp (pc' := 25) rfl rfl ?_
                      have h3 := hl_3 (sg := w (459 + 6 * l)) hI (by omega) (fun _ => c17) 0 su (0 - tm) (by rw [if_pos]; exact c18) (by rw [if_pos]; exact c18) (by rw [if_pos]; exact c22)
                      have i1 := hI.1
                      have i2 := hI.2.1
                      have i3 := hI.2.2.1
                      unfold rgF at i1
                      rw [iJ_int (by omega) (by omega)] at c24
                      have m1 : (-1000000000 : Int64).toInt = -1000000000 := by decide
                      have m2 : (1000000000 : Int64).toInt = 1000000000 := by decide
                      have h9out := h3.1 ⟨by omega, by omega⟩
                      refine wn_weak (lv' := [(0, .ref (71)), (1, .int (nI (l))), (2, .int (nI (v))), (3, .int (nI (y))), (4, .int (nI (k2))), (5, .int (nI ((lwB w l) + (lwE w l - lwB w l)))), (6, .long (iJ su)), (8, .long (iJ (0 - tm)))]) (by simp) ?_
                      have z9 := ih_lp1 k2 ((0 - tm)) su (by omega) (by omega) (h9out)
                      exact z9
                    · have c24 : ¬ (((-1000000000 : Int64)).toInt ≤ (iJ (0 - tm)).toInt ∧ (iJ (0 - tm)).toInt ≤ ((1000000000 : Int64)).toInt) := c24
                      refine wn_ic (pc' := 180) (w := nI 0) rfl rfl (by decide) ?_
                      refine wn_iret rfl rfl (by decide) ⟨?_, rfl⟩
                      rw [hHo]
                      have h3 := hl_3 (sg := w (459 + 6 * l)) hI (by omega) (fun _ => c17) 0 su (0 - tm) (by rw [if_pos]; exact c18) (by rw [if_pos]; exact c18) (by rw [if_pos]; exact c22)
                      have i1 := hI.1
                      have i2 := hI.2.1
                      have i3 := hI.2.2.1
                      unfold rgF at i1
                      rw [iJ_int (by omega) (by omega)] at c24
                      have m1 : (-1000000000 : Int64).toInt = -1000000000 := by decide
                      have m2 : (1000000000 : Int64).toInt = 1000000000 := by decide
                      have h9n := h3.2 (fun q => by unfold rgF at q; omega)
                      exact congrArg (fun z => some (Value.int z)) (bI_f0 h9n)
              · have c17 : ((w (576 + 3 * k2))) = ((nI (3))) := c17
                refine wn_ld (pc' := 92) (q := 11) (kin := 1) (v := .long (iJ tm)) rfl (fun _ _ _ => rfl) rfl rfl ?_
                refine wn_ld (pc' := 93) (q := 0) (kin := 2) (v := .ref (71)) rfl (fun _ _ _ => rfl) rfl rfl ?_
                refine wn_ld (pc' := 95) (q := 4) (kin := 0) (v := .int (nI (k2))) rfl (fun _ _ _ => rfl) rfl rfl ?_
                refine wn_ld (pc' := 96) (q := 2) (kin := 0) (v := .int (nI (v))) rfl (fun _ _ _ => rfl) rfl rfl ?_
                refine wn_ld (pc' := 97) (q := 0) (kin := 2) (v := .ref (71)) rfl (fun _ _ _ => rfl) rfl rfl ?_
                refine wn_ld (pc' := 98) (q := 1) (kin := 0) (v := .int (nI (l))) rfl (fun _ _ _ => rfl) rfl rfl ?_
                refine wn_ic (pc' := 99) (w := nI 0) rfl rfl (by decide) ?_
                refine wn_virI (pc' := 102) rfl rfl (by decide) rfl rfl hM (Nat.le_of_ble_eq_true rfl) (m_ofLaw _ _ w HM l 0 (by omega)) ?_
                rw [show 456 + 6 * l + 0 = 456 + 6 * l by omega, a1]
                refine wn_ld (pc' := 103) (q := 3) (kin := 0) (v := .int (nI (y))) rfl (fun _ _ _ => rfl) rfl rfl ?_
                have := ptW_le hWf (S := S) (y := y) (i := i) (show v < nvW w by omega) (by omega) (show k2 < npW w by omega)
                refine wn_virL (pc' := 106) rfl rfl (by decide) rfl rfl hM (Nat.le_of_ble_eq_true rfl) (m_partOf _ _ w hWf HM S y (by omega) HS hS k2 v i (by omega) (by omega) (by omega)) ?_
                rw [lN_iJ]
                refine wn_lmulJ (pc' := 107) rfl rfl ?_
                refine wn_st (pc' := 109) (q := 11) (kin := 1) (lv' := [(0, .ref (71)), (1, .int (nI (l))), (2, .int (nI (v))), (3, .int (nI (y))), (4, .int (nI (k2))), (5, .int (nI ((lwB w l) + (lwE w l - lwB w l)))), (6, .long (iJ fr)), (8, .long (iJ su)), (10, .int (w (576 + 3 * k))), (11, .long (iJ (tm * ((((ptW w S y v i k2)) : Int)))))]) rfl (fun _ _ _ => rfl) rfl (Nat.le_of_ble_eq_true rfl) rfl ?_
                refine wn_ld (pc' := 111) (q := 11) (kin := 1) (v := .long (iJ (tm * ((((ptW w S y v i k2)) : Int))))) rfl (fun _ _ _ => rfl) rfl rfl ?_
                refine wn_go (pc' := 114) (lv' := [(0, .ref (71)), (1, .int (nI (l))), (2, .int (nI (v))), (3, .int (nI (y))), (4, .int (nI (k2))), (5, .int (nI ((lwB w l) + (lwE w l - lwB w l)))), (6, .long (iJ fr)), (8, .long (iJ su)), (10, .int (w (576 + 3 * k))), (11, .long (iJ (tm * ((((ptW w S y v i k2)) : Int)))))]) (st' := [.long ((-1000000000 : Int64)), .long (iJ (tm * ((((ptW w S y v i k2)) : Int))))]) rfl (fun _ _ _ k9 => k9) ?_
                refine wn_go (pc' := 117) (lv' := [(0, .ref (71)), (1, .int (nI (l))), (2, .int (nI (v))), (3, .int (nI (y))), (4, .int (nI (k2))), (5, .int (nI ((lwB w l) + (lwE w l - lwB w l)))), (6, .long (iJ fr)), (8, .long (iJ su)), (10, .int (w (576 + 3 * k))), (11, .long (iJ (tm * ((((ptW w S y v i k2)) : Int)))))]) (st' := [.long ((1000000000 : Int64)), .long ((-1000000000 : Int64)), .long (iJ (tm * ((((ptW w S y v i k2)) : Int))))]) rfl (fun _ _ _ k9 => k9) ?_
                refine wn_staI (pc' := 120) rfl rfl (by decide) rfl rfl (Nat.le_of_ble_eq_true rfl) (m_in _ _ _ _ _) ?_
                refine wn_ifneB (t := 125) (f := 123) rfl rfl rfl (fun c25 => ?_) (fun c25 => ?_)
                · have c25 : (((-1000000000 : Int64)).toInt ≤ (iJ (tm * ((((ptW w S y v i k2)) : Int)))).toInt ∧ (iJ (tm * ((((ptW w S y v i k2)) : Int)))).toInt ≤ ((1000000000 : Int64)).toInt) := c25
                  refine wn_incN (n := 1) (pc' := 128) (lv' := [(0, .ref (71)), (1, .int (nI (l))), (2, .int (nI (v))), (3, .int (nI (y))), (4, .int (nI (k2 + 1))), (5, .int (nI ((lwB w l) + (lwE w l - lwB w l)))), (6, .long (iJ fr)), (8, .long (iJ su)), (10, .int (w (576 + 3 * k))), (11, .long (iJ (tm * ((((ptW w S y v i k2)) : Int)))))]) rfl rfl rfl (Nat.le_of_ble_eq_true rfl) rfl (by decide) ?_
                  refine wn_jp (pc' := 66) rfl rfl ?_
                  have i1 := hI.1
                  have i2 := hI.2.1
                  have i3 := hI.2.2.1
                  have i4 := ptW_le hWf (S := S) (y := y) (i := i) hv (by omega) (show k2 < npW w by omega)
                  have i5 : tm * (ptW w S y v i k2 : Int) ≤ 1000000000 * 4000 := Int.mul_le_mul i3 (by omega) (by omega) (by omega)
                  have i6 : 0 ≤ tm * (ptW w S y v i k2 : Int) := Int.mul_nonneg i2 (by omega)
                  rw [iJ_int (by omega) (by omega)] at c25
                  have m2 : (1000000000 : Int64).toInt = 1000000000 := by decide
                  refine wn_weak (lv' := [(0, .ref (71)), (1, .int (nI (l))), (2, .int (nI (v))), (3, .int (nI (y))), (4, .int (nI (k2 + 1))), (5, .int (nI ((lwB w l) + (lwE w l - lwB w l)))), (6, .long (iJ fr)), (8, .long (iJ su)), (10, .int (w (576 + 3 * k))), (11, .long (iJ (tm * ((((ptW w S y v i k2)) : Int)))))]) (by simp) ?_
                  have z9 := ih_lp8 (k2 + 1) ((tm * ((((ptW w S y v i k2)) : Int)))) (by omega) (by omega) (by omega) (hl_2 hI (by omega) c17 a10 (by omega))
                  exact z9
                · have c25 : ¬ (((-1000000000 : Int64)).toInt ≤ (iJ (tm * ((((ptW w S y v i k2)) : Int)))).toInt ∧ (iJ (tm * ((((ptW w S y v i k2)) : Int)))).toInt ≤ ((1000000000 : Int64)).toInt) := c25
                  refine wn_ic (pc' := 124) (w := nI 0) rfl rfl (by decide) ?_
                  refine wn_iret rfl rfl (by decide) ⟨?_, rfl⟩
                  rw [hHo]
                  have i1 := hI.1
                  have i2 := hI.2.1
                  have i3 := hI.2.2.1
                  have i4 := ptW_le hWf (S := S) (y := y) (i := i) hv (by omega) (show k2 < npW w by omega)
                  have i5 : tm * (ptW w S y v i k2 : Int) ≤ 1000000000 * 4000 := Int.mul_le_mul i3 (by omega) (by omega) (by omega)
                  have i6 : 0 ≤ tm * (ptW w S y v i k2 : Int) := Int.mul_nonneg i2 (by omega)
                  rw [iJ_int (by omega) (by omega)] at c25
                  have m1 : (-1000000000 : Int64).toInt = -1000000000 := by decide
                  have m2 : (1000000000 : Int64).toInt = 1000000000 := by decide
                  exact congrArg (fun z => some (Value.int z)) (bI_f0 (hl_2n hI (by omega) c17 a10 (by omega)))
        refine wn_weak (lv' := [(0, .ref (71)), (1, .int (nI (l))), (2, .int (nI (v))), (3, .int (nI (y))), (4, .int (nI (k + 1))), (5, .int (nI ((lwB w l) + (lwE w l - lwB w l)))), (6, .long (iJ fr)), (8, .long (iJ su)), (10, .int (w (576 + 3 * k))), (11, .long (iJ (((ptW w S y v i k)) : Int)))]) (by simp) ?_
        have z9 := lp8 ((lwE w l) + 1) (k + 1) ((ptW w S y v i k : Int)) (by omega) (by omega) (by omega) (hl_1 hO a7 a8 (by omega) (ptW_le hWf hv (by omega) (by omega)) a10 (fun q1 q2 => jn4 k q1 (by omega) q2))
        rw [show (iJ ((ptW w S y v i k : Int))) = (iJ (((ptW w S y v i k)) : Int)) from (by rfl)] at z9
        exact z9
  refine wn_weak (lv' := [(0, .ref (71)), (1, .int (nI (l))), (2, .int (nI (v))), (3, .int (nI (y))), (4, .int (nI (lwB w l))), (5, .int (nI ((lwB w l) + (lwE w l - lwB w l)))), (6, .long (iJ 0)), (8, .long (iJ 0))]) (by simp) ?_
  have z9 := lp1 ((lwE w l) + 1) (lwB w l) 0 0 (by omega) (by omega) (hl_0 (by omega) a11)
  exact z9

