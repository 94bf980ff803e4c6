/-! the fewest items: the class's; cases -/
theorem nI_xor (a b : Nat) : nI a ^^^ nI b = nI (a ^^^ b) := b_ext (fun i hi => by rw [b_xor, bt_nI _ hi, bt_nI _ hi, bt_nI _ hi, Nat.testBit_xor])
theorem and_pow {q b : Nat} : q &&& 2 ^ b = 0 ↔ q.testBit b = false := by
  constructor
  · intro h
    have := congrArg (fun x => Nat.testBit x b) h
    simpa [Nat.testBit_and, Nat.testBit_two_pow] using this
  · intro h
    apply Nat.eq_of_testBit_eq
    intro i
    rw [Nat.testBit_and, Nat.testBit_two_pow, Nat.zero_testBit]
    by_cases c : b = i
    · subst c; rw [h]; rfl
    · simp [c]
theorem tb_f {q b : Nat} (hq : q ≤ 1024) (h : nI q &&& nI (2 ^ b) = 0) : q.testBit b = false := by
  rw [nI_and, ← nI_0] at h
  have lt : q &&& 2 ^ b ≤ q := Nat.and_le_left
  exact and_pow.mp ((nI_eq (by omega) (by omega)).mp h)
theorem tb_t {q b : Nat} (hq : q ≤ 1024) (h : ¬ nI q &&& nI (2 ^ b) = 0) : q.testBit b = true := by
  cases e : q.testBit b with
  | true => rfl
  | false => exact absurd (by rw [nI_and, and_pow.mpr e]; exact nI_0) h
theorem xr_t {s b i : Nat} (h : i ≠ b) : (s ^^^ 2 ^ b).testBit i = s.testBit i := by
  rw [Nat.testBit_xor, Nat.testBit_two_pow_of_ne (fun q => h q.symm)]; simp
theorem xr_b {s b : Nat} (h : s.testBit b = true) : (s ^^^ 2 ^ b).testBit b = false := by
  rw [Nat.testBit_xor, Nat.testBit_two_pow_self, h]; rfl
theorem shl1 : ∀ b, b ≤ 10 → nI (2 ^ b) <<< (nI 1 &&& 31) = nI (2 ^ (b + 1)) := by decide +kernel
/-- d is in s, and they are alike from the place b on -/
def spA (b n d s : Nat) : Prop := ∀ i, i < n → (i < b → d.testBit i = true → s.testBit i = true) ∧ (b ≤ i → d.testBit i = s.testBit i)
def UnA (M : Nat → Prop) (b n s : Nat) : Prop := ∃ d, M d ∧ spA b n d s
theorem un_0 {M : Nat → Prop} {n s : Nat} (hM : ∀ d, M d → d < 2 ^ n) (hs : s < 2 ^ n) : UnA M 0 n s ↔ M s := by
  constructor
  · rintro ⟨d, h1, h2⟩
    have e : d = s := Nat.eq_of_testBit_eq (fun i => by
      by_cases c : i < n
      · exact (h2 i c).2 (Nat.zero_le _)
      · rw [Nat.testBit_lt_two_pow (Nat.lt_of_lt_of_le (hM d h1) (Nat.pow_le_pow_right (by omega) (by omega))), Nat.testBit_lt_two_pow (Nat.lt_of_lt_of_le hs (Nat.pow_le_pow_right (by omega) (by omega)))])
    rw [← e]; exact h1
  · intro h
    exact ⟨s, h, fun i _ => ⟨fun q => absurd q (by omega), fun _ => rfl⟩⟩
theorem un_s {M : Nat → Prop} {b n s : Nat} (hb : b < n) : UnA M (b + 1) n s ↔ (UnA M b n s ∨ (s.testBit b = true ∧ UnA M (b + 1) n (s ^^^ 2 ^ b))) := by
  constructor
  · rintro ⟨d, h1, h2⟩
    by_cases c : d.testBit b = s.testBit b
    · exact Or.inl ⟨d, h1, fun i hi => ⟨fun q => (h2 i hi).1 (by omega), fun q => by
        by_cases e : i = b
        · rw [e]; exact c
        · exact (h2 i hi).2 (by omega)⟩⟩
    · have hs : s.testBit b = true := by
        cases e : s.testBit b with
        | true => rfl
        | false =>
          cases e2 : d.testBit b with
          | true => have := (h2 b hb).1 (by omega) e2; rw [e] at this; cases this
          | false => exact absurd (e2.trans e.symm) c
      have hd : d.testBit b = false := by
        cases e : d.testBit b with
        | false => rfl
        | true => exact absurd (e.trans hs.symm) c
      refine Or.inr ⟨hs, d, h1, fun i hi => ⟨fun q p => ?_, fun q => ?_⟩⟩
      · by_cases e : i = b
        · rw [e, hd] at p; cases p
        · rw [xr_t e]; exact (h2 i hi).1 q p
      · rw [xr_t (by omega)]; exact (h2 i hi).2 q
  · rintro (⟨d, h1, h2⟩ | ⟨hs, d, h1, h2⟩)
    · exact ⟨d, h1, fun i hi => ⟨fun q p => by
        by_cases e : i = b
        · rw [← (h2 i hi).2 (by omega)]; exact p
        · exact (h2 i hi).1 (by omega) p, fun q => (h2 i hi).2 (by omega)⟩⟩
    · refine ⟨d, h1, fun i hi => ⟨fun q p => ?_, fun q => ?_⟩⟩
      · by_cases e : i = b
        · rw [e]; exact hs
        · have := (h2 i hi).1 q p; rw [xr_t e] at this; exact this
      · have := (h2 i hi).2 q; rw [xr_t (by omega)] at this; exact this
def NvI (M : Nat → Prop) (b n q : Nat) (un : Nat → Int32) : Prop := ∀ s, s < 2 ^ n → un s = bI ((s < q ∧ UnA M (b + 1) n s) ∨ (q ≤ s ∧ UnA M b n s))
theorem nv_0 {M : Nat → Prop} {b n : Nat} {un : Nat → Int32} (H : ∀ s, s < 2 ^ n → un s = bI (UnA M b n s)) : NvI M b n 0 un := fun s hs => (H s hs).trans (bI_c ⟨fun q => Or.inr ⟨Nat.zero_le _, q⟩, fun q => q.elim (fun q => absurd q.1 (by omega)) (fun q => q.2)⟩)
theorem nv_e {M : Nat → Prop} {b n : Nat} {un : Nat → Int32} (H : NvI M b n (2 ^ n) un) : ∀ s, s < 2 ^ n → un s = bI (UnA M (b + 1) n s) := fun s hs => (H s hs).trans (bI_c ⟨fun q => q.elim (fun q => q.2) (fun q => absurd q.1 (by omega)), fun q => Or.inl ⟨hs, q⟩⟩)
theorem nv_rd {M : Nat → Prop} {b n q : Nat} {un : Nat → Int32} (H : NvI M b n q un) (hq : q < 2 ^ n) (hb : b < n) (ht : q.testBit b = true) : un (q ^^^ 2 ^ b) = bI (UnA M (b + 1) n (q ^^^ 2 ^ b)) := by
  have lt := Nat.xor_lt_two_pow hq (Nat.pow_lt_pow_right (a := 2) (by omega) hb)
  refine (H _ lt).trans (bI_c ⟨fun p => p.elim (fun p => p.2) (fun p => (un_s hb).mpr (Or.inl p.2)), fun p => ?_⟩)
  by_cases c : q ^^^ 2 ^ b < q
  · exact Or.inl ⟨c, p⟩
  · refine Or.inr ⟨by omega, ?_⟩
    rcases (un_s hb).mp p with h | ⟨h, _⟩
    · exact h
    · rw [xr_b ht] at h; cases h
theorem nv_t {M : Nat → Prop} {b n q : Nat} {un : Nat → Int32} (H : NvI M b n q un) (hb : b < n) (ht : q.testBit b = true) (hu : UnA M (b + 1) n (q ^^^ 2 ^ b)) : NvI M b n (q + 1) (upd un q (vp_nar .boolean (nI 1))) := fun s hs => by
  by_cases c : s = q
  · rw [c, pk_us]
    exact (show vp_nar .boolean (nI 1) = nI 1 by decide).trans (bI_t1 (Or.inl ⟨by omega, (un_s hb).mpr (Or.inr ⟨ht, hu⟩)⟩))
  · rw [pk_un c, H s hs]
    exact bI_c ⟨fun p => p.imp (fun p => ⟨by omega, p.2⟩) (fun p => ⟨by omega, p.2⟩), fun p => p.imp (fun p => ⟨by omega, p.2⟩) (fun p => ⟨by omega, p.2⟩)⟩
theorem nv_f {M : Nat → Prop} {b n q : Nat} {un : Nat → Int32} (H : NvI M b n q un) (hb : b < n) (hn : ¬ (q.testBit b = true ∧ UnA M (b + 1) n (q ^^^ 2 ^ b))) : NvI M b n (q + 1) un := fun s hs => by
  rw [H s hs]
  by_cases c : s = q
  · subst c
    exact bI_c ⟨fun p => p.elim (fun p => absurd p.1 (by omega)) (fun p => Or.inl ⟨by omega, (un_s hb).mpr (Or.inl p.2)⟩), fun p => p.elim (fun p => ((un_s hb).mp p.2).elim (fun p => Or.inr ⟨Nat.le_refl _, p⟩) (fun p => absurd p hn)) (fun p => absurd p.1 (by omega))⟩
  · exact bI_c ⟨fun p => p.imp (fun p => ⟨by omega, p.2⟩) (fun p => ⟨by omega, p.2⟩), fun p => p.imp (fun p => ⟨by omega, p.2⟩) (fun p => ⟨by omega, p.2⟩)⟩
def gdS (M : Nat → Prop) (n s : Nat) : Prop := ∀ d, M d → ∃ i, i < n ∧ d.testBit i = true ∧ s.testBit i = true
theorem gd_iff {M : Nat → Prop} {n s : Nat} (hs : s < 2 ^ n) : gdS M n s ↔ ¬ UnA M n n (2 ^ n - 1 - s) := by
  have t : ∀ i, i < n → (2 ^ n - 1 - s).testBit i = !(s.testBit i) := fun i hi => by
    rw [show 2 ^ n - 1 - s = 2 ^ n - (s + 1) by omega, Nat.testBit_two_pow_sub_succ hs]; simp [hi]
  constructor
  · rintro H ⟨d, h1, h2⟩
    obtain ⟨i, q1, q2, q3⟩ := H d h1
    have := (h2 i q1).1 q1 q2
    rw [t i q1, q3] at this; cases this
  · intro H d h1
    refine Classical.byContradiction (fun q => H ⟨d, h1, fun i hi => ⟨fun _ p => ?_, fun p => absurd p (by omega)⟩⟩)
    rw [t i hi]
    cases e : s.testBit i with
    | false => rfl
    | true => exact absurd ⟨i, hi, p, e⟩ q
/-- by which items two villages differ, as a number -/
noncomputable def dfN (w : Nat → Int32) (y v u : Nat) : Nat := (dfW w y v u).toBitVec.toNat
theorem dfN_b {w : Nat → Int32} (hWf : WfW w) (y v u i : Nat) : (dfN w y v u).testBit i = true ↔ (i < ntW w ∧ ¬ sdW w y v i = sdW w y u i) := by
  have := hWf.1.2.2.2.1.2
  by_cases c : i < 32
  · show bt (dfW w y v u) i = true ↔ _
    exact bitP_bt (by omega) c
  · constructor
    · intro q
      have : bt (dfW w y v u) i = false := b_big (by omega)
      have q2 : bt (dfW w y v u) i = true := q
      rw [this] at q2; cases q2
    · intro q; omega
theorem dfN_lt {w : Nat → Int32} (hWf : WfW w) (y v u : Nat) : dfN w y v u < stN w := by
  refine Nat.lt_pow_two_of_testBit _ (fun i hi => ?_)
  cases e : (dfN w y v u).testBit i with
  | false => rfl
  | true => exact absurd ((dfN_b hWf y v u i).mp e).1 (by omega)
theorem dfW_n {w : Nat → Int32} (hWf : WfW w) (y v u : Nat) : dfW w y v u = nI (dfN w y v u) := b_ext (fun i hi => by
  rw [bt_nI _ hi]; rfl)
theorem td_iff {w : Nat → Int32} (hWf : WfW w) {y v u s : Nat} (hs : s < 2 ^ 24) : tdW w y v u (nI s) ↔ ∃ i, i < ntW w ∧ (dfN w y v u).testBit i = true ∧ s.testBit i = true := by
  have := hWf.1.2.2.2.1.2
  constructor
  · rintro ⟨i, h1, h2, h3⟩
    rw [bt_nI _ (by omega)] at h2
    exact ⟨i, h1, (dfN_b hWf y v u i).mpr ⟨h1, h3⟩, h2⟩
  · rintro ⟨i, h1, h2, h3⟩
    exact ⟨i, h1, by rw [bt_nI _ (by omega)]; exact h3, ((dfN_b hWf y v u i).mp h2).2⟩
theorem td_sym {w : Nat → Int32} {y v u : Nat} {s : Int32} (h : tdW w y v u s) : tdW w y u v s := by
  obtain ⟨i, h1, h2, h3⟩ := h
  exact ⟨i, h1, h2, fun q => h3 q.symm⟩
def MkT (w : Nat → Int32) (y v u d : Nat) : Prop := ∃ v' u', v' < u' ∧ u' < nvW w ∧ (v' < v ∨ (v' = v ∧ u' < u)) ∧ d = dfN w y v' u'
def MkA (w : Nat → Int32) (y v u d : Nat) : Prop := ∃ u', u' < u ∧ u' ≠ v ∧ d = dfN w y v u'
theorem mk_u {p p' : Nat → Prop} {un : Nat → Int32} {d n : Nat} (H : ∀ s, s < n → un s = bI (p s)) (h : ∀ s, p' s ↔ (p s ∨ s = d)) : ∀ s, s < n → upd un d (vp_nar .boolean (nI 1)) s = bI (p' s) := fun s hs => by
  by_cases c : s = d
  · rw [c, pk_us]; exact (show vp_nar .boolean (nI 1) = nI 1 by decide).trans (bI_t1 ((h d).mpr (Or.inr rfl)))
  · rw [pk_un c, H s hs]; exact bI_c ⟨fun q => (h s).mpr (Or.inl q), fun q => ((h s).mp q).resolve_right c⟩
theorem MkT_s {w : Nat → Int32} {y v u : Nat} (h1 : v < u) (h2 : u < nvW w) (s : Nat) : MkT w y v (u + 1) s ↔ (MkT w y v u s ∨ s = dfN w y v u) := by
  constructor
  · rintro ⟨v', u', a, b, c, d⟩
    by_cases e : v' = v ∧ u' = u
    · obtain ⟨rfl, rfl⟩ := e; exact Or.inr d
    · exact Or.inl ⟨v', u', a, b, by omega, d⟩
  · rintro (⟨v', u', a, b, c, d⟩ | d)
    · exact ⟨v', u', a, b, by omega, d⟩
    · exact ⟨v, u, h1, h2, by omega, d⟩
theorem MkT_n {w : Nat → Int32} {y v : Nat} (s : Nat) : MkT w y v (nvW w) s ↔ MkT w y (v + 1) (v + 1 + 1) s := by
  constructor
  · rintro ⟨v', u', a, b, c, d⟩; exact ⟨v', u', a, b, by omega, d⟩
  · rintro ⟨v', u', a, b, c, d⟩; exact ⟨v', u', a, b, by omega, d⟩
theorem MkA_s {w : Nat → Int32} {y v u : Nat} (h : u ≠ v) (s : Nat) : MkA w y v (u + 1) s ↔ (MkA w y v u s ∨ s = dfN w y v u) := by
  constructor
  · rintro ⟨u', a, b, d⟩
    by_cases e : u' = u
    · subst e; exact Or.inr d
    · exact Or.inl ⟨u', by omega, b, d⟩
  · rintro (⟨u', a, b, d⟩ | d)
    · exact ⟨u', by omega, b, d⟩
    · exact ⟨u, by omega, h, d⟩
theorem MkA_n {w : Nat → Int32} {y v u : Nat} (h : u = v) (s : Nat) : MkA w y v (u + 1) s ↔ MkA w y v u s := by
  constructor
  · rintro ⟨u', a, b, d⟩; exact ⟨u', by omega, b, d⟩
  · rintro ⟨u', a, b, d⟩; exact ⟨u', by omega, b, d⟩
theorem gd_T {w : Nat → Int32} (hWf : WfW w) {y s : Nat} (hs : s < 2 ^ 24) : gdS (MkT w y (nvW w) (nvW w + 1)) (ntW w) s ↔ tlW w y (-1) (nI s) := by
  constructor
  · intro H v u h1 h2 _
    obtain ⟨i, q1, q2, q3⟩ := H (dfN w y u v) ⟨u, v, h1, h2, by omega, rfl⟩
    exact td_sym ((td_iff hWf hs).mpr ⟨i, q1, q2, q3⟩)
  · rintro H d ⟨v', u', a, b, c, rfl⟩
    exact (td_iff hWf hs).mp (td_sym (H u' v' a b (Or.inl rfl)))
theorem gd_A {w : Nat → Int32} (hWf : WfW w) {y s v : Nat} (hs : s < 2 ^ 24) (hv : v < nvW w) : gdS (MkA w y v (nvW w)) (ntW w) s ↔ tlW w y (nI v) (nI s) := by
  have := hWf.1.2.1.2
  constructor
  · intro H a b h1 h2 h3
    rcases h3 with h3 | h3 | h3
    · exact absurd h3 (nI_m1 (by omega))
    · have e := (nI_eq (show v < 2 ^ 31 by omega) (show a < 2 ^ 31 by omega)).mp h3
      subst e
      exact (td_iff hWf hs).mpr (H _ ⟨b, by omega, by omega, rfl⟩)
    · have e := (nI_eq (show v < 2 ^ 31 by omega) (show b < 2 ^ 31 by omega)).mp h3
      subst e
      exact td_sym ((td_iff hWf hs).mpr (H _ ⟨a, by omega, by omega, rfl⟩))
  · rintro H d ⟨u', a, b, rfl⟩
    by_cases c : u' < v
    · exact (td_iff hWf hs).mp (H v u' c hv (Or.inr (Or.inl rfl)))
    · exact (td_iff hWf hs).mp (td_sym (H u' v (by omega) a (Or.inr (Or.inr rfl))))
theorem pow_nt {w : Nat → Int32} {b : Nat} (hb : b ≤ ntW w) : 2 ^ b ≤ stN w := Nat.pow_le_pow_right (by omega) hb
theorem pow_lt {w : Nat → Int32} {b : Nat} (h : 2 ^ b < stN w) : b < ntW w := Classical.byContradiction (fun q => absurd (Nat.pow_le_pow_right (n := 2) (by omega) (show ntW w ≤ b by omega)) (by unfold stN at h; omega))
theorem x_clearUntold (d : Nat) (h : aH) (ls : Nat) (w : Nat → Int32) (hWf : WfW w) (V : XV h ls w) (un : Nat → Int32) (b0 : isZ h 62 1024 un) : Sp (Rn (d + 1)) 89 [.ref (0)] h (fun r9 h9 => r9 = none ∧ Fr [62] h h9 ∧ ∃ u1, isZ h9 62 1024 u1 ∧ ∀ x, x < stN w → u1 x = nI 0) := by
  obtain ⟨⟨e1, e2⟩, ⟨e3, e4⟩, ⟨e5, e6⟩⟩ := Wf_n hWf
  obtain ⟨⟨e7, e8⟩, ⟨e9, e10⟩⟩ := Wf_m hWf
  obtain ⟨v0, ⟨x9, v1⟩, ⟨v2, ⟨sz, rf, rt, rv, ag, vr, sd, tl, l0, l1, l2, l3, l4, l5, l6, l7, l8, g1, g2, g3, g4, g5⟩, ⟨sec, it, fi, se, sg, lst, rs, rp, pj, pk, pv, k0, k1, k2, k3, k4, k5, k6, k7, k8, k9, k10, k11, k12, k13⟩, ⟨hv, hc, y0, y1, y2, y3, y4⟩, ⟨an, wk, n0, n1, n2, n3, n4⟩⟩, v3⟩ := id V
  rw [e1, e3, e5] at l0
  rw [e7, e9] at k1
  have p2b := stN_le hWf
  refine Sp_of (by decide) (Nat.le_of_ble_eq_true rfl) ?_
  show Wn _ _ 0 [(0, .ref (0))] [] _ _
  refine wn_ic (pc' := 1) (w := nI 0) rfl rfl (by decide) ?_
  refine wn_st (pc' := 2) (q := 1) (kin := 0) (lv' := [(0, .ref (0)), (1, .int (nI (0)))]) rfl (fun _ _ _ => rfl) rfl (Nat.le_of_ble_eq_true rfl) rfl ?_
  have lp2 : ∀ (n_lp2 : Nat) (g1 : aH) (u1 : Nat → Int32) (q : Nat), (stN w) + 1 ≤ q + n_lp2 → Fr [62] h g1 → isZ g1 62 1024 u1 → q ≤ stN w → (∀ x, x < q → u1 x = nI 0) → Wn (Rn (d + 0)) 89 2 [(0, .ref (0)), (1, .int (nI (q)))] [] (g1) (fun r9 h9 => r9 = none ∧ Fr [62] h h9 ∧ ∃ u1, isZ h9 62 1024 u1 ∧ ∀ x, x < stN w → u1 x = nI 0) := by
    intro n_lp2
    induction n_lp2 with
    | zero => intro g1 u1 q hm_lp2 hf_g1 c_62_g1 hq hB; exfalso; omega
    | succ n_lp2 ih_lp2 =>
      intro g1 u1 q hm_lp2 hf_g1 c_62_g1 hq hB
      have V_g1 : XV g1 ls w := XV.frl V hf_g1 (by decide)
      refine wn_ld (pc' := 3) (q := 1) (kin := 0) (v := .int (nI (q))) rfl (fun _ _ _ => rfl) rfl rfl ?_
      refine wn_ic (pc' := 4) (w := nI 1) rfl rfl (by decide) ?_
      refine wn_ld (pc' := 5) (q := 0) (kin := 2) (v := .ref (0)) rfl (fun _ _ _ => rfl) rfl rfl ?_
      refine wn_get (pc' := 8) (v := .ref (23)) rfl rfl ((hf_g1.2 0 (by decide)).trans v1) rfl ?_
      refine wn_get (pc' := 11) (v := .ref (ls)) rfl rfl ((hf_g1.2 23 (by decide)).trans v2) rfl ?_
      refine wn_get (pc' := 14) (v := .int (nI (ntW w))) rfl rfl ((hf_g1.2 ls (by simp only [List.mem_cons, List.not_mem_nil, or_false]; omega)).trans l0) rfl ?_
      refine wn_pu (pc' := 15) (st' := [.int ((nI (1)) <<< ((nI (ntW w)) &&& 31)), .int (nI (q))]) rfl (fun _ _ _ => rfl) rfl rfl ?_
      rw [shl_st hWf]
      refine wn_icmpN (t := 31) (f := 18) rfl rfl rfl (by omega) (by omega) (fun c3 => ?_) (fun c3 => ?_)
      · have c3 : (stN w) ≤ q := c3
        exact wn_vret rfl rfl ⟨rfl, hf_g1, _, c_62_g1, fun x q => hB x (by omega)⟩
      · have c3 : q < (stN w) := c3
        refine wn_ld (pc' := 19) (q := 0) (kin := 2) (v := .ref (0)) rfl (fun _ _ _ => rfl) rfl rfl ?_
        refine wn_get (pc' := 22) (v := .ref (62)) rfl rfl ((hf_g1.2 0 (by decide)).trans v1) rfl ?_
        refine wn_ld (pc' := 23) (q := 1) (kin := 0) (v := .int (nI (q))) rfl (fun _ _ _ => rfl) rfl rfl ?_
        refine wn_ic (pc' := 24) (w := nI 0) rfl rfl (by decide) ?_
        refine wn_bastZ (pc' := 25) (j := q) rfl rfl c_62_g1 rfl (by omega) (by decide) ?_
        refine wn_incN (n := 1) (pc' := 28) (lv' := [(0, .ref (0)), (1, .int (nI (q + 1)))]) rfl rfl rfl (Nat.le_of_ble_eq_true rfl) rfl (by decide) ?_
        refine wn_jp (pc' := 2) rfl rfl ?_
        refine wn_weak (lv' := [(0, .ref (0)), (1, .int (nI (q + 1)))]) (by simp) ?_
        have z9 := ih_lp2 (g1.set 62 (.inl (2, 1024, .inl (upd u1 (q) (vp_nar .boolean (nI (0))))))) (upd u1 (q) (vp_nar .boolean (nI (0)))) (q + 1) (by omega) (Fr.st hf_g1 (by decide)) (gs_self c_62_g1) (by omega) (fun x hx => by by_cases e : x = q; (subst e; rw [pk_us]; decide); (rw [pk_un (by omega)]; exact hB x (by omega)))
        exact z9
  refine wn_weak (lv' := [(0, .ref (0)), (1, .int (nI (0)))]) (by simp) ?_
  have z9 := lp2 ((stN w) + 1) h un 0 (by omega) (Fr.rfl' [62] h) b0 (by omega) (fun _ q => absurd q (by omega))
  exact z9

theorem x_fewestItems (d : Nat) (h : aH) (ls : Nat) (w : Nat → Int32) (hWf : WfW w) (V : XV h ls w) (un : Nat → Int32) (b0 : isZ h 62 1024 un) (M : Nat → Prop) (hM : ∀ d, M d → d < 2 ^ ntW w) (hu : ∀ x, x < 2 ^ ntW w → un x = bI (M x)) : Sp (Rn (d + 2)) 91 [.ref (0)] h (fun r9 h9 => r9 = some (.int (oI (fwS (gdS M (ntW w)) popc (stN w)))) ∧ Fr [62] h h9 ∧ ∃ u1, isZ h9 62 1024 u1) := by
  obtain ⟨⟨e1, e2⟩, ⟨e3, e4⟩, ⟨e5, e6⟩⟩ := Wf_n hWf
  obtain ⟨⟨e7, e8⟩, ⟨e9, e10⟩⟩ := Wf_m hWf
  obtain ⟨v0, ⟨x9, v1⟩, ⟨v2, ⟨sz, rf, rt, rv, ag, vr, sd, tl, l0, l1, l2, l3, l4, l5, l6, l7, l8, g1, g2, g3, g4, g5⟩, ⟨sec, it, fi, se, sg, lst, rs, rp, pj, pk, pv, k0, k1, k2, k3, k4, k5, k6, k7, k8, k9, k10, k11, k12, k13⟩, ⟨hv, hc, y0, y1, y2, y3, y4⟩, ⟨an, wk, n0, n1, n2, n3, n4⟩⟩, v3⟩ := id V
  rw [e1, e3, e5] at l0
  rw [e7, e9] at k1
  have p2b := stN_le hWf
  refine Sp_of (by decide) (Nat.le_of_ble_eq_true rfl) ?_
  show Wn _ _ 0 [(0, .ref (0))] [] _ _
  refine wn_ic (pc' := 1) (w := nI 1) rfl rfl (by decide) ?_
  refine wn_ld (pc' := 2) (q := 0) (kin := 2) (v := .ref (0)) rfl (fun _ _ _ => rfl) rfl rfl ?_
  refine wn_get (pc' := 5) (v := .ref (23)) rfl rfl v1 rfl ?_
  refine wn_get (pc' := 8) (v := .ref (ls)) rfl rfl v2 rfl ?_
  refine wn_get (pc' := 11) (v := .int (nI (ntW w))) rfl rfl l0 rfl ?_
  refine wn_pu (pc' := 12) (st' := [.int ((nI (1)) <<< ((nI (ntW w)) &&& 31))]) rfl (fun _ _ _ => rfl) rfl rfl ?_
  rw [shl_st hWf]
  refine wn_st (pc' := 13) (q := 1) (kin := 0) (lv' := [(0, .ref (0)), (1, .int (nI (stN w)))]) rfl (fun _ _ _ => rfl) rfl (Nat.le_of_ble_eq_true rfl) rfl ?_
  refine wn_ic (pc' := 14) (w := nI 1) rfl rfl (by decide) ?_
  refine wn_st (pc' := 15) (q := 2) (kin := 0) (lv' := [(0, .ref (0)), (1, .int (nI (stN w))), (2, .int (nI (1)))]) rfl (fun _ _ _ => rfl) rfl (Nat.le_of_ble_eq_true rfl) rfl ?_
  have lp2 : ∀ (n_lp2 : Nat) (g1 : aH) (u1 : Nat → Int32) (b : Nat), (ntW w) + 1 ≤ b + n_lp2 → Fr [62] h g1 → isZ g1 62 1024 u1 → b ≤ ntW w → (∀ x, x < 2 ^ ntW w → u1 x = bI (UnA M b (ntW w) x)) → Wn (Rn (d + 1)) 91 15 [(0, .ref (0)), (1, .int (nI (stN w))), (2, .int (nI (2 ^ b)))] [] (g1) (fun r9 h9 => r9 = some (.int (oI (fwS (gdS M (ntW w)) popc (stN w)))) ∧ Fr [62] h h9 ∧ ∃ u1, isZ h9 62 1024 u1) := by
    intro n_lp2
    induction n_lp2 with
    | zero => intro g1 u1 b hm_lp2 hf_g1 c_62_g1 hb hU; exfalso; omega
    | succ n_lp2 ih_lp2 =>
      intro g1 u1 b hm_lp2 hf_g1 c_62_g1 hb hU
      have V_g1 : XV g1 ls w := XV.frl V hf_g1 (by decide)
      have pwb := pow_nt hb
      refine wn_ld (pc' := 16) (q := 2) (kin := 0) (v := .int (nI (2 ^ b))) rfl (fun _ _ _ => rfl) rfl rfl ?_
      refine wn_ld (pc' := 17) (q := 1) (kin := 0) (v := .int (nI (stN w))) rfl (fun _ _ _ => rfl) rfl rfl ?_
      refine wn_icmpN (t := 64) (f := 20) rfl rfl rfl (by omega) (by omega) (fun c3 => ?_) (fun c3 => ?_)
      · have c3 : (stN w) ≤ (2 ^ b) := c3
        refine wn_ic (pc' := 65) (w := -1) rfl rfl (by decide) ?_
        refine wn_st (pc' := 66) (q := 2) (kin := 0) (lv' := [(0, .ref (0)), (1, .int (nI (stN w))), (2, .int (-1))]) rfl (fun _ _ _ => rfl) rfl (Nat.le_of_ble_eq_true rfl) rfl ?_
        refine wn_ic (pc' := 67) (w := nI 0) rfl rfl (by decide) ?_
        refine wn_st (pc' := 68) (q := 3) (kin := 0) (lv' := [(0, .ref (0)), (1, .int (nI (stN w))), (2, .int (-1)), (3, .int (nI (0)))]) rfl (fun _ _ _ => rfl) rfl (Nat.le_of_ble_eq_true rfl) rfl ?_
        have hE : ∀ x, x < 2 ^ ntW w → u1 x = bI (UnA M (ntW w) (ntW w) x) := by have e : b = ntW w := Nat.le_antisymm hb (Nat.le_of_not_lt (fun q => absurd (Nat.pow_lt_pow_right (a := 2) (by omega) q) (by unfold stN at *; omega))); rw [← e]; rw [← e] at hU; exact hU
        have lp4 : ∀ (n_lp4 : Nat) (q : Nat), (stN w) + 1 ≤ q + n_lp4 → q ≤ stN w → Wn (Rn (d + 1)) 91 68 [(0, .ref (0)), (1, .int (nI (stN w))), (2, .int (oI (fwS (gdS M (ntW w)) popc q))), (3, .int (nI (q)))] [] (g1) (fun r9 h9 => r9 = some (.int (oI (fwS (gdS M (ntW w)) popc (stN w)))) ∧ Fr [62] h h9 ∧ ∃ u1, isZ h9 62 1024 u1) := by
          intro n_lp4
          induction n_lp4 with
          | zero => intro q hm_lp4 hq; exfalso; omega
          | succ n_lp4 ih_lp4 =>
            intro q hm_lp4 hq
            refine wn_ld (pc' := 69) (q := 3) (kin := 0) (v := .int (nI (q))) rfl (fun _ _ _ => rfl) rfl rfl ?_
            refine wn_ld (pc' := 70) (q := 1) (kin := 0) (v := .int (nI (stN w))) rfl (fun _ _ _ => rfl) rfl rfl ?_
            refine wn_icmpN (t := 122) (f := 73) rfl rfl rfl (by omega) (by omega) (fun c5 => ?_) (fun c5 => ?_)
            · have c5 : (stN w) ≤ q := c5
              obtain rfl : q = stN w := by omega
              refine wn_ld (pc' := 123) (q := 2) (kin := 0) (v := .int (oI (fwS (gdS M (ntW w)) popc (stN w)))) rfl (fun _ _ _ => rfl) rfl rfl ?_
              exact wn_iret rfl rfl rfl ⟨rfl, hf_g1, _, c_62_g1⟩
            · have c5 : q < (stN w) := c5
              cases ho9 : fwS (gdS M (ntW w)) popc q with
              | none =>
                show Wn _ _ 73 [(0, .ref (0)), (1, .int (nI (stN w))), (2, .int (-1)), (3, .int (nI (q)))] _ _ _
                refine wn_ld (pc' := 74) (q := 0) (kin := 2) (v := .ref (0)) rfl (fun _ _ _ => rfl) rfl rfl ?_
                refine wn_get (pc' := 77) (v := .ref (62)) rfl rfl ((hf_g1.2 0 (by decide)).trans v1) rfl ?_
                refine wn_ld (pc' := 78) (q := 1) (kin := 0) (v := .int (nI (stN w))) rfl (fun _ _ _ => rfl) rfl rfl ?_
                refine wn_ic (pc' := 79) (w := nI 1) rfl rfl (by decide) ?_
                refine wn_subN (pc' := 80) rfl rfl (by omega) ?_
                refine wn_ld (pc' := 81) (q := 3) (kin := 0) (v := .int (nI (q))) rfl (fun _ _ _ => rfl) rfl rfl ?_
                refine wn_subN (pc' := 82) rfl rfl (by omega) ?_
                refine wn_baldv (pc' := 83) (j := ((stN w) - 1) - q) (v := (bI (UnA M (ntW w) (ntW w) (stN w - 1 - q)))) rfl rfl (Or.inr rfl) c_62_g1 rfl (by omega) (by decide) (hE _ (show stN w - 1 - q < 2 ^ ntW w by unfold stN at *; omega)) ?_
                refine wn_ifneB (t := 90) (f := 86) rfl rfl rfl (fun c6 => ?_) (fun c6 => ?_)
                · have c6 : (UnA M (ntW w) (ntW w) (stN w - 1 - q)) := c6
                  refine wn_ic (pc' := 91) (w := nI 0) rfl rfl (by decide) ?_
                  refine wn_st (pc' := 93) (q := 4) (kin := 0) (lv' := [(0, .ref (0)), (1, .int (nI (stN w))), (2, .int (-1)), (3, .int (nI (q))), (4, .int (nI (0)))]) rfl (fun _ _ _ => rfl) rfl (Nat.le_of_ble_eq_true rfl) rfl ?_
                  refine wn_ld (pc' := 95) (q := 4) (kin := 0) (v := .int (nI (0))) rfl (fun _ _ _ => rfl) rfl rfl ?_
                  refine wn_ifN (t := 116) (f := 98) rfl rfl rfl (by omega) (fun c7 => ?_) (fun c7 => ?_)
                  · have c7 : 0 = 0 := c7
                    refine wn_incN (n := 1) (pc' := 119) (lv' := [(0, .ref (0)), (1, .int (nI (stN w))), (2, .int (-1)), (3, .int (nI (q + 1))), (4, .int (nI (0)))]) rfl rfl rfl (Nat.le_of_ble_eq_true rfl) rfl (by decide) ?_
                    refine wn_jp (pc' := 68) rfl rfl ?_
                    refine wn_weak (lv' := [(0, .ref (0)), (1, .int (nI (stN w))), (2, .int (-1)), (3, .int (nI (q + 1)))]) (by simp) ?_
                    have z9 := ih_lp4 (q + 1) (by omega) (by omega)
                    rw [show (oI (fwS (gdS M (ntW w)) popc (q + 1))) = (-1) from (by exact congrArg oI (fwS_nf ho9 (fun q9 => (gd_iff (M := M) (show q < 2 ^ ntW w by unfold stN at *; omega)).mp q9 c6)))] at z9
                    exact z9
                  · have c7 : ¬ 0 = 0 := c7
                    exact absurd c7 (by decide)
                · have c6 : ¬ (UnA M (ntW w) (ntW w) (stN w - 1 - q)) := c6
                  refine wn_ic (pc' := 87) (w := nI 1) rfl rfl (by decide) ?_
                  refine wn_jp (pc' := 91) rfl rfl ?_
                  refine wn_st (pc' := 93) (q := 4) (kin := 0) (lv' := [(0, .ref (0)), (1, .int (nI (stN w))), (2, .int (-1)), (3, .int (nI (q))), (4, .int (nI (1)))]) rfl (fun _ _ _ => rfl) rfl (Nat.le_of_ble_eq_true rfl) rfl ?_
                  refine wn_ld (pc' := 95) (q := 4) (kin := 0) (v := .int (nI (1))) rfl (fun _ _ _ => rfl) rfl rfl ?_
                  refine wn_ifN (t := 116) (f := 98) rfl rfl rfl (by omega) (fun c8 => ?_) (fun c8 => ?_)
                  · have c8 : 1 = 0 := c8
                    exact absurd c8 (by decide)
                  · have c8 : ¬ 1 = 0 := c8
                    refine wn_ld (pc' := 99) (q := 2) (kin := 0) (v := .int (-1)) rfl (fun _ _ _ => rfl) rfl rfl ?_
                    refine wn_ic (pc' := 100) (w := -1) rfl rfl (by decide) ?_
                    refine wn_icmp (t := 114) (f := 103) rfl rfl rfl (fun c9 => ?_) (fun c9 => ?_)
                    · have c9 : ((-1) : Int32) = ((-1)) := c9
                      refine wn_ld (pc' := 115) (q := 3) (kin := 0) (v := .int (nI (q))) rfl (fun _ _ _ => rfl) rfl rfl ?_
                      refine wn_st (pc' := 116) (q := 2) (kin := 0) (lv' := [(0, .ref (0)), (1, .int (nI (stN w))), (2, .int (nI (q))), (3, .int (nI (q))), (4, .int (nI (1)))]) rfl (fun _ _ _ => rfl) rfl (Nat.le_of_ble_eq_true rfl) rfl ?_
                      refine wn_incN (n := 1) (pc' := 119) (lv' := [(0, .ref (0)), (1, .int (nI (stN w))), (2, .int (nI (q))), (3, .int (nI (q + 1))), (4, .int (nI (1)))]) rfl rfl rfl (Nat.le_of_ble_eq_true rfl) rfl (by decide) ?_
                      refine wn_jp (pc' := 68) rfl rfl ?_
                      refine wn_weak (lv' := [(0, .ref (0)), (1, .int (nI (stN w))), (2, .int (nI (q))), (3, .int (nI (q + 1)))]) (by simp) ?_
                      have z9 := ih_lp4 (q + 1) (by omega) (by omega)
                      rw [show (oI (fwS (gdS M (ntW w)) popc (q + 1))) = (nI (q)) from (by exact congrArg oI (fwS_nt ho9 ((gd_iff (M := M) (show q < 2 ^ ntW w by unfold stN at *; omega)).mpr c6)))] at z9
                      exact z9
                    · have c9 : ¬ ((-1) : Int32) = ((-1)) := c9
                      exact absurd rfl c9
              | some b =>
                have hb9 := fwS_lt ho9
                show Wn _ _ 73 [(0, .ref (0)), (1, .int (nI (stN w))), (2, .int (nI (b))), (3, .int (nI (q)))] _ _ _
                refine wn_ld (pc' := 74) (q := 0) (kin := 2) (v := .ref (0)) rfl (fun _ _ _ => rfl) rfl rfl ?_
                refine wn_get (pc' := 77) (v := .ref (62)) rfl rfl ((hf_g1.2 0 (by decide)).trans v1) rfl ?_
                refine wn_ld (pc' := 78) (q := 1) (kin := 0) (v := .int (nI (stN w))) rfl (fun _ _ _ => rfl) rfl rfl ?_
                refine wn_ic (pc' := 79) (w := nI 1) rfl rfl (by decide) ?_
                refine wn_subN (pc' := 80) rfl rfl (by omega) ?_
                refine wn_ld (pc' := 81) (q := 3) (kin := 0) (v := .int (nI (q))) rfl (fun _ _ _ => rfl) rfl rfl ?_
                refine wn_subN (pc' := 82) rfl rfl (by omega) ?_
                refine wn_baldv (pc' := 83) (j := ((stN w) - 1) - q) (v := (bI (UnA M (ntW w) (ntW w) (stN w - 1 - q)))) rfl rfl (Or.inr rfl) c_62_g1 rfl (by omega) (by decide) (hE _ (show stN w - 1 - q < 2 ^ ntW w by unfold stN at *; omega)) ?_
                refine wn_ifneB (t := 90) (f := 86) rfl rfl rfl (fun c10 => ?_) (fun c10 => ?_)
                · have c10 : (UnA M (ntW w) (ntW w) (stN w - 1 - q)) := c10
                  refine wn_ic (pc' := 91) (w := nI 0) rfl rfl (by decide) ?_
                  refine wn_st (pc' := 93) (q := 4) (kin := 0) (lv' := [(0, .ref (0)), (1, .int (nI (stN w))), (2, .int (nI (b))), (3, .int (nI (q))), (4, .int (nI (0)))]) rfl (fun _ _ _ => rfl) rfl (Nat.le_of_ble_eq_true rfl) rfl ?_
                  refine wn_ld (pc' := 95) (q := 4) (kin := 0) (v := .int (nI (0))) rfl (fun _ _ _ => rfl) rfl rfl ?_
                  refine wn_ifN (t := 116) (f := 98) rfl rfl rfl (by omega) (fun c11 => ?_) (fun c11 => ?_)
                  · have c11 : 0 = 0 := c11
                    refine wn_incN (n := 1) (pc' := 119) (lv' := [(0, .ref (0)), (1, .int (nI (stN w))), (2, .int (nI (b))), (3, .int (nI (q + 1))), (4, .int (nI (0)))]) rfl rfl rfl (Nat.le_of_ble_eq_true rfl) rfl (by decide) ?_
                    refine wn_jp (pc' := 68) rfl rfl ?_
                    refine wn_weak (lv' := [(0, .ref (0)), (1, .int (nI (stN w))), (2, .int (nI (b))), (3, .int (nI (q + 1)))]) (by simp) ?_
                    have z9 := ih_lp4 (q + 1) (by omega) (by omega)
                    rw [show (oI (fwS (gdS M (ntW w)) popc (q + 1))) = (nI (b)) from (by exact congrArg oI (fwS_sf ho9 (fun q8 => (fun q9 => (gd_iff (M := M) (show q < 2 ^ ntW w by unfold stN at *; omega)).mp q9 c10) q8.2)))] at z9
                    exact z9
                  · have c11 : ¬ 0 = 0 := c11
                    exact absurd c11 (by decide)
                · have c10 : ¬ (UnA M (ntW w) (ntW w) (stN w - 1 - q)) := c10
                  refine wn_ic (pc' := 87) (w := nI 1) rfl rfl (by decide) ?_
                  refine wn_jp (pc' := 91) rfl rfl ?_
                  refine wn_st (pc' := 93) (q := 4) (kin := 0) (lv' := [(0, .ref (0)), (1, .int (nI (stN w))), (2, .int (nI (b))), (3, .int (nI (q))), (4, .int (nI (1)))]) rfl (fun _ _ _ => rfl) rfl (Nat.le_of_ble_eq_true rfl) rfl ?_
                  refine wn_ld (pc' := 95) (q := 4) (kin := 0) (v := .int (nI (1))) rfl (fun _ _ _ => rfl) rfl rfl ?_
                  refine wn_ifN (t := 116) (f := 98) rfl rfl rfl (by omega) (fun c12 => ?_) (fun c12 => ?_)
                  · have c12 : 1 = 0 := c12
                    exact absurd c12 (by decide)
                  · have c12 : ¬ 1 = 0 := c12
                    refine wn_ld (pc' := 99) (q := 2) (kin := 0) (v := .int (nI (b))) rfl (fun _ _ _ => rfl) rfl rfl ?_
                    refine wn_ic (pc' := 100) (w := -1) rfl rfl (by decide) ?_
                    refine wn_icmp (t := 114) (f := 103) rfl rfl rfl (fun c13 => ?_) (fun c13 => ?_)
                    · have c13 : ((nI (b))) = ((-1)) := c13
                      exact absurd c13 (nI_m1 (by omega))
                    · have c13 : ¬ ((nI (b))) = ((-1)) := c13
                      refine wn_ld (pc' := 104) (q := 3) (kin := 0) (v := .int (nI (q))) rfl (fun _ _ _ => rfl) rfl rfl ?_
                      refine wn_staI (pc' := 107) rfl rfl (by decide) rfl rfl (Nat.le_of_ble_eq_true rfl) (x_bitCount _ _ _) ?_
                      rw [bcF_s (show q ≤ 1024 by omega)]
                      have := popc_le q
                      refine wn_ld (pc' := 108) (q := 2) (kin := 0) (v := .int (nI (b))) rfl (fun _ _ _ => rfl) rfl rfl ?_
                      refine wn_staI (pc' := 111) rfl rfl (by decide) rfl rfl (Nat.le_of_ble_eq_true rfl) (x_bitCount _ _ _) ?_
                      rw [bcF_s (show b ≤ 1024 by omega)]
                      have := popc_le b
                      refine wn_icmpN (t := 116) (f := 114) rfl rfl rfl (by omega) (by omega) (fun c14 => ?_) (fun c14 => ?_)
                      · have c14 : (popc b) ≤ (popc q) := c14
                        refine wn_incN (n := 1) (pc' := 119) (lv' := [(0, .ref (0)), (1, .int (nI (stN w))), (2, .int (nI (b))), (3, .int (nI (q + 1))), (4, .int (nI (1)))]) rfl rfl rfl (Nat.le_of_ble_eq_true rfl) rfl (by decide) ?_
                        refine wn_jp (pc' := 68) rfl rfl ?_
                        refine wn_weak (lv' := [(0, .ref (0)), (1, .int (nI (stN w))), (2, .int (nI (b))), (3, .int (nI (q + 1)))]) (by simp) ?_
                        have z9 := ih_lp4 (q + 1) (by omega) (by omega)
                        rw [show (oI (fwS (gdS M (ntW w)) popc (q + 1))) = (nI (b)) from (by exact congrArg oI (fwS_sf ho9 (fun q9 => by have := q9.1; omega)))] at z9
                        exact z9
                      · have c14 : (popc q) < (popc b) := c14
                        refine wn_ld (pc' := 115) (q := 3) (kin := 0) (v := .int (nI (q))) rfl (fun _ _ _ => rfl) rfl rfl ?_
                        refine wn_st (pc' := 116) (q := 2) (kin := 0) (lv' := [(0, .ref (0)), (1, .int (nI (stN w))), (2, .int (nI (q))), (3, .int (nI (q))), (4, .int (nI (1)))]) rfl (fun _ _ _ => rfl) rfl (Nat.le_of_ble_eq_true rfl) rfl ?_
                        refine wn_incN (n := 1) (pc' := 119) (lv' := [(0, .ref (0)), (1, .int (nI (stN w))), (2, .int (nI (q))), (3, .int (nI (q + 1))), (4, .int (nI (1)))]) rfl rfl rfl (Nat.le_of_ble_eq_true rfl) rfl (by decide) ?_
                        refine wn_jp (pc' := 68) rfl rfl ?_
                        refine wn_weak (lv' := [(0, .ref (0)), (1, .int (nI (stN w))), (2, .int (nI (q))), (3, .int (nI (q + 1)))]) (by simp) ?_
                        have z9 := ih_lp4 (q + 1) (by omega) (by omega)
                        rw [show (oI (fwS (gdS M (ntW w)) popc (q + 1))) = (nI (q)) from (by exact congrArg oI (fwS_st ho9 ⟨by omega, ((gd_iff (M := M) (show q < 2 ^ ntW w by unfold stN at *; omega)).mpr c10)⟩))] at z9
                        exact z9
        refine wn_weak (lv' := [(0, .ref (0)), (1, .int (nI (stN w))), (2, .int (-1)), (3, .int (nI (0)))]) (by simp) ?_
        have z9 := lp4 ((stN w) + 1) 0 (by omega) (by omega)
        rw [show (oI (fwS (gdS M (ntW w)) popc 0)) = (-1) from (by rfl)] at z9
        exact z9
      · have c3 : (2 ^ b) < (stN w) := c3
        refine wn_ic (pc' := 21) (w := nI 0) rfl rfl (by decide) ?_
        refine wn_st (pc' := 22) (q := 3) (kin := 0) (lv' := [(0, .ref (0)), (1, .int (nI (stN w))), (2, .int (nI (2 ^ b))), (3, .int (nI (0)))]) rfl (fun _ _ _ => rfl) rfl (Nat.le_of_ble_eq_true rfl) rfl ?_
        have lp16 : ∀ (n_lp16 : Nat) (g15 : aH) (u2 : Nat → Int32) (q : Nat), (stN w) + 1 ≤ q + n_lp16 → Fr [62] h g15 → isZ g15 62 1024 u2 → q ≤ stN w → NvI M b (ntW w) q u2 → Wn (Rn (d + 1)) 91 22 [(0, .ref (0)), (1, .int (nI (stN w))), (2, .int (nI (2 ^ b))), (3, .int (nI (q)))] [] (g15) (fun r9 h9 => r9 = some (.int (oI (fwS (gdS M (ntW w)) popc (stN w)))) ∧ Fr [62] h h9 ∧ ∃ u1, isZ h9 62 1024 u1) := by
          intro n_lp16
          induction n_lp16 with
          | zero => intro g15 u2 q hm_lp16 hf_g15 c_62_g15 hq hN; exfalso; omega
          | succ n_lp16 ih_lp16 =>
            intro g15 u2 q hm_lp16 hf_g15 c_62_g15 hq hN
            have V_g15 : XV g15 ls w := XV.frl V hf_g15 (by decide)
            refine wn_ld (pc' := 23) (q := 3) (kin := 0) (v := .int (nI (q))) rfl (fun _ _ _ => rfl) rfl rfl ?_
            refine wn_ld (pc' := 24) (q := 1) (kin := 0) (v := .int (nI (stN w))) rfl (fun _ _ _ => rfl) rfl rfl ?_
            refine wn_icmpN (t := 57) (f := 27) rfl rfl rfl (by omega) (by omega) (fun c17 => ?_) (fun c17 => ?_)
            · have c17 : (stN w) ≤ q := c17
              obtain rfl : q = stN w := by omega
              refine wn_ld (pc' := 58) (q := 2) (kin := 0) (v := .int (nI (2 ^ b))) rfl (fun _ _ _ => rfl) rfl rfl ?_
              refine wn_ic (pc' := 59) (w := nI 1) rfl rfl (by decide) ?_
              refine wn_pu (pc' := 60) (st' := [.int ((nI (2 ^ b)) <<< ((nI (1)) &&& 31))]) rfl (fun _ _ _ => rfl) rfl rfl ?_
              rw [shl1 b (by have := pow_lt (w := w) (b := b) (by omega); omega)]
              refine wn_st (pc' := 61) (q := 2) (kin := 0) (lv' := [(0, .ref (0)), (1, .int (nI (stN w))), (2, .int (nI (2 ^ (b + 1)))), (3, .int (nI ((stN w))))]) rfl (fun _ _ _ => rfl) rfl (Nat.le_of_ble_eq_true rfl) rfl ?_
              refine wn_jp (pc' := 15) rfl rfl ?_
              have pl9 := pow_lt (w := w) (b := b) (by omega)
              refine wn_weak (lv' := [(0, .ref (0)), (1, .int (nI (stN w))), (2, .int (nI (2 ^ (b + 1))))]) (by simp) ?_
              have z9 := ih_lp2 g15 u2 (b + 1) (by omega) hf_g15 c_62_g15 (by omega) (nv_e (show NvI M b (ntW w) (2 ^ ntW w) u2 from hN))
              exact z9
            · have c17 : q < (stN w) := c17
              refine wn_ld (pc' := 28) (q := 3) (kin := 0) (v := .int (nI (q))) rfl (fun _ _ _ => rfl) rfl rfl ?_
              refine wn_ld (pc' := 29) (q := 2) (kin := 0) (v := .int (nI (2 ^ b))) rfl (fun _ _ _ => rfl) rfl rfl ?_
              refine wn_pu (pc' := 30) (st' := [.int ((nI (q)) &&& (nI (2 ^ b)))]) rfl (fun _ _ _ => rfl) rfl rfl ?_
              refine wn_ifc (t := 51) (f := 33) rfl rfl rfl (fun c18 => ?_) (fun c18 => ?_)
              · have c18 : (((nI (q)) &&& (nI (2 ^ b)))) = 0 := c18
                refine wn_incN (n := 1) (pc' := 54) (lv' := [(0, .ref (0)), (1, .int (nI (stN w))), (2, .int (nI (2 ^ b))), (3, .int (nI (q + 1)))]) rfl rfl rfl (Nat.le_of_ble_eq_true rfl) rfl (by decide) ?_
                refine wn_jp (pc' := 22) rfl rfl ?_
                refine wn_weak (lv' := [(0, .ref (0)), (1, .int (nI (stN w))), (2, .int (nI (2 ^ b))), (3, .int (nI (q + 1)))]) (by simp) ?_
                have z9 := ih_lp16 g15 u2 (q + 1) (by omega) hf_g15 c_62_g15 (by omega) (nv_f hN (pow_lt (by omega)) (fun q9 => by have e := tb_f (by omega) c18; rw [e] at q9; cases q9.1))
                exact z9
              · have c18 : ¬ (((nI (q)) &&& (nI (2 ^ b)))) = 0 := c18
                refine wn_ld (pc' := 34) (q := 0) (kin := 2) (v := .ref (0)) rfl (fun _ _ _ => rfl) rfl rfl ?_
                refine wn_get (pc' := 37) (v := .ref (62)) rfl rfl ((hf_g15.2 0 (by decide)).trans v1) rfl ?_
                refine wn_ld (pc' := 38) (q := 3) (kin := 0) (v := .int (nI (q))) rfl (fun _ _ _ => rfl) rfl rfl ?_
                refine wn_ld (pc' := 39) (q := 2) (kin := 0) (v := .int (nI (2 ^ b))) rfl (fun _ _ _ => rfl) rfl rfl ?_
                refine wn_pu (pc' := 40) (st' := [.int ((nI (q)) ^^^ (nI (2 ^ b))), .ref (62)]) rfl (fun _ _ _ => rfl) rfl rfl ?_
                rw [nI_xor]
                have xlt := Nat.xor_lt_two_pow (show q < 2 ^ ntW w by unfold stN at *; omega) (Nat.pow_lt_pow_right (a := 2) (by omega) (pow_lt (w := w) (b := b) (by omega)))
                have xl2 : q ^^^ 2 ^ b < stN w := xlt
                refine wn_baldv (pc' := 41) (j := q ^^^ 2 ^ b) (v := (bI (UnA M (b + 1) (ntW w) (q ^^^ 2 ^ b)))) rfl rfl (Or.inr rfl) c_62_g15 rfl (by omega) (by decide) (nv_rd hN (show q < 2 ^ ntW w by unfold stN at *; omega) (pow_lt (by omega)) (tb_t (by omega) c18)) ?_
                refine wn_ifeqB (t := 51) (f := 44) rfl rfl rfl (fun c19 => ?_) (fun c19 => ?_)
                · have c19 : ¬ (UnA M (b + 1) (ntW w) (q ^^^ 2 ^ b)) := c19
                  refine wn_incN (n := 1) (pc' := 54) (lv' := [(0, .ref (0)), (1, .int (nI (stN w))), (2, .int (nI (2 ^ b))), (3, .int (nI (q + 1)))]) rfl rfl rfl (Nat.le_of_ble_eq_true rfl) rfl (by decide) ?_
                  refine wn_jp (pc' := 22) rfl rfl ?_
                  refine wn_weak (lv' := [(0, .ref (0)), (1, .int (nI (stN w))), (2, .int (nI (2 ^ b))), (3, .int (nI (q + 1)))]) (by simp) ?_
                  have z9 := ih_lp16 g15 u2 (q + 1) (by omega) hf_g15 c_62_g15 (by omega) (nv_f hN (pow_lt (by omega)) (fun q9 => c19 q9.2))
                  exact z9
                · have c19 : (UnA M (b + 1) (ntW w) (q ^^^ 2 ^ b)) := c19
                  refine wn_ld (pc' := 45) (q := 0) (kin := 2) (v := .ref (0)) rfl (fun _ _ _ => rfl) rfl rfl ?_
                  refine wn_get (pc' := 48) (v := .ref (62)) rfl rfl ((hf_g15.2 0 (by decide)).trans v1) rfl ?_
                  refine wn_ld (pc' := 49) (q := 3) (kin := 0) (v := .int (nI (q))) rfl (fun _ _ _ => rfl) rfl rfl ?_
                  refine wn_ic (pc' := 50) (w := nI 1) rfl rfl (by decide) ?_
                  refine wn_bastZ (pc' := 51) (j := q) rfl rfl c_62_g15 rfl (by omega) (by decide) ?_
                  refine wn_incN (n := 1) (pc' := 54) (lv' := [(0, .ref (0)), (1, .int (nI (stN w))), (2, .int (nI (2 ^ b))), (3, .int (nI (q + 1)))]) rfl rfl rfl (Nat.le_of_ble_eq_true rfl) rfl (by decide) ?_
                  refine wn_jp (pc' := 22) rfl rfl ?_
                  refine wn_weak (lv' := [(0, .ref (0)), (1, .int (nI (stN w))), (2, .int (nI (2 ^ b))), (3, .int (nI (q + 1)))]) (by simp) ?_
                  have z9 := ih_lp16 (g15.set 62 (.inl (2, 1024, .inl (upd u2 (q) (vp_nar .boolean (nI (1))))))) (upd u2 (q) (vp_nar .boolean (nI (1)))) (q + 1) (by omega) (Fr.st hf_g15 (by decide)) (gs_self c_62_g15) (by omega) (nv_t hN (pow_lt (by omega)) (tb_t (by omega) c18) c19)
                  exact z9
        refine wn_weak (lv' := [(0, .ref (0)), (1, .int (nI (stN w))), (2, .int (nI (2 ^ b))), (3, .int (nI (0)))]) (by simp) ?_
        have z9 := lp16 ((stN w) + 1) g1 u1 0 (by omega) hf_g1 c_62_g1 (by omega) (nv_0 hU)
        exact z9
  refine wn_weak (lv' := [(0, .ref (0)), (1, .int (nI (stN w))), (2, .int (nI (1)))]) (by simp) ?_
  have z9 := lp2 ((ntW w) + 1) h un 0 (by omega) (Fr.rfl' [62] h) b0 (by omega) (fun x q => (hu x q).trans (bI_c (un_0 hM q).symm))
  rw [show (nI (2 ^ 0)) = (nI (1)) from (by rfl)] at z9
  exact z9

theorem x_tells (d : Nat) (h : aH) (ls : Nat) (w : Nat → Int32) (hWf : WfW w) (V : XV h ls w) (R0 : RX h h ls w) (y : Int32) : Sp (Rn (d + 7)) 87 [.ref (0), .int (y)] h (fun r9 h9 => r9 = some (.int (tellsA w y)) ∧ RX h h9 ls w) := by
  obtain ⟨⟨e1, e2⟩, ⟨e3, e4⟩, ⟨e5, e6⟩⟩ := Wf_n hWf
  obtain ⟨⟨e7, e8⟩, ⟨e9, e10⟩⟩ := Wf_m hWf
  obtain ⟨v0, ⟨x9, v1⟩, ⟨v2, ⟨sz, rf, rt, rv, ag, vr, sd, tl, l0, l1, l2, l3, l4, l5, l6, l7, l8, g1, g2, g3, g4, g5⟩, ⟨sec, it, fi, se, sg, lst, rs, rp, pj, pk, pv, k0, k1, k2, k3, k4, k5, k6, k7, k8, k9, k10, k11, k12, k13⟩, ⟨hv, hc, y0, y1, y2, y3, y4⟩, ⟨an, wk, n0, n1, n2, n3, n4⟩⟩, v3⟩ := id V
  rw [e1, e3, e5] at l0
  rw [e7, e9] at k1
  have p2b := stN_le hWf
  refine Sp_of (by decide) (Nat.le_of_ble_eq_true rfl) ?_
  show Wn _ _ 0 [(0, .ref (0)), (1, .int (y))] [] _ _
  refine wn_ld (pc' := 1) (q := 0) (kin := 2) (v := .ref (0)) rfl (fun _ _ _ => rfl) rfl rfl ?_
  refine wn_ld (pc' := 2) (q := 1) (kin := 0) (v := .int (y)) rfl (fun _ _ _ => rfl) rfl rfl ?_
  refine wn_virS (pc' := 5) rfl rfl (by decide) rfl rfl v1 (Nat.le_of_ble_eq_true rfl) (x_reachesYear _ _ ls w hWf V R0.2.2.1 y) (fun r9 h1 e2 => ?_)
  obtain ⟨rfl, R_h1, Ra_h1⟩ := e2
  have RY_h1 := RY.tr (RY.rfl' R0.2.2.1) R_h1
  have V_h1 := RY_h1.xv V
  obtain ⟨v0_h1, ⟨x9_h1, v1_h1⟩, ⟨v2_h1, ⟨sz_h1, rf_h1, rt_h1, rv_h1, ag_h1, vr_h1, sd_h1, tl_h1, l0_h1, l1_h1, l2_h1, l3_h1, l4_h1, l5_h1, l6_h1, l7_h1, l8_h1, g1_h1, g2_h1, g3_h1, g4_h1, g5_h1⟩, ⟨sec_h1, it_h1, fi_h1, se_h1, sg_h1, lst_h1, rs_h1, rp_h1, pj_h1, pk_h1, pv_h1, k0_h1, k1_h1, k2_h1, k3_h1, k4_h1, k5_h1, k6_h1, k7_h1, k8_h1, k9_h1, k10_h1, k11_h1, k12_h1, k13_h1⟩, ⟨hv_h1, hc_h1, y0_h1, y1_h1, y2_h1, y3_h1, y4_h1⟩, ⟨an_h1, wk_h1, n0_h1, n1_h1, n2_h1, n3_h1, n4_h1⟩⟩, v3_h1⟩ := id V_h1
  rw [e1, e3, e5] at l0_h1
  rw [e7, e9] at k1_h1
  show Wn _ _ 5 _ [.int (bI (iin y 61))] h1 _
  refine wn_ifneB (t := 11) (f := 8) rfl rfl rfl (fun c3 => ?_) (fun c3 => ?_)
  · have c3 : (iin y 61) := c3
    obtain ⟨y9, hy9, rfl⟩ := iin_of c3
    have ti_y := nI_toInt (n := y9) (show y9 < 2 ^ 31 by omega)
    have cl_y := nI_clamp (n := y9) (show y9 < 2 ^ 31 by omega)
    have Rd_h1 : ∀ i, i < ntW w → Rch h1 w i y9 := by have q := Ra_h1 c3; rw [cl_y] at q; exact q
    refine wn_ld (pc' := 12) (q := 0) (kin := 2) (v := .ref (0)) rfl (fun _ _ _ => rfl) rfl rfl ?_
    refine wn_virS (pc' := 15) rfl rfl (by decide) rfl rfl v1_h1 (Nat.le_of_ble_eq_true rfl) (x_clearUntold _ _ ls w hWf V_h1 _ (ScrX.i62 (RY.rx RY_h1 R0.2.2.2).2.2.2).choose_spec) (fun r9 h4 e5 => ?_)
    obtain ⟨rfl, f_h4, u_h4, i_h4, uz_h4⟩ := e5
    have RX_h4 := RX.s62 (RY.rx RY_h1 R0.2.2.2) f_h4 i_h4
    have V_h4 := RX_h4.xv V
    obtain ⟨v0_h4, ⟨x9_h4, v1_h4⟩, ⟨v2_h4, ⟨sz_h4, rf_h4, rt_h4, rv_h4, ag_h4, vr_h4, sd_h4, tl_h4, l0_h4, l1_h4, l2_h4, l3_h4, l4_h4, l5_h4, l6_h4, l7_h4, l8_h4, g1_h4, g2_h4, g3_h4, g4_h4, g5_h4⟩, ⟨sec_h4, it_h4, fi_h4, se_h4, sg_h4, lst_h4, rs_h4, rp_h4, pj_h4, pk_h4, pv_h4, k0_h4, k1_h4, k2_h4, k3_h4, k4_h4, k5_h4, k6_h4, k7_h4, k8_h4, k9_h4, k10_h4, k11_h4, k12_h4, k13_h4⟩, ⟨hv_h4, hc_h4, y0_h4, y1_h4, y2_h4, y3_h4, y4_h4⟩, ⟨an_h4, wk_h4, n0_h4, n1_h4, n2_h4, n3_h4, n4_h4⟩⟩, v3_h4⟩ := id V_h4
    rw [e1, e3, e5] at l0_h4
    rw [e7, e9] at k1_h4
    have Rb_h4 : ∀ i, i < ntW w → Rch h4 w i y9 := fun i q => Rch.fr (Rd_h1 i q) f_h4 (by decide)
    show Wn _ _ 15 _ [] h4 _
    refine wn_ic (pc' := 16) (w := nI 0) rfl rfl (by decide) ?_
    refine wn_st (pc' := 17) (q := 2) (kin := 0) (lv' := [(0, .ref (0)), (1, .int (nI (y9))), (2, .int (nI (0)))]) rfl (fun _ _ _ => rfl) rfl (Nat.le_of_ble_eq_true rfl) rfl ?_
    have lp7 : ∀ (n_lp7 : Nat) (g6 : aH) (u1 : Nat → Int32) (v : Nat), (nvW w) + 1 ≤ v + n_lp7 → Fr [62] h4 g6 → isZ g6 62 1024 u1 → v ≤ nvW w → (∀ x, x < stN w → u1 x = bI (MkT w y9 v (v + 1) x)) → Wn (Rn (d + 6)) 87 17 [(0, .ref (0)), (1, .int (nI (y9))), (2, .int (nI (v)))] [] (g6) (fun r9 h9 => r9 = some (.int (tellsA w (nI y9))) ∧ RX h h9 ls w) := by
      intro n_lp7
      induction n_lp7 with
      | zero => intro g6 u1 v hm_lp7 hf_g6 c_62_g6 hv_ hT; exfalso; omega
      | succ n_lp7 ih_lp7 =>
        intro g6 u1 v hm_lp7 hf_g6 c_62_g6 hv_ hT
        have V_g6 : XV g6 ls w := XV.frl V_h4 hf_g6 (by decide)
        have Ra_g6 : ∀ i, i < ntW w → Rch g6 w i y9 := fun i q => Rch.fr (Rb_h4 i q) hf_g6 (by decide)
        refine wn_ld (pc' := 18) (q := 2) (kin := 0) (v := .int (nI (v))) rfl (fun _ _ _ => rfl) rfl rfl ?_
        refine wn_ld (pc' := 19) (q := 0) (kin := 2) (v := .ref (0)) rfl (fun _ _ _ => rfl) rfl rfl ?_
        refine wn_get (pc' := 22) (v := .ref (23)) rfl rfl ((hf_g6.2 0 (by decide)).trans v1_h4) rfl ?_
        refine wn_get (pc' := 25) (v := .ref (ls)) rfl rfl ((hf_g6.2 23 (by decide)).trans v2_h4) rfl ?_
        refine wn_get (pc' := 28) (v := .int (nI (nvW w))) rfl rfl ((hf_g6.2 ls (by simp only [List.mem_cons, List.not_mem_nil, or_false]; omega)).trans l0_h4) rfl ?_
        refine wn_icmpN (t := 74) (f := 31) rfl rfl rfl (by omega) (by omega) (fun c8 => ?_) (fun c8 => ?_)
        · have c8 : (nvW w) ≤ v := c8
          obtain rfl : v = nvW w := by omega
          refine wn_ld (pc' := 75) (q := 0) (kin := 2) (v := .ref (0)) rfl (fun _ _ _ => rfl) rfl rfl ?_
          refine wn_virS (pc' := 78) rfl rfl (by decide) rfl rfl ((hf_g6.2 0 (by decide)).trans v1_h4) (Nat.le_of_ble_eq_true rfl) (x_fewestItems _ _ ls w hWf V_g6 _ c_62_g6 (MkT w y9 (nvW w) (nvW w + 1)) (fun d q => by obtain ⟨_, _, _, _, _, rfl⟩ := q; exact dfN_lt hWf _ _ _) hT) (fun r9 h9 e10 => ?_)
          obtain ⟨rfl, f_h9, u_h9, i_h9⟩ := e10
          show Wn _ _ 78 _ [.int (oI (fwS (gdS (MkT w y9 (nvW w) (nvW w + 1)) (ntW w)) popc (stN w)))] h9 _
          try simp only [Int32.lt_iff_toInt_lt, Int32.le_iff_toInt_le, i2l_int, Int32.toInt_zero, iin] at c3
          refine wn_iret rfl rfl rfl ⟨congrArg (fun z => some (Value.int z)) ?_, (RX.s62 (RX.s62 RX_h4 hf_g6 c_62_g6) f_h9 i_h9)⟩
          unfold tellsA
          rw [qI_t (by simp only [iin]; omega)]
          simp only [cl_y]
          exact congrArg oI (fwS_c (fun s9 h9 => gd_T hWf (by omega)) (fun _ _ => rfl))
        · have c8 : v < (nvW w) := c8
          refine wn_ld (pc' := 32) (q := 2) (kin := 0) (v := .int (nI (v))) rfl (fun _ _ _ => rfl) rfl rfl ?_
          refine wn_ic (pc' := 33) (w := nI 1) rfl rfl (by decide) ?_
          refine wn_addN (pc' := 34) rfl rfl ?_
          refine wn_st (pc' := 35) (q := 3) (kin := 0) (lv' := [(0, .ref (0)), (1, .int (nI (y9))), (2, .int (nI (v))), (3, .int (nI (v + 1)))]) rfl (fun _ _ _ => rfl) rfl (Nat.le_of_ble_eq_true rfl) rfl ?_
          have lp12 : ∀ (n_lp12 : Nat) (g11 : aH) (u2 : Nat → Int32) (u : Nat), (nvW w) + 1 ≤ u + n_lp12 → Fr [62] h4 g11 → isZ g11 62 1024 u2 → v + 1 ≤ u → u ≤ nvW w → (∀ x, x < stN w → u2 x = bI (MkT w y9 v u x)) → Wn (Rn (d + 6)) 87 35 [(0, .ref (0)), (1, .int (nI (y9))), (2, .int (nI (v))), (3, .int (nI (u)))] [] (g11) (fun r9 h9 => r9 = some (.int (tellsA w (nI y9))) ∧ RX h h9 ls w) := by
            intro n_lp12
            induction n_lp12 with
            | zero => intro g11 u2 u hm_lp12 hf_g11 c_62_g11 hu1 hu_ hV; exfalso; omega
            | succ n_lp12 ih_lp12 =>
              intro g11 u2 u hm_lp12 hf_g11 c_62_g11 hu1 hu_ hV
              have V_g11 : XV g11 ls w := XV.frl V_h4 hf_g11 (by decide)
              have Ra_g11 : ∀ i, i < ntW w → Rch g11 w i y9 := fun i q => Rch.fr (Rb_h4 i q) hf_g11 (by decide)
              refine wn_ld (pc' := 36) (q := 3) (kin := 0) (v := .int (nI (u))) rfl (fun _ _ _ => rfl) rfl rfl ?_
              refine wn_ld (pc' := 37) (q := 0) (kin := 2) (v := .ref (0)) rfl (fun _ _ _ => rfl) rfl rfl ?_
              refine wn_get (pc' := 40) (v := .ref (23)) rfl rfl ((hf_g11.2 0 (by decide)).trans v1_h4) rfl ?_
              refine wn_get (pc' := 43) (v := .ref (ls)) rfl rfl ((hf_g11.2 23 (by decide)).trans v2_h4) rfl ?_
              refine wn_get (pc' := 46) (v := .int (nI (nvW w))) rfl rfl ((hf_g11.2 ls (by simp only [List.mem_cons, List.not_mem_nil, or_false]; omega)).trans l0_h4) rfl ?_
              refine wn_icmpN (t := 68) (f := 49) rfl rfl rfl (by omega) (by omega) (fun c13 => ?_) (fun c13 => ?_)
              · have c13 : (nvW w) ≤ u := c13
                obtain rfl : u = nvW w := by omega
                refine wn_incN (n := 1) (pc' := 71) (lv' := [(0, .ref (0)), (1, .int (nI (y9))), (2, .int (nI (v + 1))), (3, .int (nI ((nvW w))))]) rfl rfl rfl (Nat.le_of_ble_eq_true rfl) rfl (by decide) ?_
                refine wn_jp (pc' := 17) rfl rfl ?_
                refine wn_weak (lv' := [(0, .ref (0)), (1, .int (nI (y9))), (2, .int (nI (v + 1)))]) (by simp) ?_
                have z9 := ih_lp7 g11 u2 (v + 1) (by omega) hf_g11 c_62_g11 (by omega) (fun x q => (hV x q).trans (bI_c (MkT_n x)))
                exact z9
              · have c13 : u < (nvW w) := c13
                refine wn_ld (pc' := 50) (q := 0) (kin := 2) (v := .ref (0)) rfl (fun _ _ _ => rfl) rfl rfl ?_
                refine wn_get (pc' := 53) (v := .ref (62)) rfl rfl ((hf_g11.2 0 (by decide)).trans v1_h4) rfl ?_
                refine wn_ld (pc' := 54) (q := 0) (kin := 2) (v := .ref (0)) rfl (fun _ _ _ => rfl) rfl rfl ?_
                refine wn_ld (pc' := 55) (q := 2) (kin := 0) (v := .int (nI (v))) rfl (fun _ _ _ => rfl) rfl rfl ?_
                refine wn_ld (pc' := 56) (q := 3) (kin := 0) (v := .int (nI (u))) rfl (fun _ _ _ => rfl) rfl rfl ?_
                refine wn_ld (pc' := 57) (q := 1) (kin := 0) (v := .int (nI (y9))) rfl (fun _ _ _ => rfl) rfl rfl ?_
                have := dfN_lt hWf y9 v u
                refine wn_virI (pc' := 60) rfl rfl (by decide) rfl rfl ((hf_g11.2 0 (by decide)).trans v1_h4) (Nat.le_of_ble_eq_true rfl) (x_difference _ _ ls w hWf V_g11 y9 (by omega) Ra_g11 v u (by omega) (by omega)) ?_
                rw [dfW_n hWf]
                refine wn_ic (pc' := 61) (w := nI 1) rfl rfl (by decide) ?_
                refine wn_bastZ (pc' := 62) (j := dfN w y9 v u) rfl rfl c_62_g11 rfl (by omega) (by decide) ?_
                refine wn_incN (n := 1) (pc' := 65) (lv' := [(0, .ref (0)), (1, .int (nI (y9))), (2, .int (nI (v))), (3, .int (nI (u + 1)))]) rfl rfl rfl (Nat.le_of_ble_eq_true rfl) rfl (by decide) ?_
                refine wn_jp (pc' := 35) rfl rfl ?_
                refine wn_weak (lv' := [(0, .ref (0)), (1, .int (nI (y9))), (2, .int (nI (v))), (3, .int (nI (u + 1)))]) (by simp) ?_
                have z9 := ih_lp12 (g11.set 62 (.inl (2, 1024, .inl (upd u2 (dfN w y9 v u) (vp_nar .boolean (nI (1))))))) (upd u2 (dfN w y9 v u) (vp_nar .boolean (nI (1)))) (u + 1) (by omega) (Fr.st hf_g11 (by decide)) (gs_self c_62_g11) (by omega) (by omega) (mk_u hV (MkT_s (by omega) (by omega)))
                exact z9
          refine wn_weak (lv' := [(0, .ref (0)), (1, .int (nI (y9))), (2, .int (nI (v))), (3, .int (nI (v + 1)))]) (by simp) ?_
          have z9 := lp12 ((nvW w) + 1) g6 u1 (v + 1) (by omega) hf_g6 c_62_g6 (by omega) (by omega) hT
          exact z9
    refine wn_weak (lv' := [(0, .ref (0)), (1, .int (nI (y9))), (2, .int (nI (0)))]) (by simp) ?_
    have z9 := lp7 ((nvW w) + 1) h4 u_h4 0 (by omega) (Fr.rfl' [62] h4) i_h4 (by omega) (fun x q => (uz_h4 x q).trans (bI_f0 (fun ⟨v9, u9, q1, q2, q3, q4⟩ => by omega)))
    exact z9
  · have c3 : ¬ (iin y 61) := c3
    refine wn_bp (pc' := 10) (w := -2) rfl rfl (by decide) ?_
    try simp only [Int32.lt_iff_toInt_lt, Int32.le_iff_toInt_le, i2l_int, Int32.toInt_zero, iin] at c3
    refine wn_iret rfl rfl rfl ⟨congrArg (fun z => some (Value.int z)) ?_, (RY.rx RY_h1 R0.2.2.2)⟩
    unfold tellsA
    rw [qI_f (by simp only [iin]; omega)]

theorem case_15 (y : Int32) : CaseI Rp 87 201 [.int y] := case_q (fun h ls w hWf V R => ⟨_, x_tells 693 h ls w hWf V R y, fun h1 HQ => m_tells 688 h1 w hWf HQ y⟩)
theorem x_alone (d : Nat) (h : aH) (ls : Nat) (w : Nat → Int32) (hWf : WfW w) (V : XV h ls w) (R0 : RX h h ls w) (v y : Int32) : Sp (Rn (d + 7)) 88 [.ref (0), .int (v), .int (y)] h (fun r9 h9 => r9 = some (.int (aloneA w v y)) ∧ RX h h9 ls w) := by
  obtain ⟨⟨e1, e2⟩, ⟨e3, e4⟩, ⟨e5, e6⟩⟩ := Wf_n hWf
  obtain ⟨⟨e7, e8⟩, ⟨e9, e10⟩⟩ := Wf_m hWf
  obtain ⟨v0, ⟨x9, v1⟩, ⟨v2, ⟨sz, rf, rt, rv, ag, vr, sd, tl, l0, l1, l2, l3, l4, l5, l6, l7, l8, g1, g2, g3, g4, g5⟩, ⟨sec, it, fi, se, sg, lst, rs, rp, pj, pk, pv, k0, k1, k2, k3, k4, k5, k6, k7, k8, k9, k10, k11, k12, k13⟩, ⟨hv, hc, y0, y1, y2, y3, y4⟩, ⟨an, wk, n0, n1, n2, n3, n4⟩⟩, v3⟩ := id V
  rw [e1, e3, e5] at l0
  rw [e7, e9] at k1
  have p2b := stN_le hWf
  refine Sp_of (by decide) (Nat.le_of_ble_eq_true rfl) ?_
  show Wn _ _ 0 [(0, .ref (0)), (1, .int (v)), (2, .int (y))] [] _ _
  refine wn_ld (pc' := 1) (q := 0) (kin := 2) (v := .ref (0)) rfl (fun _ _ _ => rfl) rfl rfl ?_
  refine wn_ld (pc' := 2) (q := 1) (kin := 0) (v := .int (v)) rfl (fun _ _ _ => rfl) rfl rfl ?_
  refine wn_virI (pc' := 5) rfl rfl (by decide) rfl rfl v1 (Nat.le_of_ble_eq_true rfl) (x_hasVillage _ _ ls w hWf V _) ?_
  refine wn_ifeqB (t := 16) (f := 8) rfl rfl rfl (fun c1 => ?_) (fun c1 => ?_)
  · have c1 : ¬ (iin v (nvW w)) := c1
    refine wn_bp (pc' := 18) (w := -2) rfl rfl (by decide) ?_
    try simp only [Int32.lt_iff_toInt_lt, Int32.le_iff_toInt_le, i2l_int, Int32.toInt_zero, iin] at c1
    refine wn_iret rfl rfl rfl ⟨congrArg (fun z => some (Value.int z)) ?_, (RY.rx (RY.rfl' R0.2.2.1) R0.2.2.2)⟩
    unfold aloneA
    rw [qI_f (by simp only [iin]; omega)]
  · have c1 : (iin v (nvW w)) := c1
    obtain ⟨v9, hv9, rfl⟩ := iin_of c1
    have ti_v := nI_toInt (n := v9) (show v9 < 2 ^ 31 by omega)
    have cl_v := nI_clamp (n := v9) (show v9 < 2 ^ 31 by omega)
    refine wn_ld (pc' := 9) (q := 0) (kin := 2) (v := .ref (0)) rfl (fun _ _ _ => rfl) rfl rfl ?_
    refine wn_ld (pc' := 10) (q := 2) (kin := 0) (v := .int (y)) rfl (fun _ _ _ => rfl) rfl rfl ?_
    refine wn_virS (pc' := 13) rfl rfl (by decide) rfl rfl v1 (Nat.le_of_ble_eq_true rfl) (x_reachesYear _ _ ls w hWf V R0.2.2.1 y) (fun r9 h2 e3 => ?_)
    obtain ⟨rfl, R_h2, Ra_h2⟩ := e3
    have RY_h2 := RY.tr (RY.rfl' R0.2.2.1) R_h2
    have V_h2 := RY_h2.xv V
    obtain ⟨v0_h2, ⟨x9_h2, v1_h2⟩, ⟨v2_h2, ⟨sz_h2, rf_h2, rt_h2, rv_h2, ag_h2, vr_h2, sd_h2, tl_h2, l0_h2, l1_h2, l2_h2, l3_h2, l4_h2, l5_h2, l6_h2, l7_h2, l8_h2, g1_h2, g2_h2, g3_h2, g4_h2, g5_h2⟩, ⟨sec_h2, it_h2, fi_h2, se_h2, sg_h2, lst_h2, rs_h2, rp_h2, pj_h2, pk_h2, pv_h2, k0_h2, k1_h2, k2_h2, k3_h2, k4_h2, k5_h2, k6_h2, k7_h2, k8_h2, k9_h2, k10_h2, k11_h2, k12_h2, k13_h2⟩, ⟨hv_h2, hc_h2, y0_h2, y1_h2, y2_h2, y3_h2, y4_h2⟩, ⟨an_h2, wk_h2, n0_h2, n1_h2, n2_h2, n3_h2, n4_h2⟩⟩, v3_h2⟩ := id V_h2
    rw [e1, e3, e5] at l0_h2
    rw [e7, e9] at k1_h2
    show Wn _ _ 13 _ [.int (bI (iin y 61))] h2 _
    refine wn_ifneB (t := 19) (f := 16) rfl rfl rfl (fun c4 => ?_) (fun c4 => ?_)
    · have c4 : (iin y 61) := c4
      obtain ⟨y9, hy9, rfl⟩ := iin_of c4
      have ti_y := nI_toInt (n := y9) (show y9 < 2 ^ 31 by omega)
      have cl_y := nI_clamp (n := y9) (show y9 < 2 ^ 31 by omega)
      have Rd_h2 : ∀ i, i < ntW w → Rch h2 w i y9 := by have q := Ra_h2 c4; rw [cl_y] at q; exact q
      refine wn_ld (pc' := 20) (q := 0) (kin := 2) (v := .ref (0)) rfl (fun _ _ _ => rfl) rfl rfl ?_
      refine wn_virS (pc' := 23) rfl rfl (by decide) rfl rfl v1_h2 (Nat.le_of_ble_eq_true rfl) (x_clearUntold _ _ ls w hWf V_h2 _ (ScrX.i62 (RY.rx RY_h2 R0.2.2.2).2.2.2).choose_spec) (fun r9 h5 e6 => ?_)
      obtain ⟨rfl, f_h5, u_h5, i_h5, uz_h5⟩ := e6
      have RX_h5 := RX.s62 (RY.rx RY_h2 R0.2.2.2) f_h5 i_h5
      have V_h5 := RX_h5.xv V
      obtain ⟨v0_h5, ⟨x9_h5, v1_h5⟩, ⟨v2_h5, ⟨sz_h5, rf_h5, rt_h5, rv_h5, ag_h5, vr_h5, sd_h5, tl_h5, l0_h5, l1_h5, l2_h5, l3_h5, l4_h5, l5_h5, l6_h5, l7_h5, l8_h5, g1_h5, g2_h5, g3_h5, g4_h5, g5_h5⟩, ⟨sec_h5, it_h5, fi_h5, se_h5, sg_h5, lst_h5, rs_h5, rp_h5, pj_h5, pk_h5, pv_h5, k0_h5, k1_h5, k2_h5, k3_h5, k4_h5, k5_h5, k6_h5, k7_h5, k8_h5, k9_h5, k10_h5, k11_h5, k12_h5, k13_h5⟩, ⟨hv_h5, hc_h5, y0_h5, y1_h5, y2_h5, y3_h5, y4_h5⟩, ⟨an_h5, wk_h5, n0_h5, n1_h5, n2_h5, n3_h5, n4_h5⟩⟩, v3_h5⟩ := id V_h5
      rw [e1, e3, e5] at l0_h5
      rw [e7, e9] at k1_h5
      have Rb_h5 : ∀ i, i < ntW w → Rch h5 w i y9 := fun i q => Rch.fr (Rd_h2 i q) f_h5 (by decide)
      show Wn _ _ 23 _ [] h5 _
      refine wn_ic (pc' := 24) (w := nI 0) rfl rfl (by decide) ?_
      refine wn_st (pc' := 25) (q := 3) (kin := 0) (lv' := [(0, .ref (0)), (1, .int (nI (v9))), (2, .int (nI (y9))), (3, .int (nI (0)))]) rfl (fun _ _ _ => rfl) rfl (Nat.le_of_ble_eq_true rfl) rfl ?_
      have lp8 : ∀ (n_lp8 : Nat) (g7 : aH) (u1 : Nat → Int32) (u : Nat), (nvW w) + 1 ≤ u + n_lp8 → Fr [62] h5 g7 → isZ g7 62 1024 u1 → u ≤ nvW w → (∀ x, x < stN w → u1 x = bI (MkA w y9 v9 u x)) → Wn (Rn (d + 6)) 88 25 [(0, .ref (0)), (1, .int (nI (v9))), (2, .int (nI (y9))), (3, .int (nI (u)))] [] (g7) (fun r9 h9 => r9 = some (.int (aloneA w (nI v9) (nI y9))) ∧ RX h h9 ls w) := by
        intro n_lp8
        induction n_lp8 with
        | zero => intro g7 u1 u hm_lp8 hf_g7 c_62_g7 hu_ hT; exfalso; omega
        | succ n_lp8 ih_lp8 =>
          intro g7 u1 u hm_lp8 hf_g7 c_62_g7 hu_ hT
          have V_g7 : XV g7 ls w := XV.frl V_h5 hf_g7 (by decide)
          have Ra_g7 : ∀ i, i < ntW w → Rch g7 w i y9 := fun i q => Rch.fr (Rb_h5 i q) hf_g7 (by decide)
          refine wn_ld (pc' := 26) (q := 3) (kin := 0) (v := .int (nI (u))) rfl (fun _ _ _ => rfl) rfl rfl ?_
          refine wn_ld (pc' := 27) (q := 0) (kin := 2) (v := .ref (0)) rfl (fun _ _ _ => rfl) rfl rfl ?_
          refine wn_get (pc' := 30) (v := .ref (23)) rfl rfl ((hf_g7.2 0 (by decide)).trans v1_h5) rfl ?_
          refine wn_get (pc' := 33) (v := .ref (ls)) rfl rfl ((hf_g7.2 23 (by decide)).trans v2_h5) rfl ?_
          refine wn_get (pc' := 36) (v := .int (nI (nvW w))) rfl rfl ((hf_g7.2 ls (by simp only [List.mem_cons, List.not_mem_nil, or_false]; omega)).trans l0_h5) rfl ?_
          refine wn_icmpN (t := 63) (f := 39) rfl rfl rfl (by omega) (by omega) (fun c9 => ?_) (fun c9 => ?_)
          · have c9 : (nvW w) ≤ u := c9
            obtain rfl : u = nvW w := by omega
            refine wn_ld (pc' := 64) (q := 0) (kin := 2) (v := .ref (0)) rfl (fun _ _ _ => rfl) rfl rfl ?_
            refine wn_virS (pc' := 67) rfl rfl (by decide) rfl rfl ((hf_g7.2 0 (by decide)).trans v1_h5) (Nat.le_of_ble_eq_true rfl) (x_fewestItems _ _ ls w hWf V_g7 _ c_62_g7 (MkA w y9 v9 (nvW w)) (fun d q => by obtain ⟨_, _, _, rfl⟩ := q; exact dfN_lt hWf _ _ _) hT) (fun r9 h10 e11 => ?_)
            obtain ⟨rfl, f_h10, u_h10, i_h10⟩ := e11
            show Wn _ _ 67 _ [.int (oI (fwS (gdS (MkA w y9 v9 (nvW w)) (ntW w)) popc (stN w)))] h10 _
            try simp only [Int32.lt_iff_toInt_lt, Int32.le_iff_toInt_le, i2l_int, Int32.toInt_zero, iin] at c1
            try simp only [Int32.lt_iff_toInt_lt, Int32.le_iff_toInt_le, i2l_int, Int32.toInt_zero, iin] at c4
            refine wn_iret rfl rfl rfl ⟨congrArg (fun z => some (Value.int z)) ?_, (RX.s62 (RX.s62 RX_h5 hf_g7 c_62_g7) f_h10 i_h10)⟩
            unfold aloneA
            rw [qI_t (by simp only [iin]; omega)]
            simp only [cl_v, cl_y]
            exact congrArg oI (fwS_c (fun s9 h9 => gd_A hWf (by omega) (by omega)) (fun _ _ => rfl))
          · have c9 : u < (nvW w) := c9
            refine wn_ld (pc' := 40) (q := 3) (kin := 0) (v := .int (nI (u))) rfl (fun _ _ _ => rfl) rfl rfl ?_
            refine wn_ld (pc' := 41) (q := 1) (kin := 0) (v := .int (nI (v9))) rfl (fun _ _ _ => rfl) rfl rfl ?_
            refine wn_icmpN (t := 57) (f := 44) rfl rfl rfl (by omega) (by omega) (fun c12 => ?_) (fun c12 => ?_)
            · have c12 : u = v9 := c12
              refine wn_incN (n := 1) (pc' := 60) (lv' := [(0, .ref (0)), (1, .int (nI (v9))), (2, .int (nI (y9))), (3, .int (nI (u + 1)))]) rfl rfl rfl (Nat.le_of_ble_eq_true rfl) rfl (by decide) ?_
              refine wn_jp (pc' := 25) rfl rfl ?_
              refine wn_weak (lv' := [(0, .ref (0)), (1, .int (nI (v9))), (2, .int (nI (y9))), (3, .int (nI (u + 1)))]) (by simp) ?_
              have z9 := ih_lp8 g7 u1 (u + 1) (by omega) hf_g7 c_62_g7 (by omega) (fun x q => (hT x q).trans (bI_c (MkA_n (by omega) x).symm))
              exact z9
            · have c12 : ¬ u = v9 := c12
              refine wn_ld (pc' := 45) (q := 0) (kin := 2) (v := .ref (0)) rfl (fun _ _ _ => rfl) rfl rfl ?_
              refine wn_get (pc' := 48) (v := .ref (62)) rfl rfl ((hf_g7.2 0 (by decide)).trans v1_h5) rfl ?_
              refine wn_ld (pc' := 49) (q := 0) (kin := 2) (v := .ref (0)) rfl (fun _ _ _ => rfl) rfl rfl ?_
              refine wn_ld (pc' := 50) (q := 1) (kin := 0) (v := .int (nI (v9))) rfl (fun _ _ _ => rfl) rfl rfl ?_
              refine wn_ld (pc' := 51) (q := 3) (kin := 0) (v := .int (nI (u))) rfl (fun _ _ _ => rfl) rfl rfl ?_
              refine wn_ld (pc' := 52) (q := 2) (kin := 0) (v := .int (nI (y9))) rfl (fun _ _ _ => rfl) rfl rfl ?_
              have := dfN_lt hWf y9 v9 u
              refine wn_virI (pc' := 55) rfl rfl (by decide) rfl rfl ((hf_g7.2 0 (by decide)).trans v1_h5) (Nat.le_of_ble_eq_true rfl) (x_difference _ _ ls w hWf V_g7 y9 (by omega) Ra_g7 v9 u (by omega) (by omega)) ?_
              rw [dfW_n hWf]
              refine wn_ic (pc' := 56) (w := nI 1) rfl rfl (by decide) ?_
              refine wn_bastZ (pc' := 57) (j := dfN w y9 v9 u) rfl rfl c_62_g7 rfl (by omega) (by decide) ?_
              refine wn_incN (n := 1) (pc' := 60) (lv' := [(0, .ref (0)), (1, .int (nI (v9))), (2, .int (nI (y9))), (3, .int (nI (u + 1)))]) rfl rfl rfl (Nat.le_of_ble_eq_true rfl) rfl (by decide) ?_
              refine wn_jp (pc' := 25) rfl rfl ?_
              refine wn_weak (lv' := [(0, .ref (0)), (1, .int (nI (v9))), (2, .int (nI (y9))), (3, .int (nI (u + 1)))]) (by simp) ?_
              have z9 := ih_lp8 (g7.set 62 (.inl (2, 1024, .inl (upd u1 (dfN w y9 v9 u) (vp_nar .boolean (nI (1))))))) (upd u1 (dfN w y9 v9 u) (vp_nar .boolean (nI (1)))) (u + 1) (by omega) (Fr.st hf_g7 (by decide)) (gs_self c_62_g7) (by omega) (mk_u hT (MkA_s (by omega)))
              exact z9
      refine wn_weak (lv' := [(0, .ref (0)), (1, .int (nI (v9))), (2, .int (nI (y9))), (3, .int (nI (0)))]) (by simp) ?_
      have z9 := lp8 ((nvW w) + 1) h5 u_h5 0 (by omega) (Fr.rfl' [62] h5) i_h5 (by omega) (fun x q => (uz_h5 x q).trans (bI_f0 (fun ⟨u9, q1, q2, q4⟩ => by omega)))
      exact z9
    · have c4 : ¬ (iin y 61) := c4
      refine wn_bp (pc' := 18) (w := -2) rfl rfl (by decide) ?_
      try simp only [Int32.lt_iff_toInt_lt, Int32.le_iff_toInt_le, i2l_int, Int32.toInt_zero, iin] at c1
      try simp only [Int32.lt_iff_toInt_lt, Int32.le_iff_toInt_le, i2l_int, Int32.toInt_zero, iin] at c4
      refine wn_iret rfl rfl rfl ⟨congrArg (fun z => some (Value.int z)) ?_, (RY.rx RY_h2 R0.2.2.2)⟩
      unfold aloneA
      rw [qI_f (by simp only [iin]; omega)]

theorem case_16 (v : Int32) (y : Int32) : CaseI Rp 88 202 [.int v, .int y] := case_q (fun h ls w hWf V R => ⟨_, x_alone 693 h ls w hWf V R v y, fun h1 HQ => m_alone 688 h1 w hWf HQ v y⟩)
