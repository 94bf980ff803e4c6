/-! NOTE, WALK, HEAR, MUTE -/
noncomputable def qW (p : Prop) (a b : Nat → Int32) : Nat → Int32 := @ite (Nat → Int32) p (Classical.propDecidable p) a b
theorem qW_t {p : Prop} {a b : Nat → Int32} (h : p) : qW p a b = a := if_pos h
theorem qW_f {p : Prop} {a b : Nat → Int32} (h : ¬ p) : qW p a b = b := if_neg h
theorem hdN_eq {w w' : Nat → Int32} {n : Nat} (h : ∀ i, i < n → w' (178 + 4 * i) = w (178 + 4 * i)) : hdN w' n = hdN w n := by
  induction n with
  | zero => rfl
  | succ n ih =>
    show hdN w' n + (if w' (178 + 4 * n) = -1 then 0 else 1) = hdN w n + (if w (178 + 4 * n) = -1 then 0 else 1)
    rw [ih (fun i hi => h i (by omega)), h n (by omega)]
theorem hdN_t {w : Nat → Int32} {n : Nat} (h : ¬ w (178 + 4 * n) = -1) : hdN w (n + 1) = hdN w n + 1 := by
  show hdN w n + (if w (178 + 4 * n) = -1 then 0 else 1) = _
  rw [if_neg h]
theorem hdN_f {w : Nat → Int32} {n : Nat} (h : w (178 + 4 * n) = -1) : hdN w (n + 1) = hdN w n := by
  show hdN w n + (if w (178 + 4 * n) = -1 then 0 else 1) = _
  rw [if_pos h]; rfl
/-- one ITEM's hearing set -/
theorem hdN_u {w w' : Nat → Int32} {i n : Nat} (hi : i < n) (h1 : ∀ k, k ≠ i → w' (178 + 4 * k) = w (178 + 4 * k)) (h2 : ¬ w' (178 + 4 * i) = -1) : hdN w' n = hdN w n + (if w (178 + 4 * i) = -1 then 1 else 0) := by
  induction n with
  | zero => omega
  | succ n ih =>
    by_cases c : i = n
    · subst c
      have e := hdN_eq (w := w) (w' := w') (n := i) (fun k hk => h1 k (by omega))
      rw [hdN_t h2, e]
      by_cases d : w (178 + 4 * i) = -1
      · rw [hdN_f d, if_pos d]
      · rw [hdN_t d, if_neg d]
    · have ih := ih (by omega)
      by_cases d : w (178 + 4 * n) = -1
      · rw [hdN_f d, hdN_f ((h1 n (fun q => c q.symm)).trans d), ih]
      · rw [hdN_t d, hdN_t (by rw [h1 n (fun q => c q.symm)]; exact d), ih]; omega
theorem VoiceR.eq {h : aH} {q : Nat} {w w' : Nat → Int32} (H : VoiceR h q w) (hn : ntW w' = ntW w) (he : ∀ i, i < ntW w → w' (178 + 4 * i) = w (178 + 4 * i) ∧ w' (179 + 4 * i) = w (179 + 4 * i)) : VoiceR h q w' := by
  obtain ⟨hv, hc, a0, a1, a2, a3, a4⟩ := H
  refine ⟨hv, hc, ?_, a1, a2, fun i hi => ⟨?_, (a3 i hi).2⟩, fun i hi hne => ?_⟩
  · rw [hn, hdN_eq (w := w) (fun i hi => (he i hi).1)]; exact a0
  · rw [hn, (a3 i hi).1]
    by_cases c : i < ntW w
    · rw [if_pos c, if_pos c, (he i c).1]
    · rw [if_neg c, if_neg c]
  · rw [hn] at hi
    rw [(he i hi).1] at hne
    rw [(he i hi).2]; exact a4 i hi hne
theorem ntS_eq {w w' : Nat → Int32} {n : Nat} (h : ∀ p, p < n → w' (1476 + p) = w (1476 + p)) : ntS w' n = ntS w n := by
  induction n with
  | zero => rfl
  | succ n ih =>
    show ntS w' n + (w' (1476 + n)).toNatClampNeg = ntS w n + (w (1476 + n)).toNatClampNeg
    rw [ih (fun p hp => h p (by omega)), h n (by omega)]
theorem ntS_u {w : Nat → Int32} {p x d n : Nat} (hp : p < n) (hx : nsW w p + d = x) (hb : x < 2 ^ 31) : ntS (upd w (1476 + p) (nI x)) n = ntS w n + d := by
  induction n with
  | zero => omega
  | succ n ih =>
    show ntS _ n + (upd w (1476 + p) (nI x) (1476 + n)).toNatClampNeg = ntS w n + nsW w n + d
    by_cases c : p = n
    · subst c
      rw [ntS_eq (w := w) (fun k hk => pk_un (by omega)), pk_us, nI_clamp hb]; omega
    · rw [ih (by omega), pk_un (by omega)]
      show ntS w n + d + nsW w n = _
      omega
theorem NotesR.eq {h : aH} {q : Nat} {w w' : Nat → Int32} (H : NotesR h q w) (hn : nvW w' = nvW w) (he : ∀ p, p < 1200 → w' (1476 + p) = w (1476 + p)) (hv : ∀ v, v < nvW w → w' (9 + 2 * v) = w (9 + 2 * v)) : NotesR h q w' := by
  obtain ⟨an, wk, a0, a1, a2, a3, a4⟩ := H
  refine ⟨an, wk, ?_, a1, a2, fun p hp => (a3 p hp).trans (he p hp).symm, fun v h24 => ?_⟩
  · rw [ntS_eq (w := w) he]; exact a0
  · rw [hn, a4 v h24]
    by_cases c : v < nvW w
    · rw [if_pos c, if_pos c, hv v c]
    · rw [if_neg c, if_neg c]
theorem XV.vo {h : aH} {ls : Nat} {w : Nat → Int32} (V : XV h ls w) : VoiceR h 44 w := V.2.2.1.2.2.2.1
theorem XV.no {h : aH} {ls : Nat} {w : Nat → Int32} (V : XV h ls w) : NotesR h 47 w := V.2.2.1.2.2.2.2
def noteC (w : Nat → Int32) (v i a n : Int32) : Prop := iin v (nvW w) ∧ (iin i (ntW w) ∧ iin a (vaW w i.toNatClampNeg)) ∧ (1 ≤ n.toInt ∧ n.toInt ≤ 9)
def noteP (v i a : Int32) : Nat := (v.toNatClampNeg * 10 + i.toNatClampNeg) * 5 + a.toNatClampNeg
noncomputable def noteA (w : Nat → Int32) (v i a n : Int32) : Int32 := qI (noteC w v i a n) (qI (nsW w (noteP v i a) + n.toNatClampNeg ≤ 9) (nI (nsW w (noteP v i a) + n.toNatClampNeg)) (-3)) (-2)
noncomputable def noteW (w : Nat → Int32) (v i a n : Int32) : Nat → Int32 := qW (noteC w v i a n ∧ nsW w (noteP v i a) + n.toNatClampNeg ≤ 9) (upd w (1476 + noteP v i a) (nI (nsW w (noteP v i a) + n.toNatClampNeg))) w
theorem n19_of {x : Int32} (h1 : 1 ≤ x.toInt) (h2 : x.toInt ≤ 9) : ∃ j, 1 ≤ j ∧ j ≤ 9 ∧ x = nI j := by
  obtain ⟨j, hj, rfl⟩ := iin_of (x := x) (n := 10) ⟨by omega, by omega⟩
  rw [nI_toInt (by omega)] at h1 h2
  exact ⟨j, by omega, by omega, rfl⟩
theorem noteC_o {w : Nat → Int32} (hWf : WfW w) {v i a n : Int32} (h : noteC w v i a n) : noteP v i a < 1200 := by
  obtain ⟨h1, ⟨h2, h3⟩, _⟩ := h
  obtain ⟨v9, q1, rfl⟩ := iin_of h1
  obtain ⟨i9, q2, rfl⟩ := iin_of h2
  have b1 := hWf.1.2.1.2
  have b2 := hWf.1.2.2.2.1.2
  rw [nI_clamp (show i9 < 2 ^ 31 by omega)] at h3
  have b3 := wf_vab hWf q2
  obtain ⟨a9, q3, rfl⟩ := iin_of h3
  unfold noteP
  rw [nI_clamp (by omega), nI_clamp (by omega), nI_clamp (by omega)]; omega
theorem note_w {w : Nat → Int32} (v i a n : Int32) (hWf : WfW w) (h8 : Hd8 w) : WfW (noteW w v i a n) ∧ Hd8 (noteW w v i a n) ∧ AgW w (noteW w v i a n) := by
  by_cases c : noteC w v i a n ∧ nsW w (noteP v i a) + n.toNatClampNeg ≤ 9
  · have hp := noteC_o hWf c.1
    unfold noteW
    rw [qW_t c]
    generalize noteP v i a = p at hp c ⊢
    generalize hx : nsW w p + n.toNatClampNeg = x at c ⊢
    have A : AgW w (upd w (1476 + p) (nI x)) := AgW_u (Or.inr (Or.inr (by omega)))
    have b1 := hWf.1.2.1.2
    have b2 := hWf.1.2.2.2.1.2
    refine ⟨wf_ag hWf A (fun v hv => ?_) (fun i hi => ?_) (fun q hq => ?_), ?_, A⟩
    · rw [pk_un (by omega)]; exact (hWf.2.1 v hv).2
    · rw [pk_un (by omega), pk_un (by omega)]; exact ⟨(hWf.2.2.2.1 i hi).2.2.1, (hWf.2.2.2.1 i hi).2.2.2⟩
    · by_cases e : q = p
      · subst e; exact ⟨x, c.2, pk_us⟩
      · rw [pk_un (by omega)]; exact hWf.2.2.2.2.1.2 q hq
    · unfold Hd8
      rw [ag_nt A, hdN_eq (w := w) (fun k hk => pk_un (by omega))]; exact h8
  · unfold noteW; rw [qW_f c]; exact ⟨hWf, h8, AgW.rfl'⟩
def walkC (w : Nat → Int32) (v a : Int32) : Prop := iin v (nvW w) ∧ ((-1 : Int) ≤ a.toInt ∧ a.toInt ≤ 5)
noncomputable def walkA (w : Nat → Int32) (v a : Int32) : Int32 := qI (walkC w v a) (w (9 + 2 * v.toNatClampNeg)) (-2)
noncomputable def walkW (w : Nat → Int32) (v a : Int32) : Nat → Int32 := qW (walkC w v a) (upd w (9 + 2 * v.toNatClampNeg) a) w
theorem m1_6 {a : Int32} (h1 : (-1 : Int) ≤ a.toInt) (h2 : a.toInt ≤ 5) : m1 a 6 := by
  by_cases c : 0 ≤ a.toInt
  · obtain ⟨j, hj, e⟩ := iin_of (x := a) (n := 6) ⟨c, by omega⟩
    exact Or.inr ⟨j, hj, e⟩
  · left
    apply Int32.toInt_inj.mp
    have : (-1 : Int32).toInt = -1 := by decide
    omega
theorem walk_w {w : Nat → Int32} (v a : Int32) (hWf : WfW w) (h8 : Hd8 w) : WfW (walkW w v a) ∧ Hd8 (walkW w v a) ∧ AgW w (walkW w v a) := by
  by_cases c : walkC w v a
  · unfold walkW
    rw [qW_t c]
    obtain ⟨c1, c2, c3⟩ := c
    obtain ⟨v9, q1, rfl⟩ := iin_of c1
    have b1 := hWf.1.2.1.2
    have b2 := hWf.1.2.2.2.1.2
    rw [nI_clamp (by omega)]
    have A : AgW w (upd w (9 + 2 * v9) a) := AgW_u (Or.inl (by omega))
    refine ⟨wf_ag hWf A (fun v hv => ?_) (fun i hi => ?_) (fun q hq => ?_), ?_, A⟩
    · by_cases e : v = v9
      · subst e; rw [pk_us]; exact m1_6 c2 c3
      · rw [pk_un (by omega)]; exact (hWf.2.1 v hv).2
    · rw [pk_un (by omega), pk_un (by omega)]; exact ⟨(hWf.2.2.2.1 i hi).2.2.1, (hWf.2.2.2.1 i hi).2.2.2⟩
    · rw [pk_un (by omega)]; exact hWf.2.2.2.2.1.2 q hq
    · unfold Hd8
      rw [ag_nt A, hdN_eq (w := w) (fun k hk => pk_un (by omega))]; exact h8
  · unfold walkW; rw [qW_f c]; exact ⟨hWf, h8, AgW.rfl'⟩
def hearC (w : Nat → Int32) (i a : Int32) : Prop := iin i (ntW w) ∧ iin a (vaW w i.toNatClampNeg)
def hearF (w : Nat → Int32) (i : Nat) : Prop := w (178 + 4 * i) = -1 ∧ hdN w (ntW w) = 8
noncomputable def hearU (w : Nat → Int32) (i : Nat) (a : Int32) (c : Prop) : Nat → Int32 := upd (upd w (178 + 4 * i) a) (179 + 4 * i) (bI c)
noncomputable def hearW (w : Nat → Int32) (i a : Int32) (c : Prop) : Nat → Int32 := qW (hearC w i a ∧ ¬ hearF w i.toNatClampNeg) (hearU w i.toNatClampNeg a c) w
noncomputable def hearA (w : Nat → Int32) (i a : Int32) : Int32 := qI (hearC w i a) (qI (hearF w i.toNatClampNeg) (-3) (nI (hdN w (ntW w) + (if w (178 + 4 * i.toNatClampNeg) = -1 then 1 else 0)))) (-2)
theorem b01_bI (c : Prop) : b01 (bI c) := by
  by_cases h : c
  · rw [bI_t h]; exact Or.inr rfl
  · rw [bI_f h]; exact Or.inl rfl
theorem hearU_ag {w : Nat → Int32} {i : Nat} {a : Int32} {c : Prop} (hi : i < 10) : AgW w (hearU w i a c) := AgW.tr (AgW_u (Or.inr (Or.inl (by omega)))) (AgW_u (Or.inr (Or.inl (by omega))))
theorem hearU_h {w : Nat → Int32} {i : Nat} {a : Int32} {c : Prop} : hearU w i a c (178 + 4 * i) = a ∧ hearU w i a c (179 + 4 * i) = bI c := ⟨(pk_un (by omega)).trans pk_us, pk_us⟩
theorem hearU_n {w : Nat → Int32} {i : Nat} {a : Int32} {c : Prop} {p : Nat} (h1 : p ≠ 178 + 4 * i) (h2 : p ≠ 179 + 4 * i) : hearU w i a c p = w p := (pk_un h2).trans (pk_un h1)
theorem hearU_d {w : Nat → Int32} {i j : Nat} {c : Prop} {n : Nat} (hi : i < n) (hj : j < 2 ^ 31) : hdN (hearU w i (nI j) c) n = hdN w n + (if w (178 + 4 * i) = -1 then 1 else 0) := hdN_u hi (fun k hk => hearU_n (by omega) (by omega)) (by rw [hearU_h.1]; exact nI_m1 hj)
theorem hear_w {w : Nat → Int32} (i a : Int32) (c : Prop) (hWf : WfW w) (h8 : Hd8 w) : WfW (hearW w i a c) ∧ Hd8 (hearW w i a c) ∧ AgW w (hearW w i a c) := by
  by_cases q : hearC w i a ∧ ¬ hearF w i.toNatClampNeg
  · unfold hearW
    rw [qW_t q]
    obtain ⟨⟨c1, c2⟩, c3⟩ := q
    obtain ⟨i9, q1, rfl⟩ := iin_of c1
    have b1 := hWf.1.2.1.2
    have b2 := hWf.1.2.2.2.1.2
    rw [nI_clamp (show i9 < 2 ^ 31 by omega)] at c2 c3 ⊢
    have bv := wf_vab hWf q1
    obtain ⟨a9, q2, rfl⟩ := iin_of c2
    have A : AgW w (hearU w i9 (nI a9) c) := hearU_ag (by omega)
    refine ⟨wf_ag hWf A (fun v hv => ?_) (fun i hi => ?_) (fun q hq => ?_), ?_, A⟩
    · rw [hearU_n (by omega) (by omega)]; exact (hWf.2.1 v hv).2
    · by_cases e : i = i9
      · subst e; rw [hearU_h.1, hearU_h.2]; exact ⟨Or.inr ⟨a9, q2, rfl⟩, b01_bI c⟩
      · rw [hearU_n (by omega) (by omega), hearU_n (by omega) (by omega)]; exact ⟨(hWf.2.2.2.1 i hi).2.2.1, (hWf.2.2.2.1 i hi).2.2.2⟩
    · rw [hearU_n (by omega) (by omega)]; exact hWf.2.2.2.2.1.2 q hq
    · unfold Hd8 at h8 ⊢
      rw [ag_nt A, hearU_d q1 (by omega)]
      by_cases d : w (178 + 4 * i9) = -1
      · rw [if_pos d]
        have : hdN w (ntW w) ≠ 8 := fun q => c3 ⟨d, q⟩
        omega
      · rw [if_neg d]; exact h8
  · unfold hearW; rw [qW_f q]; exact ⟨hWf, h8, AgW.rfl'⟩
theorem nar_bo (c : Prop) : vp_nar .boolean (bI c) = bI c := by
  by_cases h : c
  · rw [bI_t h]; decide
  · rw [bI_f h]; decide
theorem hear_V {w hv hc : Nat → Int32} {i a : Nat} {c : Prop} (hWf : WfW w) (hi : i < ntW w) (y3 : ∀ i, i < 10 → hv i = (if i < ntW w then w (178 + 4 * i) else -1) ∧ b01 (hc i)) (y4 : ∀ i, i < ntW w → w (178 + 4 * i) ≠ -1 → hc i = w (179 + 4 * i)) : (∀ k, k < 10 → upd hv i (nI a) k = (if k < ntW (hearU w i (nI a) c) then hearU w i (nI a) c (178 + 4 * k) else -1) ∧ b01 (upd hc i (vp_nar .boolean (bI c)) k)) ∧ ∀ k, k < ntW (hearU w i (nI a) c) → hearU w i (nI a) c (178 + 4 * k) ≠ -1 → upd hc i (vp_nar .boolean (bI c)) k = hearU w i (nI a) c (179 + 4 * k) := by
  have b := hWf.1.2.2.2.1.2
  rw [ag_nt (hearU_ag (w := w) (a := nI a) (c := c) (show i < 10 by omega)), nar_bo]
  refine ⟨fun k hk => ?_, fun k hk hne => ?_⟩
  · by_cases e : k = i
    · subst e; rw [pk_us, pk_us, if_pos hi, hearU_h.1]; exact ⟨rfl, b01_bI c⟩
    · rw [pk_un e, pk_un e, hearU_n (by omega) (by omega)]; exact y3 k hk
  · by_cases e : k = i
    · subst e; rw [pk_us, hearU_h.2]
    · rw [hearU_n (by omega) (by omega)] at hne
      rw [pk_un e, hearU_n (by omega) (by omega)]; exact y4 k hk hne
def mtW (w : Nat → Int32) : Nat → Nat → Int32
  | 0 => w
  | k + 1 => upd (mtW w k) (178 + 4 * k) (-1)
theorem mtW_n {w : Nat → Int32} {k p : Nat} (h : ∀ j, j < k → p ≠ 178 + 4 * j) : mtW w k p = w p := by
  induction k with
  | zero => rfl
  | succ k ih => exact (pk_un (h k (by omega))).trans (ih (fun j hj => h j (by omega)))
theorem mtW_h {w : Nat → Int32} {k j : Nat} (h : j < k) : mtW w k (178 + 4 * j) = -1 := by
  induction k with
  | zero => omega
  | succ k ih =>
    by_cases e : j = k
    · subst e; exact pk_us
    · exact (pk_un (by omega)).trans (ih (by omega))
theorem mtW_ag {w : Nat → Int32} {k : Nat} (h : k ≤ 10) : AgW w (mtW w k) := fun p hp => mtW_n (fun j hj e => hp (Or.inr (Or.inl (by omega))))
def muteW (w : Nat → Int32) : Nat → Int32 := mtW w (ntW w)
theorem hdN_z {w : Nat → Int32} {n : Nat} (h : ∀ i, i < n → w (178 + 4 * i) = -1) : hdN w n = 0 := by
  induction n with
  | zero => rfl
  | succ n ih => rw [hdN_f (h n (by omega)), ih (fun i hi => h i (by omega))]
theorem mute_w {w : Nat → Int32} (hWf : WfW w) (_ : Hd8 w) : WfW (muteW w) ∧ Hd8 (muteW w) ∧ AgW w (muteW w) := by
  have b1 := hWf.1.2.1.2
  have b2 := hWf.1.2.2.2.1.2
  have A : AgW w (muteW w) := mtW_ag b2
  refine ⟨wf_ag hWf A (fun v hv => ?_) (fun i hi => ?_) (fun q hq => ?_), ?_, A⟩
  · rw [show muteW w (9 + 2 * v) = w (9 + 2 * v) from mtW_n (fun j hj => by omega)]; exact (hWf.2.1 v hv).2
  · rw [show muteW w (178 + 4 * i) = -1 from mtW_h hi, show muteW w (179 + 4 * i) = w (179 + 4 * i) from mtW_n (fun j hj => by omega)]; exact ⟨Or.inl rfl, (hWf.2.2.2.1 i hi).2.2.2⟩
  · rw [show muteW w (1476 + q) = w (1476 + q) from mtW_n (fun j hj => by omega)]; exact hWf.2.2.2.2.1.2 q hq
  · unfold Hd8
    rw [ag_nt A, show hdN (muteW w) (ntW w) = 0 from hdN_z (fun i hi => mtW_h hi)]; omega
theorem x_note (d : Nat) (h : aH) (ls : Nat) (w : Nat → Int32) (hWf : WfW w) (V : XV h ls w) (v i a n : Int32) : Sp (Rn (d + 3)) 109 [.ref (0), .int (v), .int (i), .int (a), .int (n)] h (fun r9 h9 => r9 = some (.int (noteA w v i a n)) ∧ h9.length = h.length ∧ (∀ k, k < 44 ∨ 50 ≤ k → h9[k]? = h[k]?) ∧ VoiceR h9 44 (noteW w v i a n) ∧ NotesR h9 47 (noteW w v i a n)) := by
  obtain ⟨⟨e1, e2⟩, ⟨e3, e4⟩, ⟨e5, e6⟩⟩ := Wf_n hWf
  obtain ⟨⟨e7, e8⟩, ⟨e9, e10⟩⟩ := Wf_m hWf
  obtain ⟨v0, ⟨x9, v1⟩, ⟨v2, ⟨sz, rf, rt, rv, ag, vr, sd, tl, l0, l1, l2, l3, l4, l5, l6, l7, l8, g1, g2, g3, g4, g5⟩, ⟨sec, it, fi, se, sg, lst, rs, rp, pj, pk, pv, k0, k1, k2, k3, k4, k5, k6, k7, k8, k9, k10, k11, k12, k13⟩, ⟨hv, hc, y0, y1, y2, y3, y4⟩, ⟨an, wk, n0, n1, n2, n3, n4⟩⟩, v3⟩ := id V
  rw [e1, e3, e5] at l0
  rw [e7, e9] at k1
  refine Sp_of (by decide) (Nat.le_of_ble_eq_true rfl) ?_
  show Wn _ _ 0 [(0, .ref (0)), (1, .int (v)), (2, .int (i)), (3, .int (a)), (4, .int (n))] [] _ _
  refine wn_ld (pc' := 1) (q := 0) (kin := 2) (v := .ref (0)) rfl (fun _ _ _ => rfl) rfl rfl ?_
  refine wn_ld (pc' := 2) (q := 1) (kin := 0) (v := .int (v)) rfl (fun _ _ _ => rfl) rfl rfl ?_
  refine wn_virI (pc' := 5) rfl rfl (by decide) rfl rfl v1 (Nat.le_of_ble_eq_true rfl) (x_hasVillage _ _ ls w hWf V _) ?_
  refine wn_ifeqB (t := 30) (f := 8) rfl rfl rfl (fun c1 => ?_) (fun c1 => ?_)
  · have c1 : ¬ (iin v (nvW w)) := c1
    refine wn_bp (pc' := 32) (w := -2) rfl rfl (by decide) ?_
    refine wn_iret rfl rfl rfl ⟨congrArg (fun z => some (Value.int z)) ?_, rfl, fun _ _ => rfl, ?_, ?_⟩
    · exact (qI_f (fun q => c1 q.1)).symm
    · rw [show noteW w v i a n = w from qW_f (fun q => (fun q => c1 q.1) q.1)]; exact V.vo
    · rw [show noteW w v i a n = w from qW_f (fun q => (fun q => c1 q.1) q.1)]; exact V.no
  · have c1 : (iin v (nvW w)) := c1
    obtain ⟨v9, hv9, rfl⟩ := iin_of c1
    have ti_v := nI_toInt (n := v9) (show v9 < 2 ^ 31 by omega)
    have cl_v := nI_clamp (n := v9) (show v9 < 2 ^ 31 by omega)
    refine wn_ld (pc' := 9) (q := 0) (kin := 2) (v := .ref (0)) rfl (fun _ _ _ => rfl) rfl rfl ?_
    refine wn_ld (pc' := 10) (q := 2) (kin := 0) (v := .int (i)) rfl (fun _ _ _ => rfl) rfl rfl ?_
    refine wn_ld (pc' := 11) (q := 3) (kin := 0) (v := .int (a)) rfl (fun _ _ _ => rfl) rfl rfl ?_
    refine wn_virI (pc' := 14) rfl rfl (by decide) rfl rfl v1 (Nat.le_of_ble_eq_true rfl) (x_hasVariant _ _ ls w hWf V _ _) ?_
    refine wn_ifeqB (t := 30) (f := 17) rfl rfl rfl (fun c2 => ?_) (fun c2 => ?_)
    · have c2 : ¬ (iin i (ntW w) ∧ iin a (vaW w i.toNatClampNeg)) := c2
      refine wn_bp (pc' := 32) (w := -2) rfl rfl (by decide) ?_
      refine wn_iret rfl rfl rfl ⟨congrArg (fun z => some (Value.int z)) ?_, rfl, fun _ _ => rfl, ?_, ?_⟩
      · exact (qI_f (fun q => c2 q.2.1)).symm
      · rw [show noteW w (nI v9) i a n = w from qW_f (fun q => (fun q => c2 q.2.1) q.1)]; exact V.vo
      · rw [show noteW w (nI v9) i a n = w from qW_f (fun q => (fun q => c2 q.2.1) q.1)]; exact V.no
    · have c2 : (iin i (ntW w) ∧ iin a (vaW w i.toNatClampNeg)) := c2
      obtain ⟨i9, hi9, rfl⟩ := iin_of c2.1
      have ti_i := nI_toInt (n := i9) (show i9 < 2 ^ 31 by omega)
      have cl_i := nI_clamp (n := i9) (show i9 < 2 ^ 31 by omega)
      have hva_i := wf_vab hWf hi9
      obtain ⟨a9, ha9, rfl⟩ := iin_of (by simpa only [cl_i] using c2.2)
      have ti_a := nI_toInt (n := a9) (show a9 < 2 ^ 31 by omega)
      have cl_a := nI_clamp (n := a9) (show a9 < 2 ^ 31 by omega)
      refine wn_ld (pc' := 19) (q := 4) (kin := 0) (v := .int (n)) rfl (fun _ _ _ => rfl) rfl rfl ?_
      refine wn_ic (pc' := 20) (w := nI 1) rfl rfl (by decide) ?_
      refine wn_icmp (t := 30) (f := 23) rfl rfl rfl (fun c3 => ?_) (fun c3 => ?_)
      · have c3 : ((n)) < ((nI (1))) := c3
        refine wn_bp (pc' := 32) (w := -2) rfl rfl (by decide) ?_
        have en1 : (nI 1).toInt = 1 := by decide
        have en9 : (nI 9).toInt = 9 := by decide
        have k9 := Int32.lt_iff_toInt_lt.mp c3
        refine wn_iret rfl rfl rfl ⟨congrArg (fun z => some (Value.int z)) ?_, rfl, fun _ _ => rfl, ?_, ?_⟩
        · exact (qI_f (fun q => by have := q.2.2; omega)).symm
        · rw [show noteW w (nI v9) (nI i9) (nI a9) n = w from qW_f (fun q => (fun q => by have := q.2.2; omega) q.1)]; exact V.vo
        · rw [show noteW w (nI v9) (nI i9) (nI a9) n = w from qW_f (fun q => (fun q => by have := q.2.2; omega) q.1)]; exact V.no
      · have c3 : ((nI (1))) ≤ ((n)) := c3
        refine wn_ld (pc' := 25) (q := 4) (kin := 0) (v := .int (n)) rfl (fun _ _ _ => rfl) rfl rfl ?_
        refine wn_bp (pc' := 27) (w := nI 9) rfl rfl (by decide) ?_
        refine wn_icmp (t := 33) (f := 30) rfl rfl rfl (fun c4 => ?_) (fun c4 => ?_)
        · have c4 : ((n)) ≤ ((nI (9))) := c4
          have en1 : (nI 1).toInt = 1 := by decide
          have en9 : (nI 9).toInt = 9 := by decide
          have kk1 := Int32.le_iff_toInt_le.mp c3
          have kk2 := Int32.le_iff_toInt_le.mp c4
          obtain ⟨n9, hn1, hn9, rfl⟩ := n19_of (x := n) (by omega) (by omega)
          have ti_n := nI_toInt (n := n9) (show n9 < 2 ^ 31 by omega)
          have cl_n := nI_clamp (n := n9) (show n9 < 2 ^ 31 by omega)
          have p12 : (v9 * 10 + i9) * 5 + a9 < 1200 := by omega
          refine wn_ld (pc' := 34) (q := 0) (kin := 2) (v := .ref (0)) rfl (fun _ _ _ => rfl) rfl rfl ?_
          refine wn_get (pc' := 37) (v := .ref (23)) rfl rfl v1 rfl ?_
          refine wn_get (pc' := 40) (v := .ref (47)) rfl rfl v2 rfl ?_
          refine wn_st (pc' := 42) (q := 5) (kin := 2) (lv' := [(0, .ref (0)), (1, .int (nI (v9))), (2, .int (nI (i9))), (3, .int (nI (a9))), (4, .int (nI (n9))), (5, .ref (47))]) rfl (fun _ _ _ => rfl) rfl (Nat.le_of_ble_eq_true rfl) rfl ?_
          refine wn_ld (pc' := 43) (q := 1) (kin := 0) (v := .int (nI (v9))) rfl (fun _ _ _ => rfl) rfl rfl ?_
          refine wn_ld (pc' := 44) (q := 2) (kin := 0) (v := .int (nI (i9))) rfl (fun _ _ _ => rfl) rfl rfl ?_
          refine wn_ld (pc' := 45) (q := 3) (kin := 0) (v := .int (nI (a9))) rfl (fun _ _ _ => rfl) rfl rfl ?_
          refine wn_staI (pc' := 48) rfl rfl (by decide) rfl rfl (Nat.le_of_ble_eq_true rfl) (x_place _ _ v9 i9 a9) ?_
          refine wn_st (pc' := 50) (q := 6) (kin := 0) (lv' := [(0, .ref (0)), (1, .int (nI (v9))), (2, .int (nI (i9))), (3, .int (nI (a9))), (4, .int (nI (n9))), (5, .ref (47)), (6, .int (nI ((v9 * 10 + i9) * 5 + a9)))]) rfl (fun _ _ _ => rfl) rfl (Nat.le_of_ble_eq_true rfl) rfl ?_
          refine wn_ld (pc' := 52) (q := 5) (kin := 2) (v := .ref (47)) rfl (fun _ _ _ => rfl) rfl rfl ?_
          refine wn_get (pc' := 55) (v := .ref (48)) rfl rfl n0 rfl ?_
          refine wn_ld (pc' := 57) (q := 6) (kin := 0) (v := .int (nI ((v9 * 10 + i9) * 5 + a9))) rfl (fun _ _ _ => rfl) rfl rfl ?_
          have := wf_nsb hWf (show ((v9 * 10 + i9) * 5 + a9) < 1200 by omega)
          refine wn_ialdv (pc' := 58) (j := (v9 * 10 + i9) * 5 + a9) (v := (nI (nsW w ((v9 * 10 + i9) * 5 + a9)))) rfl rfl n1 rfl (by omega) (by decide) ((n3 ((v9 * 10 + i9) * 5 + a9) (by omega)).trans (wf_ns hWf (by omega))) ?_
          refine wn_ld (pc' := 60) (q := 4) (kin := 0) (v := .int (nI (n9))) rfl (fun _ _ _ => rfl) rfl rfl ?_
          refine wn_addN (pc' := 61) rfl rfl ?_
          refine wn_bp (pc' := 63) (w := nI 9) rfl rfl (by decide) ?_
          refine wn_icmpN (t := 69) (f := 66) rfl rfl rfl (by omega) (by omega) (fun c5 => ?_) (fun c5 => ?_)
          · have c5 : ((nsW w ((v9 * 10 + i9) * 5 + a9)) + n9) ≤ 9 := c5
            refine wn_ld (pc' := 71) (q := 5) (kin := 2) (v := .ref (47)) rfl (fun _ _ _ => rfl) rfl rfl ?_
            refine wn_get (pc' := 74) (v := .ref (48)) rfl rfl n0 rfl ?_
            refine wn_ld (pc' := 76) (q := 6) (kin := 0) (v := .int (nI ((v9 * 10 + i9) * 5 + a9))) rfl (fun _ _ _ => rfl) rfl rfl ?_
            refine wn_pu (pc' := 77) (st' := [.int (nI ((v9 * 10 + i9) * 5 + a9)), .ref (48), .int (nI ((v9 * 10 + i9) * 5 + a9)), .ref (48)]) rfl (fun _ _ _ => rfl) rfl rfl ?_
            have := wf_nsb hWf (show ((v9 * 10 + i9) * 5 + a9) < 1200 by omega)
            refine wn_ialdv (pc' := 78) (j := (v9 * 10 + i9) * 5 + a9) (v := (nI (nsW w ((v9 * 10 + i9) * 5 + a9)))) rfl rfl n1 rfl (by omega) (by decide) ((n3 ((v9 * 10 + i9) * 5 + a9) (by omega)).trans (wf_ns hWf (by omega))) ?_
            refine wn_ld (pc' := 80) (q := 4) (kin := 0) (v := .int (nI (n9))) rfl (fun _ _ _ => rfl) rfl rfl ?_
            refine wn_addN (pc' := 81) rfl rfl ?_
            refine wn_iast (pc' := 82) (j := (v9 * 10 + i9) * 5 + a9) rfl rfl n1 rfl (by omega) (by decide) ?_
            refine wn_ld (pc' := 84) (q := 5) (kin := 2) (v := .ref (47)) rfl (fun _ _ _ => rfl) rfl rfl ?_
            refine wn_pu (pc' := 85) (st' := [.ref (47), .ref (47)]) rfl (fun _ _ _ => rfl) rfl rfl ?_
            refine wn_get (pc' := 88) (v := .int (nI (ntS w 1200))) rfl rfl (gs_ne (by decide) n0) rfl ?_
            refine wn_ld (pc' := 90) (q := 4) (kin := 0) (v := .int (nI (n9))) rfl (fun _ _ _ => rfl) rfl rfl ?_
            refine wn_addN (pc' := 91) rfl rfl ?_
            refine wn_put (pc' := 94) rfl rfl (gs_ne (by decide) n0) (Nat.le_of_ble_eq_true rfl) ⟨rfl, rfl⟩ ?_
            show Wn _ _ 94 _ [] ((h.set 48 (.inl (0, 1200, .inl (upd an ((v9 * 10 + i9) * 5 + a9) ((nI ((nsW w ((v9 * 10 + i9) * 5 + a9)) + n9))))))).set 47 (.inr (2, [.int (nI ((ntS w 1200) + n9)), .ref (48), .ref (49)]))) _
            refine wn_ld (pc' := 96) (q := 5) (kin := 2) (v := .ref (47)) rfl (fun _ _ _ => rfl) rfl rfl ?_
            refine wn_get (pc' := 99) (v := .ref (48)) rfl rfl (gs_self (gs_ne (by decide) n0)) rfl ?_
            refine wn_ld (pc' := 101) (q := 6) (kin := 0) (v := .int (nI ((v9 * 10 + i9) * 5 + a9))) rfl (fun _ _ _ => rfl) rfl rfl ?_
            refine wn_ialdv (pc' := 102) (j := (v9 * 10 + i9) * 5 + a9) (v := (nI ((nsW w ((v9 * 10 + i9) * 5 + a9)) + n9))) rfl rfl (gs_ne (by decide) (gs_self n1)) rfl (by omega) (by decide) (pk_us) ?_
            have eP : noteP (nI v9) (nI i9) (nI a9) = (v9 * 10 + i9) * 5 + a9 := by unfold noteP; rw [cl_v, cl_i, cl_a]
            have hC : noteC w (nI v9) (nI i9) (nI a9) (nI n9) := ⟨iin_nI (by omega) (by omega), ⟨iin_nI (by omega) (by omega), by rw [cl_i]; exact iin_nI (by omega) (by omega)⟩, by rw [ti_n]; omega⟩
            have eW : noteW w (nI v9) (nI i9) (nI a9) (nI n9) = upd w (1476 + ((v9 * 10 + i9) * 5 + a9)) (nI (nsW w ((v9 * 10 + i9) * 5 + a9) + n9)) := by unfold noteW; rw [qW_t ⟨hC, by rw [eP, cl_n]; omega⟩, eP, cl_n]
            have AG : AgW w (upd w (1476 + ((v9 * 10 + i9) * 5 + a9)) (nI (nsW w ((v9 * 10 + i9) * 5 + a9) + n9))) := AgW_u (Or.inr (Or.inr (by omega)))
            refine wn_iret rfl rfl rfl ⟨congrArg (fun z => some (Value.int z)) ?_, (Fr.st (Fr.st (Fr.rfl' [47, 48] h) (by decide)) (by decide)).1, fun k hk => (Fr.st (Fr.st (Fr.rfl' [47, 48] h) (by decide)) (by decide)).2 k (by simp only [List.mem_cons, List.not_mem_nil, or_false]; omega), ?_, ?_⟩
            · unfold noteA; rw [qI_t hC, eP, cl_n, qI_t (by omega)]
            · rw [eW]; exact (V.vo.kp (fun k p1 p2 => (Fr.st (Fr.st (Fr.rfl' [47, 48] h) (by decide)) (by decide)).2 k (by simp only [List.mem_cons, List.not_mem_nil, or_false]; omega))).eq (ag_nt AG) (fun i hi => ⟨pk_un (by omega), pk_un (by omega)⟩)
            · rw [eW]
              refine ⟨_, _, ?_, (gs_ne (by decide) (gs_self n1)), (gs_ne (by decide) (gs_ne (by decide) n2)), fun p hp => ?_, fun v h24 => ?_⟩
              · rw [ntS_u (show (v9 * 10 + i9) * 5 + a9 < 1200 by omega) rfl (by omega)]; exact (gs_self (gs_ne (by decide) n0))
              · by_cases e : p = (v9 * 10 + i9) * 5 + a9
                · rw [e, pk_us, pk_us]
                · rw [pk_un e, pk_un (by omega)]; exact n3 p hp
              · rw [ag_nv AG, pk_un (by omega)]; exact n4 v h24
          · have c5 : 9 < ((nsW w ((v9 * 10 + i9) * 5 + a9)) + n9) := c5
            refine wn_bp (pc' := 68) (w := -3) rfl rfl (by decide) ?_
            have eP : noteP (nI v9) (nI i9) (nI a9) = (v9 * 10 + i9) * 5 + a9 := by unfold noteP; rw [cl_v, cl_i, cl_a]
            have hC : noteC w (nI v9) (nI i9) (nI a9) (nI n9) := ⟨iin_nI (by omega) (by omega), ⟨iin_nI (by omega) (by omega), by rw [cl_i]; exact iin_nI (by omega) (by omega)⟩, by rw [ti_n]; omega⟩
            refine wn_iret rfl rfl rfl ⟨congrArg (fun z => some (Value.int z)) ?_, rfl, fun _ _ => rfl, ?_, ?_⟩
            · unfold noteA; rw [qI_t hC, eP, cl_n, qI_f (by omega)]
            · rw [show noteW w (nI v9) (nI i9) (nI a9) (nI n9) = w from qW_f (fun q => by have := q.2; rw [eP, cl_n] at this; omega)]; exact V.vo
            · rw [show noteW w (nI v9) (nI i9) (nI a9) (nI n9) = w from qW_f (fun q => by have := q.2; rw [eP, cl_n] at this; omega)]; exact V.no
        · have c4 : ((nI (9))) < ((n)) := c4
          refine wn_bp (pc' := 32) (w := -2) rfl rfl (by decide) ?_
          have en1 : (nI 1).toInt = 1 := by decide
          have en9 : (nI 9).toInt = 9 := by decide
          have k9 := Int32.lt_iff_toInt_lt.mp c4
          refine wn_iret rfl rfl rfl ⟨congrArg (fun z => some (Value.int z)) ?_, rfl, fun _ _ => rfl, ?_, ?_⟩
          · exact (qI_f (fun q => by have := q.2.2; omega)).symm
          · rw [show noteW w (nI v9) (nI i9) (nI a9) n = w from qW_f (fun q => (fun q => by have := q.2.2; omega) q.1)]; exact V.vo
          · rw [show noteW w (nI v9) (nI i9) (nI a9) n = w from qW_f (fun q => (fun q => by have := q.2.2; omega) q.1)]; exact V.no

theorem m_note (d : Nat) (h : aH) (w : Nat → Int32) (hWf : WfW w) (HM : MH h w) (v i a n : Int32) : Sp (Rn (d + 4)) 220 [.ref (71), .int (v), .int (i), .int (a), .int (n)] h (fun r9 h9 => r9 = some (.int (noteA w v i a n)) ∧ h9.length = h.length ∧ (∀ k, k ≠ 72 → h9[k]? = h[k]?) ∧ isI h9 72 2676 (noteW w v i a n)) := by
  obtain ⟨⟨e1, e2⟩, ⟨e3, e4⟩, ⟨e5, e6⟩⟩ := Wf_n hWf
  obtain ⟨⟨e7, e8⟩, ⟨e9, e10⟩⟩ := Wf_m hWf
  obtain ⟨th, tp, sz, at9, fr, tk, vl, fk, fp, il, up, lo, hM, hW⟩ := id HM
  refine Sp_of (by decide) (Nat.le_of_ble_eq_true rfl) ?_
  show Wn _ _ 0 [(0, .ref (71)), (1, .int (v)), (2, .int (i)), (3, .int (a)), (4, .int (n))] [] _ _
  refine wn_ld (pc' := 1) (q := 0) (kin := 2) (v := .ref (71)) rfl (fun _ _ _ => rfl) rfl rfl ?_
  refine wn_ld (pc' := 2) (q := 1) (kin := 0) (v := .int (v)) rfl (fun _ _ _ => rfl) rfl rfl ?_
  refine wn_virI (pc' := 5) rfl rfl (by decide) rfl rfl hM (Nat.le_of_ble_eq_true rfl) (m_isVillage _ _ w HM _ e1 (by omega) _) ?_
  refine wn_ifeqB (t := 30) (f := 8) rfl rfl rfl (fun c1 => ?_) (fun c1 => ?_)
  · have c1 : ¬ (iin v (nvW w)) := c1
    refine wn_bp (pc' := 32) (w := -2) rfl rfl (by decide) ?_
    refine wn_iret rfl rfl rfl ⟨congrArg (fun z => some (Value.int z)) ?_, rfl, fun _ _ => rfl, ?_⟩
    · exact (qI_f (fun q => c1 q.1)).symm
    · rw [show noteW w v i a n = w from qW_f (fun q => (fun q => c1 q.1) q.1)]; exact hW
  · have c1 : (iin v (nvW w)) := c1
    obtain ⟨v9, hv9, rfl⟩ := iin_of c1
    have ti_v := nI_toInt (n := v9) (show v9 < 2 ^ 31 by omega)
    have cl_v := nI_clamp (n := v9) (show v9 < 2 ^ 31 by omega)
    refine wn_ld (pc' := 9) (q := 0) (kin := 2) (v := .ref (71)) rfl (fun _ _ _ => rfl) rfl rfl ?_
    refine wn_ld (pc' := 10) (q := 2) (kin := 0) (v := .int (i)) rfl (fun _ _ _ => rfl) rfl rfl ?_
    refine wn_ld (pc' := 11) (q := 3) (kin := 0) (v := .int (a)) rfl (fun _ _ _ => rfl) rfl rfl ?_
    refine wn_virI (pc' := 14) rfl rfl (by decide) rfl rfl hM (Nat.le_of_ble_eq_true rfl) (m_isVariant _ _ w HM hWf _ _) ?_
    refine wn_ifeqB (t := 30) (f := 17) rfl rfl rfl (fun c2 => ?_) (fun c2 => ?_)
    · have c2 : ¬ (iin i (ntW w) ∧ iin a (vaW w i.toNatClampNeg)) := c2
      refine wn_bp (pc' := 32) (w := -2) rfl rfl (by decide) ?_
      refine wn_iret rfl rfl rfl ⟨congrArg (fun z => some (Value.int z)) ?_, rfl, fun _ _ => rfl, ?_⟩
      · exact (qI_f (fun q => c2 q.2.1)).symm
      · rw [show noteW w (nI v9) i a n = w from qW_f (fun q => (fun q => c2 q.2.1) q.1)]; exact hW
    · have c2 : (iin i (ntW w) ∧ iin a (vaW w i.toNatClampNeg)) := c2
      obtain ⟨i9, hi9, rfl⟩ := iin_of c2.1
      have ti_i := nI_toInt (n := i9) (show i9 < 2 ^ 31 by omega)
      have cl_i := nI_clamp (n := i9) (show i9 < 2 ^ 31 by omega)
      have hva_i := wf_vab hWf hi9
      obtain ⟨a9, ha9, rfl⟩ := iin_of (by simpa only [cl_i] using c2.2)
      have ti_a := nI_toInt (n := a9) (show a9 < 2 ^ 31 by omega)
      have cl_a := nI_clamp (n := a9) (show a9 < 2 ^ 31 by omega)
      refine wn_ld (pc' := 19) (q := 4) (kin := 0) (v := .int (n)) rfl (fun _ _ _ => rfl) rfl rfl ?_
      refine wn_pu (pc' := 20) (st' := [.long (Int32.toInt64 (n))]) rfl (fun _ _ _ => rfl) rfl rfl ?_
      refine wn_pu (pc' := 21) (st' := .long (lN 1) :: [.long (Int32.toInt64 (n))]) rfl (fun _ _ _ => rfl) rfl rfl ?_
      refine wn_go (pc' := 24) (lv' := [(0, .ref (71)), (1, .int (nI (v9))), (2, .int (nI (i9))), (3, .int (nI (a9))), (4, .int (n))]) (st' := [.long ((9 : Int64)), .long (lN 1), .long (Int32.toInt64 (n))]) rfl (fun _ _ _ k9 => k9) ?_
      refine wn_staI (pc' := 27) rfl rfl (by decide) rfl rfl (Nat.le_of_ble_eq_true rfl) (m_inR _ _ n (1) 9 (lN 1) ((9 : Int64)) (by decide) (by decide)) ?_
      refine wn_ifneB (t := 33) (f := 30) rfl rfl rfl (fun c3 => ?_) (fun c3 => ?_)
      · have c3 : ((1 : Int) ≤ n.toInt ∧ n.toInt ≤ 9) := c3
        obtain ⟨n9, hn1, hn9, rfl⟩ := n19_of c3.1 c3.2
        have ti_n := nI_toInt (n := n9) (show n9 < 2 ^ 31 by omega)
        have cl_n := nI_clamp (n := n9) (show n9 < 2 ^ 31 by omega)
        refine wn_ld (pc' := 34) (q := 0) (kin := 2) (v := .ref (71)) rfl (fun _ _ _ => rfl) rfl rfl ?_
        refine wn_ld (pc' := 35) (q := 1) (kin := 0) (v := .int (nI (v9))) rfl (fun _ _ _ => rfl) rfl rfl ?_
        refine wn_ld (pc' := 36) (q := 2) (kin := 0) (v := .int (nI (i9))) rfl (fun _ _ _ => rfl) rfl rfl ?_
        refine wn_ld (pc' := 37) (q := 3) (kin := 0) (v := .int (nI (a9))) rfl (fun _ _ _ => rfl) rfl rfl ?_
        have p12 : (v9 * 10 + i9) * 5 + a9 < 1200 := by omega
        have := wf_nsb hWf p12
        refine wn_virI (pc' := 40) rfl rfl (by decide) rfl rfl hM (Nat.le_of_ble_eq_true rfl) (m_notesOf _ _ w HM v9 i9 a9 (by omega)) ?_
        rw [show 1476 + (v9 * 10 + i9) * 5 + a9 = 1476 + ((v9 * 10 + i9) * 5 + a9) by omega, wf_ns hWf p12]
        refine wn_ld (pc' := 42) (q := 4) (kin := 0) (v := .int (nI (n9))) rfl (fun _ _ _ => rfl) rfl rfl ?_
        refine wn_addN (pc' := 43) rfl rfl ?_
        refine wn_bp (pc' := 45) (w := nI 9) rfl rfl (by decide) ?_
        refine wn_icmpN (t := 51) (f := 48) rfl rfl rfl (by omega) (by omega) (fun c4 => ?_) (fun c4 => ?_)
        · have c4 : ((nsW w ((v9 * 10 + i9) * 5 + a9)) + n9) ≤ 9 := c4
          refine wn_ld (pc' := 52) (q := 0) (kin := 2) (v := .ref (71)) rfl (fun _ _ _ => rfl) rfl rfl ?_
          refine wn_get (pc' := 55) (v := .ref (72)) rfl rfl hM rfl ?_
          refine wn_sp (pc' := 58) (w := nI 1476) rfl rfl (by decide) ?_
          refine wn_ld (pc' := 59) (q := 1) (kin := 0) (v := .int (nI (v9))) rfl (fun _ _ _ => rfl) rfl rfl ?_
          refine wn_bp (pc' := 61) (w := nI 10) rfl rfl (by decide) ?_
          refine wn_mulN (pc' := 62) rfl rfl ?_
          refine wn_ld (pc' := 63) (q := 2) (kin := 0) (v := .int (nI (i9))) rfl (fun _ _ _ => rfl) rfl rfl ?_
          refine wn_addN (pc' := 64) rfl rfl ?_
          refine wn_ic (pc' := 65) (w := nI 5) rfl rfl (by decide) ?_
          refine wn_mulN (pc' := 66) rfl rfl ?_
          refine wn_addN (pc' := 67) rfl rfl ?_
          refine wn_ld (pc' := 68) (q := 3) (kin := 0) (v := .int (nI (a9))) rfl (fun _ _ _ => rfl) rfl rfl ?_
          refine wn_addN (pc' := 69) rfl rfl ?_
          refine wn_pu (pc' := 70) (st' := [.int (nI ((1476 + (((v9 * 10) + i9) * 5)) + a9)), .ref (72), .int (nI ((1476 + (((v9 * 10) + i9) * 5)) + a9)), .ref (72)]) rfl (fun _ _ _ => rfl) rfl rfl ?_
          refine wn_ialdv (pc' := 71) (j := (1476 + (((v9 * 10) + i9) * 5)) + a9) (v := (nI (nsW w ((v9 * 10 + i9) * 5 + a9)))) rfl rfl hW rfl (by omega) (by decide) ((congrArg w (by omega)).trans (wf_ns hWf p12)) ?_
          refine wn_ld (pc' := 73) (q := 4) (kin := 0) (v := .int (nI (n9))) rfl (fun _ _ _ => rfl) rfl rfl ?_
          refine wn_addN (pc' := 74) rfl rfl ?_
          refine wn_iast (pc' := 75) (j := (1476 + (((v9 * 10) + i9) * 5)) + a9) rfl rfl hW rfl (by omega) (by decide) ?_
          refine wn_ld (pc' := 76) (q := 0) (kin := 2) (v := .ref (71)) rfl (fun _ _ _ => rfl) rfl rfl ?_
          refine wn_ld (pc' := 77) (q := 1) (kin := 0) (v := .int (nI (v9))) rfl (fun _ _ _ => rfl) rfl rfl ?_
          refine wn_ld (pc' := 78) (q := 2) (kin := 0) (v := .int (nI (i9))) rfl (fun _ _ _ => rfl) rfl rfl ?_
          refine wn_ld (pc' := 79) (q := 3) (kin := 0) (v := .int (nI (a9))) rfl (fun _ _ _ => rfl) rfl rfl ?_
          refine wn_virI (pc' := 82) rfl rfl (by decide) rfl rfl (gs_ne (by decide) hM) (Nat.le_of_ble_eq_true rfl) (m_notesOf _ _ (upd w (1476 + (v9 * 10 + i9) * 5 + a9) (nI (nsW w ((v9 * 10 + i9) * 5 + a9) + n9))) ⟨_, _, _, _, _, _, _, _, _, _, _, _, (gs_ne (by decide) hM), (gs_self hW)⟩ v9 i9 a9 (by omega)) ?_
          have eP : noteP (nI v9) (nI i9) (nI a9) = (v9 * 10 + i9) * 5 + a9 := by unfold noteP; rw [cl_v, cl_i, cl_a]
          have hC : noteC w (nI v9) (nI i9) (nI a9) (nI n9) := ⟨iin_nI (by omega) (by omega), ⟨iin_nI (by omega) (by omega), by rw [cl_i]; exact iin_nI (by omega) (by omega)⟩, by rw [ti_n]; omega⟩
          refine wn_iret rfl rfl rfl ⟨congrArg (fun z => some (Value.int z)) ?_, (Fr.st (Fr.rfl' [72] h) (by decide)).1, fun k hk => (Fr.st (Fr.rfl' [72] h) (by decide)).2 k (by simp only [List.mem_cons, List.not_mem_nil, or_false]; omega), ?_⟩
          · unfold noteA; rw [qI_t hC, eP, cl_n, qI_t (by omega)]; first | done | (rw [show 1476 + (v9 * 10 + i9) * 5 + a9 = 1476 + (v9 * 10 + i9) * 5 + a9 from rfl]; exact pk_us)
          · rw [show noteW w (nI v9) (nI i9) (nI a9) (nI n9) = upd w (1476 + (v9 * 10 + i9) * 5 + a9) (nI (nsW w ((v9 * 10 + i9) * 5 + a9) + n9)) by unfold noteW; rw [qW_t ⟨hC, by rw [eP, cl_n]; omega⟩, eP, cl_n, Nat.add_assoc]]; exact (gs_self hW)
        · have c4 : 9 < ((nsW w ((v9 * 10 + i9) * 5 + a9)) + n9) := c4
          refine wn_bp (pc' := 50) (w := -3) rfl rfl (by decide) ?_
          have eP : noteP (nI v9) (nI i9) (nI a9) = (v9 * 10 + i9) * 5 + a9 := by unfold noteP; rw [cl_v, cl_i, cl_a]
          have hC : noteC w (nI v9) (nI i9) (nI a9) (nI n9) := ⟨iin_nI (by omega) (by omega), ⟨iin_nI (by omega) (by omega), by rw [cl_i]; exact iin_nI (by omega) (by omega)⟩, by rw [ti_n]; omega⟩
          refine wn_iret rfl rfl rfl ⟨congrArg (fun z => some (Value.int z)) ?_, rfl, fun _ _ => rfl, ?_⟩
          · unfold noteA; rw [qI_t hC, eP, cl_n, qI_f (by omega)]
          · rw [show noteW w (nI v9) (nI i9) (nI a9) (nI n9) = w from qW_f (fun q => by have := q.2; rw [eP, cl_n] at this; omega)]; exact hW
      · have c3 : ¬ ((1 : Int) ≤ n.toInt ∧ n.toInt ≤ 9) := c3
        refine wn_bp (pc' := 32) (w := -2) rfl rfl (by decide) ?_
        refine wn_iret rfl rfl rfl ⟨congrArg (fun z => some (Value.int z)) ?_, rfl, fun _ _ => rfl, ?_⟩
        · exact (qI_f (fun q => c3 q.2.2)).symm
        · rw [show noteW w (nI v9) (nI i9) (nI a9) n = w from qW_f (fun q => (fun q => c3 q.2.2) q.1)]; exact hW

theorem kase_27 (v : Int32) (i : Int32) (a : Int32) (n : Int32) : CaseI Rq 109 220 [.int v, .int i, .int a, .int n] := kase_w (fun w => noteA w v i a n) (fun w => noteW w v i a n) (fun w g1 g8 => note_w v i a n g1 g8) (fun h ls w g1 g8 V => x_note 697 h ls w g1 V v i a n) (fun h1 w g1 g8 HM => m_note 696 h1 w g1 HM v i a n)
theorem x_walk (d : Nat) (h : aH) (ls : Nat) (w : Nat → Int32) (hWf : WfW w) (V : XV h ls w) (v a : Int32) : Sp (Rn (d + 2)) 121 [.ref (0), .int (v), .int (a)] h (fun r9 h9 => r9 = some (.int (walkA w v a)) ∧ h9.length = h.length ∧ (∀ k, k < 44 ∨ 50 ≤ k → h9[k]? = h[k]?) ∧ VoiceR h9 44 (walkW w v a) ∧ NotesR h9 47 (walkW w v a)) := by
  obtain ⟨⟨e1, e2⟩, ⟨e3, e4⟩, ⟨e5, e6⟩⟩ := Wf_n hWf
  obtain ⟨⟨e7, e8⟩, ⟨e9, e10⟩⟩ := Wf_m hWf
  obtain ⟨v0, ⟨x9, v1⟩, ⟨v2, ⟨sz, rf, rt, rv, ag, vr, sd, tl, l0, l1, l2, l3, l4, l5, l6, l7, l8, g1, g2, g3, g4, g5⟩, ⟨sec, it, fi, se, sg, lst, rs, rp, pj, pk, pv, k0, k1, k2, k3, k4, k5, k6, k7, k8, k9, k10, k11, k12, k13⟩, ⟨hv, hc, y0, y1, y2, y3, y4⟩, ⟨an, wk, n0, n1, n2, n3, n4⟩⟩, v3⟩ := id V
  rw [e1, e3, e5] at l0
  rw [e7, e9] at k1
  refine Sp_of (by decide) (Nat.le_of_ble_eq_true rfl) ?_
  show Wn _ _ 0 [(0, .ref (0)), (1, .int (v)), (2, .int (a))] [] _ _
  refine wn_ld (pc' := 1) (q := 0) (kin := 2) (v := .ref (0)) rfl (fun _ _ _ => rfl) rfl rfl ?_
  refine wn_ld (pc' := 2) (q := 1) (kin := 0) (v := .int (v)) rfl (fun _ _ _ => rfl) rfl rfl ?_
  refine wn_virI (pc' := 5) rfl rfl (by decide) rfl rfl v1 (Nat.le_of_ble_eq_true rfl) (x_hasVillage _ _ ls w hWf V _) ?_
  refine wn_ifeqB (t := 19) (f := 8) rfl rfl rfl (fun c1 => ?_) (fun c1 => ?_)
  · have c1 : ¬ (iin v (nvW w)) := c1
    refine wn_bp (pc' := 21) (w := -2) rfl rfl (by decide) ?_
    have em1 : (-1 : Int32).toInt = -1 := by decide
    have en6 : (nI 6).toInt = 6 := by decide
    refine wn_iret rfl rfl rfl ⟨congrArg (fun z => some (Value.int z)) ?_, rfl, fun _ _ => rfl, ?_, ?_⟩
    · exact (qI_f (fun q => c1 q.1)).symm
    · rw [show walkW w v a = w from qW_f (fun q => c1 q.1)]; exact V.vo
    · rw [show walkW w v a = w from qW_f (fun q => c1 q.1)]; exact V.no
  · have c1 : (iin v (nvW w)) := c1
    obtain ⟨v9, hv9, rfl⟩ := iin_of c1
    have ti_v := nI_toInt (n := v9) (show v9 < 2 ^ 31 by omega)
    have cl_v := nI_clamp (n := v9) (show v9 < 2 ^ 31 by omega)
    refine wn_ld (pc' := 9) (q := 2) (kin := 0) (v := .int (a)) rfl (fun _ _ _ => rfl) rfl rfl ?_
    refine wn_ic (pc' := 10) (w := -1) rfl rfl (by decide) ?_
    refine wn_icmp (t := 19) (f := 13) rfl rfl rfl (fun c2 => ?_) (fun c2 => ?_)
    · have c2 : ((a)) < ((-1)) := c2
      refine wn_bp (pc' := 21) (w := -2) rfl rfl (by decide) ?_
      have em1 : (-1 : Int32).toInt = -1 := by decide
      have en6 : (nI 6).toInt = 6 := by decide
      try simp only [Int32.lt_iff_toInt_lt, Int32.le_iff_toInt_le, i2l_int, Int32.toInt_zero, iin] at c2
      refine wn_iret rfl rfl rfl ⟨congrArg (fun z => some (Value.int z)) ?_, rfl, fun _ _ => rfl, ?_, ?_⟩
      · exact (qI_f (fun q => by have := q.2; omega)).symm
      · rw [show walkW w (nI v9) a = w from qW_f (fun q => by have := q.2; omega)]; exact V.vo
      · rw [show walkW w (nI v9) a = w from qW_f (fun q => by have := q.2; omega)]; exact V.no
    · have c2 : ((-1)) ≤ ((a)) := c2
      refine wn_ld (pc' := 14) (q := 2) (kin := 0) (v := .int (a)) rfl (fun _ _ _ => rfl) rfl rfl ?_
      refine wn_bp (pc' := 16) (w := nI 6) rfl rfl (by decide) ?_
      refine wn_icmp (t := 22) (f := 19) rfl rfl rfl (fun c3 => ?_) (fun c3 => ?_)
      · have c3 : ((a)) < ((nI (6))) := c3
        refine wn_ld (pc' := 23) (q := 0) (kin := 2) (v := .ref (0)) rfl (fun _ _ _ => rfl) rfl rfl ?_
        refine wn_get (pc' := 26) (v := .ref (23)) rfl rfl v1 rfl ?_
        refine wn_get (pc' := 29) (v := .ref (47)) rfl rfl v2 rfl ?_
        refine wn_get (pc' := 32) (v := .ref (49)) rfl rfl n0 rfl ?_
        refine wn_ld (pc' := 33) (q := 1) (kin := 0) (v := .int (nI (v9))) rfl (fun _ _ _ => rfl) rfl rfl ?_
        refine wn_ialdv (pc' := 34) (j := v9) (v := (w (9 + 2 * v9))) rfl rfl n2 rfl (by omega) (by decide) ((n4 v9 (by omega)).trans (if_pos (by omega))) ?_
        refine wn_st (pc' := 35) (q := 3) (kin := 0) (lv' := [(0, .ref (0)), (1, .int (nI (v9))), (2, .int (a)), (3, .int (w (9 + 2 * v9)))]) rfl (fun _ _ _ => rfl) rfl (Nat.le_of_ble_eq_true rfl) rfl ?_
        refine wn_ld (pc' := 36) (q := 0) (kin := 2) (v := .ref (0)) rfl (fun _ _ _ => rfl) rfl rfl ?_
        refine wn_get (pc' := 39) (v := .ref (23)) rfl rfl v1 rfl ?_
        refine wn_get (pc' := 42) (v := .ref (47)) rfl rfl v2 rfl ?_
        refine wn_get (pc' := 45) (v := .ref (49)) rfl rfl n0 rfl ?_
        refine wn_ld (pc' := 46) (q := 1) (kin := 0) (v := .int (nI (v9))) rfl (fun _ _ _ => rfl) rfl rfl ?_
        refine wn_ld (pc' := 47) (q := 2) (kin := 0) (v := .int (a)) rfl (fun _ _ _ => rfl) rfl rfl ?_
        refine wn_iast (pc' := 48) (j := v9) rfl rfl n2 rfl (by omega) (by decide) ?_
        refine wn_ld (pc' := 49) (q := 3) (kin := 0) (v := .int (w (9 + 2 * v9))) rfl (fun _ _ _ => rfl) rfl rfl ?_
        have em1 : (-1 : Int32).toInt = -1 := by decide
        have en6 : (nI 6).toInt = 6 := by decide
        try simp only [Int32.lt_iff_toInt_lt, Int32.le_iff_toInt_le, i2l_int, Int32.toInt_zero, iin] at c2
        try simp only [Int32.lt_iff_toInt_lt, Int32.le_iff_toInt_le, i2l_int, Int32.toInt_zero, iin] at c3
        have hC : walkC w (nI v9) a := ⟨iin_nI (by omega) (by omega), by omega, by omega⟩
        have eW : walkW w (nI v9) a = upd w (9 + 2 * v9) a := by unfold walkW; rw [qW_t hC, cl_v]
        have AG : AgW w (upd w (9 + 2 * v9) a) := AgW_u (Or.inl (by omega))
        refine wn_iret rfl rfl rfl ⟨congrArg (fun z => some (Value.int z)) ?_, (Fr.st (Fr.rfl' [49] h) (by decide)).1, fun k hk => (Fr.st (Fr.rfl' [49] h) (by decide)).2 k (by simp only [List.mem_cons, List.not_mem_nil, or_false]; omega), ?_, ?_⟩
        · unfold walkA; rw [qI_t hC, cl_v]
        · rw [eW]; exact (V.vo.kp (fun k p1 p2 => (Fr.st (Fr.rfl' [49] h) (by decide)).2 k (by simp only [List.mem_cons, List.not_mem_nil, or_false]; omega))).eq (ag_nt AG) (fun i hi => ⟨pk_un (by omega), pk_un (by omega)⟩)
        · rw [eW]
          refine ⟨_, _, ?_, (gs_ne (by decide) n1), (gs_self n2), fun p hp => ?_, fun v h24 => ?_⟩
          · rw [ntS_eq (w := w) (fun p hp => pk_un (by omega))]; exact (gs_ne (by decide) n0)
          · rw [pk_un (by omega)]; exact n3 p hp
          · rw [ag_nv AG]
            by_cases e : v = v9
            · rw [e, pk_us, if_pos (by omega), pk_us]
            · rw [pk_un e, pk_un (by omega)]; exact n4 v h24
      · have c3 : ((nI (6))) ≤ ((a)) := c3
        refine wn_bp (pc' := 21) (w := -2) rfl rfl (by decide) ?_
        have em1 : (-1 : Int32).toInt = -1 := by decide
        have en6 : (nI 6).toInt = 6 := by decide
        try simp only [Int32.lt_iff_toInt_lt, Int32.le_iff_toInt_le, i2l_int, Int32.toInt_zero, iin] at c2
        try simp only [Int32.lt_iff_toInt_lt, Int32.le_iff_toInt_le, i2l_int, Int32.toInt_zero, iin] at c3
        refine wn_iret rfl rfl rfl ⟨congrArg (fun z => some (Value.int z)) ?_, rfl, fun _ _ => rfl, ?_, ?_⟩
        · exact (qI_f (fun q => by have := q.2; omega)).symm
        · rw [show walkW w (nI v9) a = w from qW_f (fun q => by have := q.2; omega)]; exact V.vo
        · rw [show walkW w (nI v9) a = w from qW_f (fun q => by have := q.2; omega)]; exact V.no

theorem m_walk (d : Nat) (h : aH) (w : Nat → Int32) (hWf : WfW w) (HM : MH h w) (v a : Int32) : Sp (Rn (d + 3)) 231 [.ref (71), .int (v), .int (a)] h (fun r9 h9 => r9 = some (.int (walkA w v a)) ∧ h9.length = h.length ∧ (∀ k, k ≠ 72 → h9[k]? = h[k]?) ∧ isI h9 72 2676 (walkW w v a)) := by
  obtain ⟨⟨e1, e2⟩, ⟨e3, e4⟩, ⟨e5, e6⟩⟩ := Wf_n hWf
  obtain ⟨⟨e7, e8⟩, ⟨e9, e10⟩⟩ := Wf_m hWf
  obtain ⟨th, tp, sz, at9, fr, tk, vl, fk, fp, il, up, lo, hM, hW⟩ := id HM
  refine Sp_of (by decide) (Nat.le_of_ble_eq_true rfl) ?_
  show Wn _ _ 0 [(0, .ref (71)), (1, .int (v)), (2, .int (a))] [] _ _
  refine wn_ld (pc' := 1) (q := 0) (kin := 2) (v := .ref (71)) rfl (fun _ _ _ => rfl) rfl rfl ?_
  refine wn_ld (pc' := 2) (q := 1) (kin := 0) (v := .int (v)) rfl (fun _ _ _ => rfl) rfl rfl ?_
  refine wn_virI (pc' := 5) rfl rfl (by decide) rfl rfl hM (Nat.le_of_ble_eq_true rfl) (m_isVillage _ _ w HM _ e1 (by omega) _) ?_
  refine wn_ifeqB (t := 22) (f := 8) rfl rfl rfl (fun c1 => ?_) (fun c1 => ?_)
  · have c1 : ¬ (iin v (nvW w)) := c1
    refine wn_bp (pc' := 24) (w := -2) rfl rfl (by decide) ?_
    refine wn_iret rfl rfl rfl ⟨congrArg (fun z => some (Value.int z)) ?_, rfl, fun _ _ => rfl, ?_⟩
    · exact (qI_f (fun q => c1 q.1)).symm
    · rw [show walkW w v a = w from qW_f (fun q => c1 q.1)]; exact hW
  · have c1 : (iin v (nvW w)) := c1
    obtain ⟨v9, hv9, rfl⟩ := iin_of c1
    have ti_v := nI_toInt (n := v9) (show v9 < 2 ^ 31 by omega)
    have cl_v := nI_clamp (n := v9) (show v9 < 2 ^ 31 by omega)
    refine wn_ld (pc' := 9) (q := 2) (kin := 0) (v := .int (a)) rfl (fun _ _ _ => rfl) rfl rfl ?_
    refine wn_pu (pc' := 10) (st' := [.long (Int32.toInt64 (a))]) rfl (fun _ _ _ => rfl) rfl rfl ?_
    refine wn_go (pc' := 13) (lv' := [(0, .ref (71)), (1, .int (nI (v9))), (2, .int (a))]) (st' := [.long ((-1 : Int64)), .long (Int32.toInt64 (a))]) rfl (fun _ _ _ k9 => k9) ?_
    refine wn_go (pc' := 16) (lv' := [(0, .ref (71)), (1, .int (nI (v9))), (2, .int (a))]) (st' := [.long ((5 : Int64)), .long ((-1 : Int64)), .long (Int32.toInt64 (a))]) rfl (fun _ _ _ k9 => k9) ?_
    refine wn_staI (pc' := 19) rfl rfl (by decide) rfl rfl (Nat.le_of_ble_eq_true rfl) (m_inR _ _ a (-1) 5 ((-1 : Int64)) ((5 : Int64)) (by decide) (by decide)) ?_
    refine wn_ifneB (t := 25) (f := 22) rfl rfl rfl (fun c2 => ?_) (fun c2 => ?_)
    · have c2 : ((-1 : Int) ≤ a.toInt ∧ a.toInt ≤ 5) := c2
      refine wn_ld (pc' := 26) (q := 0) (kin := 2) (v := .ref (71)) rfl (fun _ _ _ => rfl) rfl rfl ?_
      refine wn_ld (pc' := 27) (q := 1) (kin := 0) (v := .int (nI (v9))) rfl (fun _ _ _ => rfl) rfl rfl ?_
      refine wn_ic (pc' := 28) (w := nI 1) rfl rfl (by decide) ?_
      refine wn_virI (pc' := 31) rfl rfl (by decide) rfl rfl hM (Nat.le_of_ble_eq_true rfl) (m_ofVillage _ _ w HM v9 1 (by omega)) ?_
      rw [show 8 + 2 * v9 + 1 = 9 + 2 * v9 by omega]
      refine wn_st (pc' := 32) (q := 3) (kin := 0) (lv' := [(0, .ref (71)), (1, .int (nI (v9))), (2, .int (a)), (3, .int (w (9 + 2 * v9)))]) rfl (fun _ _ _ => rfl) rfl (Nat.le_of_ble_eq_true rfl) rfl ?_
      refine wn_ld (pc' := 33) (q := 0) (kin := 2) (v := .ref (71)) rfl (fun _ _ _ => rfl) rfl rfl ?_
      refine wn_get (pc' := 36) (v := .ref (72)) rfl rfl hM rfl ?_
      refine wn_bp (pc' := 38) (w := nI 8) rfl rfl (by decide) ?_
      refine wn_ic (pc' := 39) (w := nI 2) rfl rfl (by decide) ?_
      refine wn_ld (pc' := 40) (q := 1) (kin := 0) (v := .int (nI (v9))) rfl (fun _ _ _ => rfl) rfl rfl ?_
      refine wn_mulN (pc' := 41) rfl rfl ?_
      refine wn_addN (pc' := 42) rfl rfl ?_
      refine wn_ic (pc' := 43) (w := nI 1) rfl rfl (by decide) ?_
      refine wn_addN (pc' := 44) rfl rfl ?_
      refine wn_ld (pc' := 45) (q := 2) (kin := 0) (v := .int (a)) rfl (fun _ _ _ => rfl) rfl rfl ?_
      refine wn_iast (pc' := 46) (j := (8 + (2 * v9)) + 1) rfl rfl hW rfl (by omega) (by decide) ?_
      refine wn_ld (pc' := 47) (q := 3) (kin := 0) (v := .int (w (9 + 2 * v9))) rfl (fun _ _ _ => rfl) rfl rfl ?_
      have hC : walkC w (nI v9) a := ⟨iin_nI (by omega) (by omega), c2⟩
      refine wn_iret rfl rfl rfl ⟨congrArg (fun z => some (Value.int z)) ?_, (Fr.st (Fr.rfl' [72] h) (by decide)).1, fun k hk => (Fr.st (Fr.rfl' [72] h) (by decide)).2 k (by simp only [List.mem_cons, List.not_mem_nil, or_false]; omega), ?_⟩
      · unfold walkA; rw [qI_t hC, cl_v]
      · rw [show walkW w (nI v9) a = upd w (8 + 2 * v9 + 1) a by unfold walkW; rw [qW_t hC, cl_v, show 9 + 2 * v9 = 8 + 2 * v9 + 1 by omega]]; exact (gs_self hW)
    · have c2 : ¬ ((-1 : Int) ≤ a.toInt ∧ a.toInt ≤ 5) := c2
      refine wn_bp (pc' := 24) (w := -2) rfl rfl (by decide) ?_
      refine wn_iret rfl rfl rfl ⟨congrArg (fun z => some (Value.int z)) ?_, rfl, fun _ _ => rfl, ?_⟩
      · exact (qI_f (fun q => c2 q.2)).symm
      · rw [show walkW w (nI v9) a = w from qW_f (fun q => c2 q.2)]; exact hW

theorem kase_34 (v : Int32) (a : Int32) : CaseI Rq 121 231 [.int v, .int a] := kase_w (fun w => walkA w v a) (fun w => walkW w v a) (fun w g1 g8 => walk_w v a g1 g8) (fun h ls w g1 g8 V => x_walk 698 h ls w g1 V v a) (fun h1 w g1 g8 HM => m_walk 697 h1 w g1 HM v a)
theorem x_listen (d : Nat) (h : aH) (ls : Nat) (w : Nat → Int32) (hWf : WfW w) (V : XV h ls w) (h8 : Hd8 w) (i a : Int32) (c : Prop) : Sp (Rn (d + 3)) 93 [.ref (0), .int (i), .int (a), .int (bI (c))] h (fun r9 h9 => r9 = some (.int (hearA w i a)) ∧ h9.length = h.length ∧ (∀ k, k < 44 ∨ 50 ≤ k → h9[k]? = h[k]?) ∧ VoiceR h9 44 (hearW w i a c) ∧ NotesR h9 47 (hearW w i a c)) := by
  obtain ⟨⟨e1, e2⟩, ⟨e3, e4⟩, ⟨e5, e6⟩⟩ := Wf_n hWf
  obtain ⟨⟨e7, e8⟩, ⟨e9, e10⟩⟩ := Wf_m hWf
  obtain ⟨v0, ⟨x9, v1⟩, ⟨v2, ⟨sz, rf, rt, rv, ag, vr, sd, tl, l0, l1, l2, l3, l4, l5, l6, l7, l8, g1, g2, g3, g4, g5⟩, ⟨sec, it, fi, se, sg, lst, rs, rp, pj, pk, pv, k0, k1, k2, k3, k4, k5, k6, k7, k8, k9, k10, k11, k12, k13⟩, ⟨hv, hc, y0, y1, y2, y3, y4⟩, ⟨an, wk, n0, n1, n2, n3, n4⟩⟩, v3⟩ := id V
  rw [e1, e3, e5] at l0
  rw [e7, e9] at k1
  have hdle := hdN_le w (ntW w)
  refine Sp_of (by decide) (Nat.le_of_ble_eq_true rfl) ?_
  show Wn _ _ 0 [(0, .ref (0)), (1, .int (i)), (2, .int (a)), (3, .int (bI (c)))] [] _ _
  refine wn_ld (pc' := 1) (q := 0) (kin := 2) (v := .ref (0)) rfl (fun _ _ _ => rfl) rfl rfl ?_
  refine wn_ld (pc' := 2) (q := 1) (kin := 0) (v := .int (i)) rfl (fun _ _ _ => rfl) rfl rfl ?_
  refine wn_ld (pc' := 3) (q := 2) (kin := 0) (v := .int (a)) rfl (fun _ _ _ => rfl) rfl rfl ?_
  refine wn_virI (pc' := 6) rfl rfl (by decide) rfl rfl v1 (Nat.le_of_ble_eq_true rfl) (x_hasVariant _ _ ls w hWf V _ _) ?_
  refine wn_ifneB (t := 12) (f := 9) rfl rfl rfl (fun c1 => ?_) (fun c1 => ?_)
  · have c1 : (iin i (ntW w) ∧ iin a (vaW w i.toNatClampNeg)) := c1
    obtain ⟨i9, hi9, rfl⟩ := iin_of c1.1
    have ti_i := nI_toInt (n := i9) (show i9 < 2 ^ 31 by omega)
    have cl_i := nI_clamp (n := i9) (show i9 < 2 ^ 31 by omega)
    have hva_i := wf_vab hWf hi9
    obtain ⟨a9, ha9, rfl⟩ := iin_of (by simpa only [cl_i] using c1.2)
    have ti_a := nI_toInt (n := a9) (show a9 < 2 ^ 31 by omega)
    have cl_a := nI_clamp (n := a9) (show a9 < 2 ^ 31 by omega)
    refine wn_ld (pc' := 13) (q := 0) (kin := 2) (v := .ref (0)) rfl (fun _ _ _ => rfl) rfl rfl ?_
    refine wn_get (pc' := 16) (v := .ref (23)) rfl rfl v1 rfl ?_
    refine wn_get (pc' := 19) (v := .ref (44)) rfl rfl v2 rfl ?_
    refine wn_st (pc' := 21) (q := 4) (kin := 2) (lv' := [(0, .ref (0)), (1, .int (nI (i9))), (2, .int (nI (a9))), (3, .int (bI (c))), (4, .ref (44))]) rfl (fun _ _ _ => rfl) rfl (Nat.le_of_ble_eq_true rfl) rfl ?_
    refine wn_ld (pc' := 23) (q := 4) (kin := 2) (v := .ref (44)) rfl (fun _ _ _ => rfl) rfl rfl ?_
    refine wn_get (pc' := 26) (v := .ref (45)) rfl rfl y0 rfl ?_
    refine wn_ld (pc' := 27) (q := 1) (kin := 0) (v := .int (nI (i9))) rfl (fun _ _ _ => rfl) rfl rfl ?_
    refine wn_ialdv (pc' := 28) (j := i9) (v := (w (178 + 4 * i9))) rfl rfl y1 rfl (by omega) (by decide) ((y3 i9 (by omega)).1.trans (if_pos (by omega))) ?_
    refine wn_ic (pc' := 29) (w := -1) rfl rfl (by decide) ?_
    refine wn_icmp (t := 56) (f := 32) rfl rfl rfl (fun c2 => ?_) (fun c2 => ?_)
    · have c2 : ¬ ((w (178 + 4 * i9))) = ((-1)) := c2
      refine wn_ld (pc' := 58) (q := 4) (kin := 2) (v := .ref (44)) rfl (fun _ _ _ => rfl) rfl rfl ?_
      refine wn_get (pc' := 61) (v := .ref (45)) rfl rfl y0 rfl ?_
      refine wn_ld (pc' := 62) (q := 1) (kin := 0) (v := .int (nI (i9))) rfl (fun _ _ _ => rfl) rfl rfl ?_
      refine wn_ld (pc' := 63) (q := 2) (kin := 0) (v := .int (nI (a9))) rfl (fun _ _ _ => rfl) rfl rfl ?_
      refine wn_iast (pc' := 64) (j := i9) rfl rfl y1 rfl (by omega) (by decide) ?_
      refine wn_ld (pc' := 66) (q := 4) (kin := 2) (v := .ref (44)) rfl (fun _ _ _ => rfl) rfl rfl ?_
      refine wn_get (pc' := 69) (v := .ref (46)) rfl rfl (gs_ne (by decide) y0) rfl ?_
      refine wn_ld (pc' := 70) (q := 1) (kin := 0) (v := .int (nI (i9))) rfl (fun _ _ _ => rfl) rfl rfl ?_
      refine wn_ld (pc' := 71) (q := 3) (kin := 0) (v := .int (bI (c))) rfl (fun _ _ _ => rfl) rfl rfl ?_
      refine wn_bastZ (pc' := 72) (j := i9) rfl rfl (gs_ne (by decide) y2) rfl (by omega) (by decide) ?_
      refine wn_ld (pc' := 74) (q := 4) (kin := 2) (v := .ref (44)) rfl (fun _ _ _ => rfl) rfl rfl ?_
      refine wn_get (pc' := 77) (v := .int (nI (hdN w (ntW w)))) rfl rfl (gs_ne (by decide) (gs_ne (by decide) y0)) rfl ?_
      have hC : hearC w (nI i9) (nI a9) := ⟨iin_nI (by omega) (by omega), by rw [cl_i]; exact iin_nI (by omega) (by omega)⟩
      have hF : ¬ hearF w (nI i9).toNatClampNeg := by rw [cl_i]; exact fun q => c2 q.1
      have eW : hearW w (nI i9) (nI a9) c = hearU w i9 (nI a9) c := by unfold hearW; rw [qW_t ⟨hC, hF⟩, cl_i]
      have AG : AgW w (hearU w i9 (nI a9) c) := hearU_ag (by omega)
      refine wn_iret rfl rfl rfl ⟨congrArg (fun z => some (Value.int z)) ?_, (Fr.st (Fr.st (Fr.rfl' [44, 45, 46] h) (by decide)) (by decide)).1, fun k hk => (Fr.st (Fr.st (Fr.rfl' [44, 45, 46] h) (by decide)) (by decide)).2 k (by simp only [List.mem_cons, List.not_mem_nil, or_false]; omega), ?_, ?_⟩
      · unfold hearA; rw [qI_t hC, qI_f hF, cl_i, if_neg c2]; rfl
      · rw [eW]
        refine ⟨_, _, ?_, (gs_ne (by decide) (gs_self y1)), (gs_self (gs_ne (by decide) y2)), (hear_V hWf (by omega) y3 y4).1, (hear_V hWf (by omega) y3 y4).2⟩
        rw [ag_nt AG, hearU_d (by omega) (by omega), if_neg c2]; exact (gs_ne (by decide) (gs_ne (by decide) y0))
      · rw [eW]; exact (V.no.kp (fun k p1 p2 => (Fr.st (Fr.st (Fr.rfl' [44, 45, 46] h) (by decide)) (by decide)).2 k (by simp only [List.mem_cons, List.not_mem_nil, or_false]; omega))).eq (ag_nv AG) (fun p hp => hearU_n (by omega) (by omega)) (fun v hv => hearU_n (by omega) (by omega))
    · have c2 : ((w (178 + 4 * i9))) = ((-1)) := c2
      refine wn_ld (pc' := 34) (q := 4) (kin := 2) (v := .ref (44)) rfl (fun _ _ _ => rfl) rfl rfl ?_
      refine wn_get (pc' := 37) (v := .int (nI (hdN w (ntW w)))) rfl rfl y0 rfl ?_
      refine wn_bp (pc' := 39) (w := nI 8) rfl rfl (by decide) ?_
      refine wn_icmpN (t := 45) (f := 42) rfl rfl rfl (by omega) (by omega) (fun c3 => ?_) (fun c3 => ?_)
      · have c3 : (hdN w (ntW w)) < 8 := c3
        refine wn_ld (pc' := 47) (q := 4) (kin := 2) (v := .ref (44)) rfl (fun _ _ _ => rfl) rfl rfl ?_
        refine wn_pu (pc' := 48) (st' := [.ref (44), .ref (44)]) rfl (fun _ _ _ => rfl) rfl rfl ?_
        refine wn_get (pc' := 51) (v := .int (nI (hdN w (ntW w)))) rfl rfl y0 rfl ?_
        refine wn_ic (pc' := 52) (w := nI 1) rfl rfl (by decide) ?_
        refine wn_addN (pc' := 53) rfl rfl ?_
        refine wn_put (pc' := 56) rfl rfl y0 (Nat.le_of_ble_eq_true rfl) ⟨rfl, rfl⟩ ?_
        show Wn _ _ 56 _ [] (h.set 44 (.inr (7, [.int (nI ((hdN w (ntW w)) + 1)), .ref (45), .ref (46)]))) _
        refine wn_ld (pc' := 58) (q := 4) (kin := 2) (v := .ref (44)) rfl (fun _ _ _ => rfl) rfl rfl ?_
        refine wn_get (pc' := 61) (v := .ref (45)) rfl rfl (gs_self y0) rfl ?_
        refine wn_ld (pc' := 62) (q := 1) (kin := 0) (v := .int (nI (i9))) rfl (fun _ _ _ => rfl) rfl rfl ?_
        refine wn_ld (pc' := 63) (q := 2) (kin := 0) (v := .int (nI (a9))) rfl (fun _ _ _ => rfl) rfl rfl ?_
        refine wn_iast (pc' := 64) (j := i9) rfl rfl (gs_ne (by decide) y1) rfl (by omega) (by decide) ?_
        refine wn_ld (pc' := 66) (q := 4) (kin := 2) (v := .ref (44)) rfl (fun _ _ _ => rfl) rfl rfl ?_
        refine wn_get (pc' := 69) (v := .ref (46)) rfl rfl (gs_ne (by decide) (gs_self y0)) rfl ?_
        refine wn_ld (pc' := 70) (q := 1) (kin := 0) (v := .int (nI (i9))) rfl (fun _ _ _ => rfl) rfl rfl ?_
        refine wn_ld (pc' := 71) (q := 3) (kin := 0) (v := .int (bI (c))) rfl (fun _ _ _ => rfl) rfl rfl ?_
        refine wn_bastZ (pc' := 72) (j := i9) rfl rfl (gs_ne (by decide) (gs_ne (by decide) y2)) rfl (by omega) (by decide) ?_
        refine wn_ld (pc' := 74) (q := 4) (kin := 2) (v := .ref (44)) rfl (fun _ _ _ => rfl) rfl rfl ?_
        refine wn_get (pc' := 77) (v := .int (nI ((hdN w (ntW w)) + 1))) rfl rfl (gs_ne (by decide) (gs_ne (by decide) (gs_self y0))) rfl ?_
        have hC : hearC w (nI i9) (nI a9) := ⟨iin_nI (by omega) (by omega), by rw [cl_i]; exact iin_nI (by omega) (by omega)⟩
        have hF : ¬ hearF w (nI i9).toNatClampNeg := by rw [cl_i]; exact fun q => by have := q.2; omega
        have eW : hearW w (nI i9) (nI a9) c = hearU w i9 (nI a9) c := by unfold hearW; rw [qW_t ⟨hC, hF⟩, cl_i]
        have AG : AgW w (hearU w i9 (nI a9) c) := hearU_ag (by omega)
        refine wn_iret rfl rfl rfl ⟨congrArg (fun z => some (Value.int z)) ?_, (Fr.st (Fr.st (Fr.st (Fr.rfl' [44, 45, 46] h) (by decide)) (by decide)) (by decide)).1, fun k hk => (Fr.st (Fr.st (Fr.st (Fr.rfl' [44, 45, 46] h) (by decide)) (by decide)) (by decide)).2 k (by simp only [List.mem_cons, List.not_mem_nil, or_false]; omega), ?_, ?_⟩
        · unfold hearA; rw [qI_t hC, qI_f hF, cl_i, if_pos c2]
        · rw [eW]
          refine ⟨_, _, ?_, (gs_ne (by decide) (gs_self (gs_ne (by decide) y1))), (gs_self (gs_ne (by decide) (gs_ne (by decide) y2))), (hear_V hWf (by omega) y3 y4).1, (hear_V hWf (by omega) y3 y4).2⟩
          rw [ag_nt AG, hearU_d (by omega) (by omega), if_pos c2]; exact (gs_ne (by decide) (gs_ne (by decide) (gs_self y0)))
        · rw [eW]; exact (V.no.kp (fun k p1 p2 => (Fr.st (Fr.st (Fr.st (Fr.rfl' [44, 45, 46] h) (by decide)) (by decide)) (by decide)).2 k (by simp only [List.mem_cons, List.not_mem_nil, or_false]; omega))).eq (ag_nv AG) (fun p hp => hearU_n (by omega) (by omega)) (fun v hv => hearU_n (by omega) (by omega))
      · have c3 : 8 ≤ (hdN w (ntW w)) := c3
        refine wn_bp (pc' := 44) (w := -3) rfl rfl (by decide) ?_
        have hC : hearC w (nI i9) (nI a9) := ⟨iin_nI (by omega) (by omega), by rw [cl_i]; exact iin_nI (by omega) (by omega)⟩
        have hF : hearF w (nI i9).toNatClampNeg := by rw [cl_i]; exact ⟨c2, by unfold Hd8 at h8; omega⟩
        refine wn_iret rfl rfl rfl ⟨congrArg (fun z => some (Value.int z)) ?_, rfl, fun _ _ => rfl, ?_, ?_⟩
        · unfold hearA; rw [qI_t hC, qI_t hF]
        · rw [show hearW w (nI i9) (nI a9) c = w from qW_f (fun q => q.2 hF)]; exact V.vo
        · rw [show hearW w (nI i9) (nI a9) c = w from qW_f (fun q => q.2 hF)]; exact V.no
  · have c1 : ¬ (iin i (ntW w) ∧ iin a (vaW w i.toNatClampNeg)) := c1
    refine wn_bp (pc' := 11) (w := -2) rfl rfl (by decide) ?_
    refine wn_iret rfl rfl rfl ⟨congrArg (fun z => some (Value.int z)) ?_, rfl, fun _ _ => rfl, ?_, ?_⟩
    · exact (qI_f c1).symm
    · rw [show hearW w i a c = w from qW_f (fun q => c1 q.1)]; exact V.vo
    · rw [show hearW w i a c = w from qW_f (fun q => c1 q.1)]; exact V.no

theorem x_hear (d : Nat) (h : aH) (ls : Nat) (w : Nat → Int32) (hWf : WfW w) (V : XV h ls w) (h8 : Hd8 w) (i a : Int32) (c : Prop) : Sp (Rn (d + 4)) 92 [.ref (0), .int (i), .int (a), .int (bI (c))] h (fun r9 h9 => r9 = some (.int (hearA w i a)) ∧ h9.length = h.length ∧ (∀ k, k < 44 ∨ 50 ≤ k → h9[k]? = h[k]?) ∧ VoiceR h9 44 (hearW w i a c) ∧ NotesR h9 47 (hearW w i a c)) := by
  obtain ⟨⟨e1, e2⟩, ⟨e3, e4⟩, ⟨e5, e6⟩⟩ := Wf_n hWf
  obtain ⟨⟨e7, e8⟩, ⟨e9, e10⟩⟩ := Wf_m hWf
  obtain ⟨v0, ⟨x9, v1⟩, ⟨v2, ⟨sz, rf, rt, rv, ag, vr, sd, tl, l0, l1, l2, l3, l4, l5, l6, l7, l8, g1, g2, g3, g4, g5⟩, ⟨sec, it, fi, se, sg, lst, rs, rp, pj, pk, pv, k0, k1, k2, k3, k4, k5, k6, k7, k8, k9, k10, k11, k12, k13⟩, ⟨hv, hc, y0, y1, y2, y3, y4⟩, ⟨an, wk, n0, n1, n2, n3, n4⟩⟩, v3⟩ := id V
  rw [e1, e3, e5] at l0
  rw [e7, e9] at k1
  refine Sp_of (by decide) (Nat.le_of_ble_eq_true rfl) ?_
  show Wn _ _ 0 [(0, .ref (0)), (1, .int (i)), (2, .int (a)), (3, .int (bI (c)))] [] _ _
  refine wn_ld (pc' := 1) (q := 0) (kin := 2) (v := .ref (0)) rfl (fun _ _ _ => rfl) rfl rfl ?_
  refine wn_ld (pc' := 2) (q := 1) (kin := 0) (v := .int (i)) rfl (fun _ _ _ => rfl) rfl rfl ?_
  refine wn_ld (pc' := 3) (q := 2) (kin := 0) (v := .int (a)) rfl (fun _ _ _ => rfl) rfl rfl ?_
  refine wn_ld (pc' := 4) (q := 3) (kin := 0) (v := .int (bI (c))) rfl (fun _ _ _ => rfl) rfl rfl ?_
  refine wn_virS (pc' := 7) rfl rfl (by decide) rfl rfl v1 (Nat.le_of_ble_eq_true rfl) (x_listen _ _ ls w hWf V h8 i a c) (fun r9 h1 e2 => ?_)
  obtain ⟨rfl, P_h1⟩ := e2
  show Wn _ _ 7 _ [.int (hearA w i a)] h1 _
  exact wn_iret rfl rfl rfl ⟨rfl, P_h1⟩

theorem m_hear (d : Nat) (h : aH) (w : Nat → Int32) (hWf : WfW w) (HM : MH h w) (h8 : Hd8 w) (i a : Int32) (c : Prop) : Sp (Rn (d + 4)) 205 [.ref (71), .int (i), .int (a), .int (bI (c))] h (fun r9 h9 => r9 = some (.int (hearA w i a)) ∧ h9.length = h.length ∧ (∀ k, k ≠ 72 → h9[k]? = h[k]?) ∧ isI h9 72 2676 (hearW w i a c)) := by
  obtain ⟨⟨e1, e2⟩, ⟨e3, e4⟩, ⟨e5, e6⟩⟩ := Wf_n hWf
  obtain ⟨⟨e7, e8⟩, ⟨e9, e10⟩⟩ := Wf_m hWf
  obtain ⟨th, tp, sz, at9, fr, tk, vl, fk, fp, il, up, lo, hM, hW⟩ := id HM
  refine Sp_of (by decide) (Nat.le_of_ble_eq_true rfl) ?_
  show Wn _ _ 0 [(0, .ref (71)), (1, .int (i)), (2, .int (a)), (3, .int (bI (c)))] [] _ _
  refine wn_ld (pc' := 1) (q := 0) (kin := 2) (v := .ref (71)) rfl (fun _ _ _ => rfl) rfl rfl ?_
  refine wn_ld (pc' := 2) (q := 1) (kin := 0) (v := .int (i)) rfl (fun _ _ _ => rfl) rfl rfl ?_
  refine wn_ld (pc' := 3) (q := 2) (kin := 0) (v := .int (a)) rfl (fun _ _ _ => rfl) rfl rfl ?_
  refine wn_virI (pc' := 6) rfl rfl (by decide) rfl rfl hM (Nat.le_of_ble_eq_true rfl) (m_isVariant _ _ w HM hWf _ _) ?_
  refine wn_ifneB (t := 12) (f := 9) rfl rfl rfl (fun c1 => ?_) (fun c1 => ?_)
  · have c1 : (iin i (ntW w) ∧ iin a (vaW w i.toNatClampNeg)) := c1
    obtain ⟨i9, hi9, rfl⟩ := iin_of c1.1
    have ti_i := nI_toInt (n := i9) (show i9 < 2 ^ 31 by omega)
    have cl_i := nI_clamp (n := i9) (show i9 < 2 ^ 31 by omega)
    have hva_i := wf_vab hWf hi9
    obtain ⟨a9, ha9, rfl⟩ := iin_of (by simpa only [cl_i] using c1.2)
    have ti_a := nI_toInt (n := a9) (show a9 < 2 ^ 31 by omega)
    have cl_a := nI_clamp (n := a9) (show a9 < 2 ^ 31 by omega)
    refine wn_ld (pc' := 13) (q := 0) (kin := 2) (v := .ref (71)) rfl (fun _ _ _ => rfl) rfl rfl ?_
    refine wn_ld (pc' := 14) (q := 1) (kin := 0) (v := .int (nI (i9))) rfl (fun _ _ _ => rfl) rfl rfl ?_
    refine wn_virI (pc' := 17) rfl rfl (by decide) rfl rfl hM (Nat.le_of_ble_eq_true rfl) (m_isHeard _ _ w HM i9 (by omega)) ?_
    refine wn_ifneB (t := 32) (f := 20) rfl rfl rfl (fun c2 => ?_) (fun c2 => ?_)
    · have c2 : (¬ w (178 + 4 * i9) = -1) := c2
      refine wn_ld (pc' := 33) (q := 0) (kin := 2) (v := .ref (71)) rfl (fun _ _ _ => rfl) rfl rfl ?_
      refine wn_get (pc' := 36) (v := .ref (72)) rfl rfl hM rfl ?_
      refine wn_sp (pc' := 39) (w := nI 176) rfl rfl (by decide) ?_
      refine wn_ic (pc' := 40) (w := nI 4) rfl rfl (by decide) ?_
      refine wn_ld (pc' := 41) (q := 1) (kin := 0) (v := .int (nI (i9))) rfl (fun _ _ _ => rfl) rfl rfl ?_
      refine wn_mulN (pc' := 42) rfl rfl ?_
      refine wn_addN (pc' := 43) rfl rfl ?_
      refine wn_ic (pc' := 44) (w := nI 2) rfl rfl (by decide) ?_
      refine wn_addN (pc' := 45) rfl rfl ?_
      refine wn_ld (pc' := 46) (q := 2) (kin := 0) (v := .int (nI (a9))) rfl (fun _ _ _ => rfl) rfl rfl ?_
      refine wn_iast (pc' := 47) (j := (176 + (4 * i9)) + 2) rfl rfl hW rfl (by omega) (by decide) ?_
      refine wn_ld (pc' := 48) (q := 0) (kin := 2) (v := .ref (71)) rfl (fun _ _ _ => rfl) rfl rfl ?_
      refine wn_get (pc' := 51) (v := .ref (72)) rfl rfl (gs_ne (by decide) hM) rfl ?_
      refine wn_sp (pc' := 54) (w := nI 176) rfl rfl (by decide) ?_
      refine wn_ic (pc' := 55) (w := nI 4) rfl rfl (by decide) ?_
      refine wn_ld (pc' := 56) (q := 1) (kin := 0) (v := .int (nI (i9))) rfl (fun _ _ _ => rfl) rfl rfl ?_
      refine wn_mulN (pc' := 57) rfl rfl ?_
      refine wn_addN (pc' := 58) rfl rfl ?_
      refine wn_ic (pc' := 59) (w := nI 3) rfl rfl (by decide) ?_
      refine wn_addN (pc' := 60) rfl rfl ?_
      refine wn_ld (pc' := 61) (q := 3) (kin := 0) (v := .int (bI (c))) rfl (fun _ _ _ => rfl) rfl rfl ?_
      refine wn_ifeqB (t := 68) (f := 64) rfl rfl rfl (fun c3 => ?_) (fun c3 => ?_)
      · have c3 : ¬ (c) := c3
        refine wn_ic (pc' := 69) (w := nI 0) rfl rfl (by decide) ?_
        refine wn_iast (pc' := 70) (j := (176 + (4 * i9)) + 3) rfl rfl (gs_self hW) rfl (by omega) (by decide) ?_
        refine wn_ld (pc' := 71) (q := 0) (kin := 2) (v := .ref (71)) rfl (fun _ _ _ => rfl) rfl rfl ?_
        refine wn_virI (pc' := 74) rfl rfl (by decide) rfl rfl (gs_ne (by decide) (gs_ne (by decide) hM)) (Nat.le_of_ble_eq_true rfl) (m_heardMany _ _ (upd (upd w ((176 + (4 * i9)) + 2) ((nI (a9)))) ((176 + (4 * i9)) + 3) ((nI (0)))) ⟨_, _, _, _, _, _, _, _, _, _, _, _, (gs_ne (by decide) (gs_ne (by decide) hM)), (gs_self (gs_self hW))⟩ (by rw [show ntW (upd (upd w ((176 + (4 * i9)) + 2) ((nI (a9)))) ((176 + (4 * i9)) + 3) ((nI (0)))) = ntW w from (congrArg Int32.toNatClampNeg ((pk_un (by omega)).trans (pk_un (by omega))))]; exact ((pk_un (by omega)).trans (pk_un (by omega))).trans e5) (by rw [show ntW (upd (upd w ((176 + (4 * i9)) + 2) ((nI (a9)))) ((176 + (4 * i9)) + 3) ((nI (0)))) = ntW w from (congrArg Int32.toNatClampNeg ((pk_un (by omega)).trans (pk_un (by omega))))]; omega)) ?_
        have hC : hearC w (nI i9) (nI a9) := ⟨iin_nI (by omega) (by omega), by rw [cl_i]; exact iin_nI (by omega) (by omega)⟩
        have hF : ¬ hearF w (nI i9).toNatClampNeg := by rw [cl_i]; exact fun q => c2 q.1
        have eU : upd (upd w (176 + 4 * i9 + 2) (nI a9)) (176 + 4 * i9 + 3) (nI 0) = hearU w i9 (nI a9) c := by unfold hearU; rw [show 176 + 4 * i9 + 2 = 178 + 4 * i9 by omega, show 176 + 4 * i9 + 3 = 179 + 4 * i9 by omega, ← bI_f0 c3]
        refine wn_iret rfl rfl rfl ⟨congrArg (fun z => some (Value.int z)) ?_, (Fr.st (Fr.st (Fr.rfl' [72] h) (by decide)) (by decide)).1, fun k hk => (Fr.st (Fr.st (Fr.rfl' [72] h) (by decide)) (by decide)).2 k (by simp only [List.mem_cons, List.not_mem_nil, or_false]; omega), ?_⟩
        · unfold hearA; rw [qI_t hC, qI_f hF, cl_i, eU, ag_nt (hearU_ag (by omega)), hearU_d (by omega) (by omega)]
        · rw [show hearW w (nI i9) (nI a9) c = hearU w i9 (nI a9) c by unfold hearW; rw [qW_t ⟨hC, hF⟩, cl_i], ← eU]; exact (gs_self (gs_self hW))
      · have c3 : (c) := c3
        refine wn_ic (pc' := 65) (w := nI 1) rfl rfl (by decide) ?_
        refine wn_jp (pc' := 69) rfl rfl ?_
        refine wn_iast (pc' := 70) (j := (176 + (4 * i9)) + 3) rfl rfl (gs_self hW) rfl (by omega) (by decide) ?_
        refine wn_ld (pc' := 71) (q := 0) (kin := 2) (v := .ref (71)) rfl (fun _ _ _ => rfl) rfl rfl ?_
        refine wn_virI (pc' := 74) rfl rfl (by decide) rfl rfl (gs_ne (by decide) (gs_ne (by decide) hM)) (Nat.le_of_ble_eq_true rfl) (m_heardMany _ _ (upd (upd w ((176 + (4 * i9)) + 2) ((nI (a9)))) ((176 + (4 * i9)) + 3) ((nI (1)))) ⟨_, _, _, _, _, _, _, _, _, _, _, _, (gs_ne (by decide) (gs_ne (by decide) hM)), (gs_self (gs_self hW))⟩ (by rw [show ntW (upd (upd w ((176 + (4 * i9)) + 2) ((nI (a9)))) ((176 + (4 * i9)) + 3) ((nI (1)))) = ntW w from (congrArg Int32.toNatClampNeg ((pk_un (by omega)).trans (pk_un (by omega))))]; exact ((pk_un (by omega)).trans (pk_un (by omega))).trans e5) (by rw [show ntW (upd (upd w ((176 + (4 * i9)) + 2) ((nI (a9)))) ((176 + (4 * i9)) + 3) ((nI (1)))) = ntW w from (congrArg Int32.toNatClampNeg ((pk_un (by omega)).trans (pk_un (by omega))))]; omega)) ?_
        have hC : hearC w (nI i9) (nI a9) := ⟨iin_nI (by omega) (by omega), by rw [cl_i]; exact iin_nI (by omega) (by omega)⟩
        have hF : ¬ hearF w (nI i9).toNatClampNeg := by rw [cl_i]; exact fun q => c2 q.1
        have eU : upd (upd w (176 + 4 * i9 + 2) (nI a9)) (176 + 4 * i9 + 3) (nI 1) = hearU w i9 (nI a9) c := by unfold hearU; rw [show 176 + 4 * i9 + 2 = 178 + 4 * i9 by omega, show 176 + 4 * i9 + 3 = 179 + 4 * i9 by omega, ← bI_t1 c3]
        refine wn_iret rfl rfl rfl ⟨congrArg (fun z => some (Value.int z)) ?_, (Fr.st (Fr.st (Fr.rfl' [72] h) (by decide)) (by decide)).1, fun k hk => (Fr.st (Fr.st (Fr.rfl' [72] h) (by decide)) (by decide)).2 k (by simp only [List.mem_cons, List.not_mem_nil, or_false]; omega), ?_⟩
        · unfold hearA; rw [qI_t hC, qI_f hF, cl_i, eU, ag_nt (hearU_ag (by omega)), hearU_d (by omega) (by omega)]
        · rw [show hearW w (nI i9) (nI a9) c = hearU w i9 (nI a9) c by unfold hearW; rw [qW_t ⟨hC, hF⟩, cl_i], ← eU]; exact (gs_self (gs_self hW))
    · have c2 : ¬ (¬ w (178 + 4 * i9) = -1) := c2
      refine wn_ld (pc' := 21) (q := 0) (kin := 2) (v := .ref (71)) rfl (fun _ _ _ => rfl) rfl rfl ?_
      have := hdN_le w (ntW w)
      refine wn_virI (pc' := 24) rfl rfl (by decide) rfl rfl hM (Nat.le_of_ble_eq_true rfl) (m_heardMany _ _ w HM e5 (by omega)) ?_
      refine wn_bp (pc' := 26) (w := nI 8) rfl rfl (by decide) ?_
      refine wn_icmpN (t := 32) (f := 29) rfl rfl rfl (by omega) (by omega) (fun c4 => ?_) (fun c4 => ?_)
      · have c4 : ¬ (hdN w (ntW w)) = 8 := c4
        refine wn_ld (pc' := 33) (q := 0) (kin := 2) (v := .ref (71)) rfl (fun _ _ _ => rfl) rfl rfl ?_
        refine wn_get (pc' := 36) (v := .ref (72)) rfl rfl hM rfl ?_
        refine wn_sp (pc' := 39) (w := nI 176) rfl rfl (by decide) ?_
        refine wn_ic (pc' := 40) (w := nI 4) rfl rfl (by decide) ?_
        refine wn_ld (pc' := 41) (q := 1) (kin := 0) (v := .int (nI (i9))) rfl (fun _ _ _ => rfl) rfl rfl ?_
        refine wn_mulN (pc' := 42) rfl rfl ?_
        refine wn_addN (pc' := 43) rfl rfl ?_
        refine wn_ic (pc' := 44) (w := nI 2) rfl rfl (by decide) ?_
        refine wn_addN (pc' := 45) rfl rfl ?_
        refine wn_ld (pc' := 46) (q := 2) (kin := 0) (v := .int (nI (a9))) rfl (fun _ _ _ => rfl) rfl rfl ?_
        refine wn_iast (pc' := 47) (j := (176 + (4 * i9)) + 2) rfl rfl hW rfl (by omega) (by decide) ?_
        refine wn_ld (pc' := 48) (q := 0) (kin := 2) (v := .ref (71)) rfl (fun _ _ _ => rfl) rfl rfl ?_
        refine wn_get (pc' := 51) (v := .ref (72)) rfl rfl (gs_ne (by decide) hM) rfl ?_
        refine wn_sp (pc' := 54) (w := nI 176) rfl rfl (by decide) ?_
        refine wn_ic (pc' := 55) (w := nI 4) rfl rfl (by decide) ?_
        refine wn_ld (pc' := 56) (q := 1) (kin := 0) (v := .int (nI (i9))) rfl (fun _ _ _ => rfl) rfl rfl ?_
        refine wn_mulN (pc' := 57) rfl rfl ?_
        refine wn_addN (pc' := 58) rfl rfl ?_
        refine wn_ic (pc' := 59) (w := nI 3) rfl rfl (by decide) ?_
        refine wn_addN (pc' := 60) rfl rfl ?_
        refine wn_ld (pc' := 61) (q := 3) (kin := 0) (v := .int (bI (c))) rfl (fun _ _ _ => rfl) rfl rfl ?_
        refine wn_ifeqB (t := 68) (f := 64) rfl rfl rfl (fun c5 => ?_) (fun c5 => ?_)
        · have c5 : ¬ (c) := c5
          refine wn_ic (pc' := 69) (w := nI 0) rfl rfl (by decide) ?_
          refine wn_iast (pc' := 70) (j := (176 + (4 * i9)) + 3) rfl rfl (gs_self hW) rfl (by omega) (by decide) ?_
          refine wn_ld (pc' := 71) (q := 0) (kin := 2) (v := .ref (71)) rfl (fun _ _ _ => rfl) rfl rfl ?_
          refine wn_virI (pc' := 74) rfl rfl (by decide) rfl rfl (gs_ne (by decide) (gs_ne (by decide) hM)) (Nat.le_of_ble_eq_true rfl) (m_heardMany _ _ (upd (upd w ((176 + (4 * i9)) + 2) ((nI (a9)))) ((176 + (4 * i9)) + 3) ((nI (0)))) ⟨_, _, _, _, _, _, _, _, _, _, _, _, (gs_ne (by decide) (gs_ne (by decide) hM)), (gs_self (gs_self hW))⟩ (by rw [show ntW (upd (upd w ((176 + (4 * i9)) + 2) ((nI (a9)))) ((176 + (4 * i9)) + 3) ((nI (0)))) = ntW w from (congrArg Int32.toNatClampNeg ((pk_un (by omega)).trans (pk_un (by omega))))]; exact ((pk_un (by omega)).trans (pk_un (by omega))).trans e5) (by rw [show ntW (upd (upd w ((176 + (4 * i9)) + 2) ((nI (a9)))) ((176 + (4 * i9)) + 3) ((nI (0)))) = ntW w from (congrArg Int32.toNatClampNeg ((pk_un (by omega)).trans (pk_un (by omega))))]; omega)) ?_
          have hC : hearC w (nI i9) (nI a9) := ⟨iin_nI (by omega) (by omega), by rw [cl_i]; exact iin_nI (by omega) (by omega)⟩
          have hF : ¬ hearF w (nI i9).toNatClampNeg := by rw [cl_i]; exact fun q => by have := q.2; omega
          have eU : upd (upd w (176 + 4 * i9 + 2) (nI a9)) (176 + 4 * i9 + 3) (nI 0) = hearU w i9 (nI a9) c := by unfold hearU; rw [show 176 + 4 * i9 + 2 = 178 + 4 * i9 by omega, show 176 + 4 * i9 + 3 = 179 + 4 * i9 by omega, ← bI_f0 c5]
          refine wn_iret rfl rfl rfl ⟨congrArg (fun z => some (Value.int z)) ?_, (Fr.st (Fr.st (Fr.rfl' [72] h) (by decide)) (by decide)).1, fun k hk => (Fr.st (Fr.st (Fr.rfl' [72] h) (by decide)) (by decide)).2 k (by simp only [List.mem_cons, List.not_mem_nil, or_false]; omega), ?_⟩
          · unfold hearA; rw [qI_t hC, qI_f hF, cl_i, eU, ag_nt (hearU_ag (by omega)), hearU_d (by omega) (by omega)]
          · rw [show hearW w (nI i9) (nI a9) c = hearU w i9 (nI a9) c by unfold hearW; rw [qW_t ⟨hC, hF⟩, cl_i], ← eU]; exact (gs_self (gs_self hW))
        · have c5 : (c) := c5
          refine wn_ic (pc' := 65) (w := nI 1) rfl rfl (by decide) ?_
          refine wn_jp (pc' := 69) rfl rfl ?_
          refine wn_iast (pc' := 70) (j := (176 + (4 * i9)) + 3) rfl rfl (gs_self hW) rfl (by omega) (by decide) ?_
          refine wn_ld (pc' := 71) (q := 0) (kin := 2) (v := .ref (71)) rfl (fun _ _ _ => rfl) rfl rfl ?_
          refine wn_virI (pc' := 74) rfl rfl (by decide) rfl rfl (gs_ne (by decide) (gs_ne (by decide) hM)) (Nat.le_of_ble_eq_true rfl) (m_heardMany _ _ (upd (upd w ((176 + (4 * i9)) + 2) ((nI (a9)))) ((176 + (4 * i9)) + 3) ((nI (1)))) ⟨_, _, _, _, _, _, _, _, _, _, _, _, (gs_ne (by decide) (gs_ne (by decide) hM)), (gs_self (gs_self hW))⟩ (by rw [show ntW (upd (upd w ((176 + (4 * i9)) + 2) ((nI (a9)))) ((176 + (4 * i9)) + 3) ((nI (1)))) = ntW w from (congrArg Int32.toNatClampNeg ((pk_un (by omega)).trans (pk_un (by omega))))]; exact ((pk_un (by omega)).trans (pk_un (by omega))).trans e5) (by rw [show ntW (upd (upd w ((176 + (4 * i9)) + 2) ((nI (a9)))) ((176 + (4 * i9)) + 3) ((nI (1)))) = ntW w from (congrArg Int32.toNatClampNeg ((pk_un (by omega)).trans (pk_un (by omega))))]; omega)) ?_
          have hC : hearC w (nI i9) (nI a9) := ⟨iin_nI (by omega) (by omega), by rw [cl_i]; exact iin_nI (by omega) (by omega)⟩
          have hF : ¬ hearF w (nI i9).toNatClampNeg := by rw [cl_i]; exact fun q => by have := q.2; omega
          have eU : upd (upd w (176 + 4 * i9 + 2) (nI a9)) (176 + 4 * i9 + 3) (nI 1) = hearU w i9 (nI a9) c := by unfold hearU; rw [show 176 + 4 * i9 + 2 = 178 + 4 * i9 by omega, show 176 + 4 * i9 + 3 = 179 + 4 * i9 by omega, ← bI_t1 c5]
          refine wn_iret rfl rfl rfl ⟨congrArg (fun z => some (Value.int z)) ?_, (Fr.st (Fr.st (Fr.rfl' [72] h) (by decide)) (by decide)).1, fun k hk => (Fr.st (Fr.st (Fr.rfl' [72] h) (by decide)) (by decide)).2 k (by simp only [List.mem_cons, List.not_mem_nil, or_false]; omega), ?_⟩
          · unfold hearA; rw [qI_t hC, qI_f hF, cl_i, eU, ag_nt (hearU_ag (by omega)), hearU_d (by omega) (by omega)]
          · rw [show hearW w (nI i9) (nI a9) c = hearU w i9 (nI a9) c by unfold hearW; rw [qW_t ⟨hC, hF⟩, cl_i], ← eU]; exact (gs_self (gs_self hW))
      · have c4 : (hdN w (ntW w)) = 8 := c4
        refine wn_bp (pc' := 31) (w := -3) rfl rfl (by decide) ?_
        have hC : hearC w (nI i9) (nI a9) := ⟨iin_nI (by omega) (by omega), by rw [cl_i]; exact iin_nI (by omega) (by omega)⟩
        have hF : hearF w (nI i9).toNatClampNeg := by rw [cl_i]; exact ⟨Classical.not_not.mp c2, by omega⟩
        refine wn_iret rfl rfl rfl ⟨congrArg (fun z => some (Value.int z)) ?_, rfl, fun _ _ => rfl, ?_⟩
        · unfold hearA; rw [qI_t hC, qI_t hF]
        · rw [show hearW w (nI i9) (nI a9) c = w from qW_f (fun q => q.2 hF)]; exact hW
  · have c1 : ¬ (iin i (ntW w) ∧ iin a (vaW w i.toNatClampNeg)) := c1
    refine wn_bp (pc' := 11) (w := -2) rfl rfl (by decide) ?_
    refine wn_iret rfl rfl rfl ⟨congrArg (fun z => some (Value.int z)) ?_, rfl, fun _ _ => rfl, ?_⟩
    · exact (qI_f c1).symm
    · rw [show hearW w i a c = w from qW_f (fun q => c1 q.1)]; exact hW

theorem kase_17 (i a : Int32) (c : Prop) : CaseI Rq 92 205 [.int i, .int a, .int (bI c)] := kase_w (fun w => hearA w i a) (fun w => hearW w i a c) (fun w g1 g8 => hear_w i a c g1 g8) (fun h ls w g1 g8 V => x_hear 696 h ls w g1 V g8 i a c) (fun h1 w g1 g8 HM => m_hear 696 h1 w g1 HM g8 i a c)
theorem x_forgetV (d : Nat) (h : aH) (q : Nat) (x0 : Int32) (hv hc : Nat → Int32) (y0 : isO h q 7 [.int x0, .ref (q + 1), .ref (q + 2)]) (y1 : isI h (q + 1) 10 hv) (y2 : isZ h (q + 2) 10 hc) : Sp (Rn (d + 1)) 61 [.ref (q)] h (fun r9 h9 => r9 = none ∧ Fr [q, q + 1, q + 2] h h9 ∧ isO h9 q 7 [.int (nI 0), .ref (q + 1), .ref (q + 2)] ∧ ∃ hv1 hc1, isI h9 (q + 1) 10 hv1 ∧ isZ h9 (q + 2) 10 hc1 ∧ ∀ k, k < 10 → hv1 k = -1 ∧ hc1 k = 0) := by
  refine Sp_of (by decide) (Nat.le_of_ble_eq_true rfl) ?_
  show Wn _ _ 0 [(0, .ref (q))] [] _ _
  refine wn_ld (pc' := 1) (q := 0) (kin := 2) (v := .ref (q)) rfl (fun _ _ _ => rfl) rfl rfl ?_
  refine wn_ic (pc' := 2) (w := nI 0) rfl rfl (by decide) ?_
  refine wn_put (pc' := 5) rfl rfl y0 (Nat.le_of_ble_eq_true rfl) ⟨rfl, rfl⟩ ?_
  show Wn _ _ 5 _ [] (h.set q (.inr (7, [.int (nI (0)), .ref (q + 1), .ref (q + 2)]))) _
  refine wn_ic (pc' := 6) (w := nI 0) rfl rfl (by decide) ?_
  refine wn_st (pc' := 7) (q := 1) (kin := 0) (lv' := [(0, .ref (q)), (1, .int (nI (0)))]) rfl (fun _ _ _ => rfl) rfl (Nat.le_of_ble_eq_true rfl) rfl ?_
  have lp2 : ∀ (n_lp2 : Nat) (g1 : aH) (hv1 : Nat → Int32) (hc1 : Nat → Int32) (k : Nat), 10 + 1 ≤ k + n_lp2 → Fr [q, q + 1, q + 2] h g1 → isO g1 q 7 [.int (nI (0)), .ref (q + 1), .ref (q + 2)] → isI g1 (q + 1) 10 hv1 → isZ g1 (q + 2) 10 hc1 → k ≤ 10 → (∀ j, j < k → hv1 j = -1 ∧ hc1 j = 0) → Wn (Rn (d + 0)) 61 7 [(0, .ref (q)), (1, .int (nI (k)))] [] (g1) (fun r9 h9 => r9 = none ∧ Fr [q, q + 1, q + 2] h h9 ∧ isO h9 q 7 [.int (nI 0), .ref (q + 1), .ref (q + 2)] ∧ ∃ hv1 hc1, isI h9 (q + 1) 10 hv1 ∧ isZ h9 (q + 2) 10 hc1 ∧ ∀ k, k < 10 → hv1 k = -1 ∧ hc1 k = 0) := by
    intro n_lp2
    induction n_lp2 with
    | zero => intro g1 hv1 hc1 k hm_lp2 hf_g1 c_q_g1 c_q1_g1 c_q2_g1 hk hV; exfalso; omega
    | succ n_lp2 ih_lp2 =>
      intro g1 hv1 hc1 k hm_lp2 hf_g1 c_q_g1 c_q1_g1 c_q2_g1 hk hV
      refine wn_ld (pc' := 8) (q := 1) (kin := 0) (v := .int (nI (k))) rfl (fun _ _ _ => rfl) rfl rfl ?_
      refine wn_bp (pc' := 10) (w := nI 10) rfl rfl (by decide) ?_
      refine wn_icmpN (t := 33) (f := 13) rfl rfl rfl (by omega) (by omega) (fun c3 => ?_) (fun c3 => ?_)
      · have c3 : 10 ≤ k := c3
        exact wn_vret rfl rfl ⟨rfl, hf_g1, c_q_g1, _, _, c_q1_g1, c_q2_g1, fun k hk => hV k (by omega)⟩
      · have c3 : k < 10 := c3
        refine wn_ld (pc' := 14) (q := 0) (kin := 2) (v := .ref (q)) rfl (fun _ _ _ => rfl) rfl rfl ?_
        refine wn_get (pc' := 17) (v := .ref (q + 1)) rfl rfl c_q_g1 rfl ?_
        refine wn_ld (pc' := 18) (q := 1) (kin := 0) (v := .int (nI (k))) rfl (fun _ _ _ => rfl) rfl rfl ?_
        refine wn_ic (pc' := 19) (w := -1) rfl rfl (by decide) ?_
        refine wn_iast (pc' := 20) (j := k) rfl rfl c_q1_g1 rfl (by omega) (by decide) ?_
        refine wn_ld (pc' := 21) (q := 0) (kin := 2) (v := .ref (q)) rfl (fun _ _ _ => rfl) rfl rfl ?_
        refine wn_get (pc' := 24) (v := .ref (q + 2)) rfl rfl (gs_ne (by omega) c_q_g1) rfl ?_
        refine wn_ld (pc' := 25) (q := 1) (kin := 0) (v := .int (nI (k))) rfl (fun _ _ _ => rfl) rfl rfl ?_
        refine wn_ic (pc' := 26) (w := nI 0) rfl rfl (by decide) ?_
        refine wn_bastZ (pc' := 27) (j := k) rfl rfl (gs_ne (by omega) c_q2_g1) rfl (by omega) (by decide) ?_
        refine wn_incN (n := 1) (pc' := 30) (lv' := [(0, .ref (q)), (1, .int (nI (k + 1)))]) rfl rfl rfl (Nat.le_of_ble_eq_true rfl) rfl (by decide) ?_
        refine wn_jp (pc' := 7) rfl rfl ?_
        refine wn_weak (lv' := [(0, .ref (q)), (1, .int (nI (k + 1)))]) (by simp) ?_
        have z9 := ih_lp2 ((g1.set (q + 1) (.inl (0, 10, .inl (upd hv1 (k) ((-1)))))).set (q + 2) (.inl (2, 10, .inl (upd hc1 (k) (vp_nar .boolean (nI (0))))))) (upd hv1 (k) ((-1))) (upd hc1 (k) (vp_nar .boolean (nI (0)))) (k + 1) (by omega) (Fr.st (Fr.st hf_g1 (by simp)) (by simp)) (gs_ne (by omega) (gs_ne (by omega) c_q_g1)) (gs_ne (by omega) (gs_self c_q1_g1)) (gs_self (gs_ne (by omega) c_q2_g1)) (by omega) (fun j hq => by by_cases e : j = k; (subst e; rw [pk_us, pk_us]; exact ⟨rfl, by decide⟩); (rw [pk_un e, pk_un e]; exact hV j (by omega)))
        exact z9
  refine wn_weak (lv' := [(0, .ref (q)), (1, .int (nI (0)))]) (by simp) ?_
  have z9 := lp2 (10 + 1) (h.set q (.inr (7, [.int (nI (0)), .ref (q + 1), .ref (q + 2)]))) hv hc 0 (by omega) (Fr.st (Fr.rfl' [q, q + 1, q + 2] h) (by simp)) (gs_self y0) (gs_ne (by omega) y1) (gs_ne (by omega) y2) (by omega) (fun _ q => absurd q (by omega))
  exact z9

theorem x_mute (d : Nat) (h : aH) (ls : Nat) (w : Nat → Int32) (hWf : WfW w) (V : XV h ls w) : Sp (Rn (d + 2)) 95 [.ref (0)] h (fun r9 h9 => r9 = some (.int (nI (hdN w (ntW w)))) ∧ h9.length = h.length ∧ (∀ k, k < 44 ∨ 50 ≤ k → h9[k]? = h[k]?) ∧ VoiceR h9 44 (muteW w) ∧ NotesR h9 47 (muteW w)) := by
  obtain ⟨⟨e1, e2⟩, ⟨e3, e4⟩, ⟨e5, e6⟩⟩ := Wf_n hWf
  obtain ⟨⟨e7, e8⟩, ⟨e9, e10⟩⟩ := Wf_m hWf
  obtain ⟨v0, ⟨x9, v1⟩, ⟨v2, ⟨sz, rf, rt, rv, ag, vr, sd, tl, l0, l1, l2, l3, l4, l5, l6, l7, l8, g1, g2, g3, g4, g5⟩, ⟨sec, it, fi, se, sg, lst, rs, rp, pj, pk, pv, k0, k1, k2, k3, k4, k5, k6, k7, k8, k9, k10, k11, k12, k13⟩, ⟨hv, hc, y0, y1, y2, y3, y4⟩, ⟨an, wk, n0, n1, n2, n3, n4⟩⟩, v3⟩ := id V
  rw [e1, e3, e5] at l0
  rw [e7, e9] at k1
  refine Sp_of (by decide) (Nat.le_of_ble_eq_true rfl) ?_
  show Wn _ _ 0 [(0, .ref (0))] [] _ _
  refine wn_ld (pc' := 1) (q := 0) (kin := 2) (v := .ref (0)) rfl (fun _ _ _ => rfl) rfl rfl ?_
  refine wn_get (pc' := 4) (v := .ref (23)) rfl rfl v1 rfl ?_
  refine wn_get (pc' := 7) (v := .ref (44)) rfl rfl v2 rfl ?_
  refine wn_get (pc' := 10) (v := .int (nI (hdN w (ntW w)))) rfl rfl y0 rfl ?_
  refine wn_st (pc' := 11) (q := 1) (kin := 0) (lv' := [(0, .ref (0)), (1, .int (nI (hdN w (ntW w))))]) rfl (fun _ _ _ => rfl) rfl (Nat.le_of_ble_eq_true rfl) rfl ?_
  refine wn_ld (pc' := 12) (q := 0) (kin := 2) (v := .ref (0)) rfl (fun _ _ _ => rfl) rfl rfl ?_
  refine wn_get (pc' := 15) (v := .ref (23)) rfl rfl v1 rfl ?_
  refine wn_get (pc' := 18) (v := .ref (44)) rfl rfl v2 rfl ?_
  refine wn_virS (pc' := 21) rfl rfl (by decide) rfl rfl y0 (Nat.le_of_ble_eq_true rfl) (x_forgetV _ _ 44 _ _ _ y0 y1 y2) (fun r9 h1 e2 => ?_)
  obtain ⟨rfl, f_h1, o_h1, hv_h1, hc_h1, i5_h1, i6_h1, hz_h1⟩ := e2
  show Wn _ _ 21 _ [] h1 _
  refine wn_ld (pc' := 22) (q := 1) (kin := 0) (v := .int (nI (hdN w (ntW w)))) rfl (fun _ _ _ => rfl) rfl rfl ?_
  have AG : AgW w (muteW w) := mtW_ag e6
  refine wn_iret rfl rfl rfl ⟨rfl, f_h1.1, fun k hk => f_h1.2 k (by simp only [List.mem_cons, List.not_mem_nil, or_false]; omega), ?_, ?_⟩
  · refine ⟨_, _, ?_, i5_h1, i6_h1, fun i hi => ⟨?_, by rw [(hz_h1 i hi).2]; exact Or.inl rfl⟩, fun i hi hne => ?_⟩
    · rw [ag_nt AG, show hdN (muteW w) (ntW w) = 0 from hdN_z (fun i hi => mtW_h hi)]; exact o_h1
    · rw [ag_nt AG, (hz_h1 i hi).1]
      by_cases c : i < ntW w
      · rw [if_pos c]; exact (show muteW w (178 + 4 * i) = -1 from mtW_h c).symm
      · rw [if_neg c]
    · rw [ag_nt AG] at hi; exact absurd (show muteW w (178 + 4 * i) = -1 from mtW_h hi) hne
  · exact (V.no.kp (fun k p1 p2 => f_h1.2 k (by simp only [List.mem_cons, List.not_mem_nil, or_false]; omega))).eq (ag_nv AG) (fun p hp => mtW_n (fun j hj => by omega)) (fun v hv => mtW_n (fun j hj => by omega))

theorem m_mute (d : Nat) (h : aH) (w : Nat → Int32) (hWf : WfW w) (HM : MH h w) : Sp (Rn (d + 4)) 207 [.ref (71)] h (fun r9 h9 => r9 = some (.int (nI (hdN w (ntW w)))) ∧ h9.length = h.length ∧ (∀ k, k ≠ 72 → h9[k]? = h[k]?) ∧ isI h9 72 2676 (muteW w)) := by
  obtain ⟨⟨e1, e2⟩, ⟨e3, e4⟩, ⟨e5, e6⟩⟩ := Wf_n hWf
  obtain ⟨⟨e7, e8⟩, ⟨e9, e10⟩⟩ := Wf_m hWf
  obtain ⟨th, tp, sz, at9, fr, tk, vl, fk, fp, il, up, lo, hM, hW⟩ := id HM
  refine Sp_of (by decide) (Nat.le_of_ble_eq_true rfl) ?_
  show Wn _ _ 0 [(0, .ref (71))] [] _ _
  refine wn_ld (pc' := 1) (q := 0) (kin := 2) (v := .ref (71)) rfl (fun _ _ _ => rfl) rfl rfl ?_
  have := hdN_le w (ntW w)
  refine wn_virI (pc' := 4) rfl rfl (by decide) rfl rfl hM (Nat.le_of_ble_eq_true rfl) (m_heardMany _ _ w HM e5 (by omega)) ?_
  refine wn_st (pc' := 5) (q := 1) (kin := 0) (lv' := [(0, .ref (71)), (1, .int (nI (hdN w (ntW w))))]) rfl (fun _ _ _ => rfl) rfl (Nat.le_of_ble_eq_true rfl) rfl ?_
  refine wn_ic (pc' := 6) (w := nI 0) rfl rfl (by decide) ?_
  refine wn_st (pc' := 7) (q := 2) (kin := 0) (lv' := [(0, .ref (71)), (1, .int (nI (hdN w (ntW w)))), (2, .int (nI (0)))]) rfl (fun _ _ _ => rfl) rfl (Nat.le_of_ble_eq_true rfl) rfl ?_
  have lp2 : ∀ (n_lp2 : Nat) (g1 : aH) (w9 : Nat → Int32) (k : Nat), (ntW w) + 1 ≤ k + n_lp2 → Fr [72] h g1 → isI g1 72 2676 w9 → k ≤ ntW w → w9 = mtW w k → Wn (Rn (d + 3)) 207 7 [(0, .ref (71)), (1, .int (nI (hdN w (ntW w)))), (2, .int (nI (k)))] [] (g1) (fun r9 h9 => r9 = some (.int (nI (hdN w (ntW w)))) ∧ h9.length = h.length ∧ (∀ k, k ≠ 72 → h9[k]? = h[k]?) ∧ isI h9 72 2676 (muteW w)) := by
    intro n_lp2
    induction n_lp2 with
    | zero => intro g1 w9 k hm_lp2 hf_g1 c_72_g1 hk hm9; exfalso; omega
    | succ n_lp2 ih_lp2 =>
      intro g1 w9 k hm_lp2 hf_g1 c_72_g1 hk hm9
      refine wn_ld (pc' := 8) (q := 2) (kin := 0) (v := .int (nI (k))) rfl (fun _ _ _ => rfl) rfl rfl ?_
      refine wn_ld (pc' := 9) (q := 0) (kin := 2) (v := .ref (71)) rfl (fun _ _ _ => rfl) rfl rfl ?_
      refine wn_get (pc' := 12) (v := .ref (72)) rfl rfl ((hf_g1.2 71 (by decide)).trans hM) rfl ?_
      refine wn_ic (pc' := 13) (w := nI 3) rfl rfl (by decide) ?_
      refine wn_ialdv (pc' := 14) (j := 3) (v := (nI (ntW w))) rfl rfl c_72_g1 rfl (by omega) (by decide) ((by rw [hm9]; exact (mtW_n (fun j hj => by omega)).trans e5)) ?_
      refine wn_icmpN (t := 38) (f := 17) rfl rfl rfl (by omega) (by omega) (fun c3 => ?_) (fun c3 => ?_)
      · have c3 : (ntW w) ≤ k := c3
        obtain rfl : k = ntW w := by omega
        refine wn_ld (pc' := 39) (q := 1) (kin := 0) (v := .int (nI (hdN w (ntW w)))) rfl (fun _ _ _ => rfl) rfl rfl ?_
        exact wn_iret rfl rfl rfl ⟨rfl, hf_g1.1, fun k hk => hf_g1.2 k (by simp only [List.mem_cons, List.not_mem_nil, or_false]; omega), by rw [show muteW w = _ from hm9.symm]; exact c_72_g1⟩
      · have c3 : k < (ntW w) := c3
        refine wn_ld (pc' := 18) (q := 0) (kin := 2) (v := .ref (71)) rfl (fun _ _ _ => rfl) rfl rfl ?_
        refine wn_get (pc' := 21) (v := .ref (72)) rfl rfl ((hf_g1.2 71 (by decide)).trans hM) rfl ?_
        refine wn_sp (pc' := 24) (w := nI 176) rfl rfl (by decide) ?_
        refine wn_ic (pc' := 25) (w := nI 4) rfl rfl (by decide) ?_
        refine wn_ld (pc' := 26) (q := 2) (kin := 0) (v := .int (nI (k))) rfl (fun _ _ _ => rfl) rfl rfl ?_
        refine wn_mulN (pc' := 27) rfl rfl ?_
        refine wn_addN (pc' := 28) rfl rfl ?_
        refine wn_ic (pc' := 29) (w := nI 2) rfl rfl (by decide) ?_
        refine wn_addN (pc' := 30) rfl rfl ?_
        refine wn_ic (pc' := 31) (w := -1) rfl rfl (by decide) ?_
        refine wn_iast (pc' := 32) (j := (176 + (4 * k)) + 2) rfl rfl c_72_g1 rfl (by omega) (by decide) ?_
        refine wn_incN (n := 1) (pc' := 35) (lv' := [(0, .ref (71)), (1, .int (nI (hdN w (ntW w)))), (2, .int (nI (k + 1)))]) rfl rfl rfl (Nat.le_of_ble_eq_true rfl) rfl (by decide) ?_
        refine wn_jp (pc' := 7) rfl rfl ?_
        refine wn_weak (lv' := [(0, .ref (71)), (1, .int (nI (hdN w (ntW w)))), (2, .int (nI (k + 1)))]) (by simp) ?_
        have z9 := ih_lp2 (g1.set 72 (.inl (0, 2676, .inl (upd w9 ((176 + (4 * k)) + 2) ((-1)))))) (upd w9 ((176 + (4 * k)) + 2) ((-1))) (k + 1) (by omega) (Fr.st hf_g1 (by decide)) (gs_self c_72_g1) (by omega) (by rw [hm9]; exact congrArg (fun q => upd (mtW w k) q (-1)) (by omega))
        exact z9
  refine wn_weak (lv' := [(0, .ref (71)), (1, .int (nI (hdN w (ntW w)))), (2, .int (nI (0)))]) (by simp) ?_
  have z9 := lp2 ((ntW w) + 1) h w 0 (by omega) (Fr.rfl' [72] h) hW (by omega) rfl
  exact z9

theorem kase_19 : CaseI Rq 95 207 [] := kase_w (fun w => nI (hdN w (ntW w))) (fun w => muteW w) (fun w g1 g8 => mute_w g1 g8) (fun h ls w g1 g8 V => x_mute 698 h ls w g1 V ) (fun h1 w g1 g8 HM => m_mute 696 h1 w g1 HM )
