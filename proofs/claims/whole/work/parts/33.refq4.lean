/-! THE REFERENCE'S questions, fourth part: nowhere, what is noted, who leans -/
def moI (f : Nat → Nat) (k : Nat) (be : Int32) : Prop := (be = -1 ∧ ∀ a, k ≤ a → a < 5 → f a = 0) ∨ ∃ b, be = nI b ∧ isMx f k 5 b ∧ 0 < f b
theorem mo_0 {f : Nat → Nat} {k : Nat} (hz : ∀ a, k + 1 ≤ a → a < 5 → f a = 0) (h : f k = 0) : moI f k (-1) := Or.inl ⟨rfl, fun a h1 h2 => by
  by_cases e : a = k
  · rw [e]; exact h
  · exact hz a (by omega) h2⟩
theorem mo_1 {f : Nat → Nat} {k : Nat} (hk : k < 5) (hz : ∀ a, k + 1 ≤ a → a < 5 → f a = 0) (h : 0 < f k) : moI f k (nI k) := Or.inr ⟨k, rfl, ⟨Nat.le_refl _, hk, fun j h1 h2 => by
  by_cases e : j = k
  · rw [e]; exact Nat.le_refl _
  · have := hz j (by omega) h2; omega, fun j h1 h2 => by omega⟩, h⟩
theorem mo_t {f : Nat → Nat} {k b : Nat} (h : isMx f (k + 1) 5 b) (h0 : 0 < f b) (hf : f b ≤ f k) : moI f k (nI k) := by
  rcases bs_t h hf with ⟨_, e⟩ | ⟨j, e, hj⟩
  · exact absurd e (nI_m1 (by have := h.1; have := h.2.1; omega))
  · have := h.2.1
    have := h.1
    have hj2 := hj.2.1
    have := (nI_eq (show k < 2 ^ 31 by omega) (show j < 2 ^ 31 by omega)).mp e
    subst this
    exact Or.inr ⟨k, rfl, hj, by omega⟩
theorem mo_f {f : Nat → Nat} {k b : Nat} (h : isMx f (k + 1) 5 b) (h0 : 0 < f b) (hf : f k < f b) : moI f k (nI b) := by
  rcases bs_f h hf with ⟨_, e⟩ | ⟨j, e, hj⟩
  · exact absurd e (nI_m1 (by have := h.2.1; omega))
  · have := h.2.1
    have hj2 := hj.2.1
    have := (nI_eq (show b < 2 ^ 31 by omega) (show j < 2 ^ 31 by omega)).mp e
    subst this
    exact Or.inr ⟨b, rfl, hj, h0⟩
theorem mo_e {w : Nat → Int32} {v i : Nat} {be : Int32} (h : moI (nsF w v i) 0 be) : be = oI (moW w v i) := by
  rcases h with ⟨rfl, hz⟩ | ⟨b, rfl, hb, h0⟩
  · rw [moW_0 (fun a ha => hz a (by omega) ha)]; rfl
  · rw [moW_mx hb h0]; rfl
theorem nsF_b {w : Nat → Int32} (hWf : WfW w) {v i a : Nat} (hv : v < nvW w) (hi : i < ntW w) (ha : a < 5) : nsF w v i a ≤ 9 := by
  have := hWf.1.2.1.2
  have := hWf.1.2.2.2.1.2
  exact wf_nsb hWf (by omega)
theorem moW_c {w : Nat → Int32} {v i x : Nat} (hx : x < 5) : oI (moW w v i) = nI x ↔ moW w v i = some x := by
  cases e : moW w v i with
  | none => exact ⟨fun q => absurd q.symm (nI_m1 (by omega)), fun q => by cases q⟩
  | some b => exact ⟨fun q => by rw [(nI_eq (show b < 2 ^ 31 by have := moW_5 e; omega) (show x < 2 ^ 31 by omega)).mp q], fun q => by cases q; rfl⟩
/-- an ASKER leans -/
def cwW (w : Nat → Int32) (i r : Nat) : Prop := (¬ w (9 + 2 * rdA w r) = -1) ∧ (¬ w (9 + 2 * rdB w r) = -1) ∧ (¬ oI (moW w (rdA w r) i) = -1) ∧ (¬ oI (moW w (rdB w r) i) = -1)
def bwW (w : Nat → Int32) (a : Int32) (r : Nat) : Prop := (w (9 + 2 * rdA w r) = a ∧ ¬ w (9 + 2 * rdB w r) = a) ∨ ((¬ w (9 + 2 * rdA w r) = a) ∧ w (9 + 2 * rdB w r) = a)
def owW (w : Nat → Int32) (i r : Nat) : Prop := ¬ oI (moW w (rdA w r) i) = oI (moW w (rdB w r) i)
def lsA (w : Nat → Int32) (a : Int32) (i n : Nat) : Prop := ∀ r, r < n → cwW w i r → (bwW w a r ↔ owW w i r)
def lsE (w : Nat → Int32) (a : Int32) (i n : Nat) : Prop := ∃ r, r < n ∧ cwW w i r ∧ bwW w a r
def lsW (w : Nat → Int32) (a : Int32) (i : Nat) : Prop := lsA w a i (nrW w) ∧ lsE w a i (nrW w)
theorem lsA_s {w : Nat → Int32} {a : Int32} {i n : Nat} (h : lsA w a i n) (g : cwW w i n → (bwW w a n ↔ owW w i n)) : lsA w a i (n + 1) := fun r hr hc => by
  by_cases e : r = n
  · rw [e] at hc ⊢; exact g hc
  · exact h r (by omega) hc
theorem lsE_s {w : Nat → Int32} {a : Int32} {i n : Nat} : lsE w a i (n + 1) ↔ (lsE w a i n ∨ (cwW w i n ∧ bwW w a n)) := by
  constructor
  · rintro ⟨r, h1, h2⟩
    by_cases e : r = n
    · rw [e] at h2; exact Or.inr h2
    · exact Or.inl ⟨r, by omega, h2⟩
  · rintro (⟨r, h1, h2⟩ | h)
    · exact ⟨r, by omega, h2⟩
    · exact ⟨n, by omega, h⟩
theorem lsE_f {w : Nat → Int32} {a : Int32} {i n : Nat} (h : ¬ cwW w i n) : bI (lsE w a i (n + 1)) = bI (lsE w a i n) := bI_c (lsE_s.trans ⟨fun q => q.elim id (fun q => absurd q.1 h), Or.inl⟩)
theorem lsE_1 {w : Nat → Int32} {a : Int32} {i n : Nat} (h : lsE w a i n ∨ (cwW w i n ∧ bwW w a n)) : bI (lsE w a i (n + 1)) = nI 1 := (bI_t1 (lsE_s.mpr h)).symm
theorem lsE_0 {w : Nat → Int32} {a : Int32} {i n : Nat} (h : ¬ lsE w a i n) (g : ¬ bwW w a n) : bI (lsE w a i (n + 1)) = nI 0 := (bI_f0 (fun q => (lsE_s.mp q).elim h (fun q => g q.2))).symm
noncomputable def lnC (w : Nat → Int32) (a : Int32) (i x : Nat) : Nat := cntP (fun v => w (9 + 2 * v) = a ∧ oI (moW w v i) = nI x) (nvW w)
theorem lnC_le {w : Nat → Int32} (hWf : WfW w) (a : Int32) (i x : Nat) : lnC w a i x ≤ 24 := Nat.le_trans (cntP_le _ _) hWf.1.2.1.2
def leS (f : Nat → Nat) : Nat → Int32 × Nat
  | 0 => (-1, 0)
  | k + 1 => if f k ≤ (leS f k).2 then leS f k else (nI k, f k)
theorem leS_f {f : Nat → Nat} {k : Nat} (h : f k ≤ (leS f k).2) : leS f (k + 1) = leS f k := if_pos h
theorem leS_t {f : Nat → Nat} {k : Nat} (h : ¬ f k ≤ (leS f k).2) : leS f (k + 1) = (nI k, f k) := if_neg h
theorem leS_le {f : Nat → Nat} {b : Nat} (h : ∀ k, f k ≤ b) (k : Nat) : (leS f k).2 ≤ b := by
  induction k with
  | zero => exact Nat.zero_le _
  | succ k ih =>
    by_cases q : f k ≤ (leS f k).2
    · rw [leS_f q]; exact ih
    · rw [leS_t q]; exact h k
noncomputable def nowhereA (w : Nat → Int32) (y t : Int32) : Int32 := qI (iin y 61 ∧ iin t 2) (if t = 0 then nI (nwO (fun i j => snW w y.toNatClampNeg i j (nvW w)) (ntW w) (ntW w)).1 else (nwO (fun i j => snW w y.toNatClampNeg i j (nvW w)) (ntW w) (ntW w)).2) (-2)
theorem nwI_le {p : Nat → Nat → Prop} {i : Nat} {s : Nat × Int32} (k : Nat) : (nwI p i s k).1 ≤ s.1 + k := by
  induction k with
  | zero => exact Nat.le_refl _
  | succ k ih =>
    by_cases h : p i (i + 1 + k)
    · rw [nwI_f h]; omega
    · by_cases q : (nwI p i s k).2 = -1
      · rw [nwI_a h q]; show (nwI p i s k).1 + 1 ≤ _; omega
      · rw [nwI_b h q]; show (nwI p i s k).1 + 1 ≤ _; omega
theorem nwO_le {p : Nat → Nat → Prop} {n : Nat} (i : Nat) : (nwO p n i).1 ≤ n * i := by
  induction i with
  | zero => exact Nat.zero_le _
  | succ i ih =>
    have := nwI_le (p := p) (i := i) (s := nwO p n i) (n - (i + 1))
    show (nwI p i (nwO p n i) (n - (i + 1))).1 ≤ _
    rw [Nat.mul_add]; omega
theorem snW_s {w : Nat → Int32} {y i j n : Nat} : snW w y i j (n + 1) ↔ (snW w y i j n ∨ (fitW w y n i ∧ fitW w y n j)) := by
  unfold snW
  constructor
  · rintro (h | ⟨v, h1, h2⟩)
    · exact Or.inl (Or.inl h)
    · by_cases e : v = n
      · rw [e] at h2; exact Or.inr h2
      · exact Or.inl (Or.inr ⟨v, by omega, h2⟩)
  · rintro ((h | ⟨v, h1, h2⟩) | h)
    · exact Or.inl h
    · exact Or.inr ⟨v, by omega, h2⟩
    · exact Or.inr ⟨n, by omega, h⟩
theorem snW_m {w : Nat → Int32} {y i j n m : Nat} (h : snW w y i j n) (hm : n ≤ m) : snW w y i j m := h.imp id (fun ⟨v, h1, h2⟩ => ⟨v, by omega, h2⟩)
theorem m_nowhere (d : Nat) (h : aH) (w : Nat → Int32) (hWf : WfW w) (HQ : MQs h w) (y t : Int32) : Sp (Rn (d + 10)) 217 [.ref (71), .int (y), .int (t)] h (fun r9 h9 => r9 = some (.int (nowhereA w y t)) ∧ RQ h h9 w) := by
  obtain ⟨⟨e1, e2⟩, ⟨e3, e4⟩, ⟨e5, e6⟩⟩ := Wf_n hWf
  obtain ⟨⟨e7, e8⟩, ⟨e9, e10⟩⟩ := Wf_m hWf
  have p2b := stN_le hWf
  obtain ⟨th, tp, sz, at9, fr, tk, vl, fk, fp, il, up, lo, sa9, tn, q0, q1, q2, q3, q4⟩ := id HQ
  refine Sp_of (by decide) (Nat.le_of_ble_eq_true rfl) ?_
  show Wn _ _ 0 [(0, .ref (71)), (1, .int (y)), (2, .int (t))] [] _ _
  refine wn_ld (pc' := 1) (q := 1) (kin := 0) (v := .int (y)) rfl (fun _ _ _ => rfl) rfl rfl ?_
  refine wn_staI (pc' := 4) rfl rfl (by decide) rfl rfl (Nat.le_of_ble_eq_true rfl) (m_isYear _ _ _) ?_
  refine wn_ifeqB (t := 17) (f := 7) rfl rfl rfl (fun c1 => ?_) (fun c1 => ?_)
  · have c1 : ¬ (iin y 61) := c1
    refine wn_bp (pc' := 19) (w := -2) rfl rfl (by decide) ?_
    try simp only [Int32.lt_iff_toInt_lt, Int32.le_iff_toInt_le, i2l_int, Int32.toInt_zero, iin] at c1
    refine wn_iret rfl rfl rfl ⟨congrArg (fun z => some (Value.int z)) ?_, (RQ.rfl' HQ)⟩
    unfold nowhereA
    rw [qI_f (by simp only [iin]; omega)]
  · have c1 : (iin y 61) := c1
    obtain ⟨y9, hy9, rfl⟩ := iin_of c1
    have ti_y := nI_toInt (n := y9) (show y9 < 2 ^ 31 by omega)
    have cl_y := nI_clamp (n := y9) (show y9 < 2 ^ 31 by omega)
    refine wn_ld (pc' := 8) (q := 2) (kin := 0) (v := .int (t)) rfl (fun _ _ _ => rfl) rfl rfl ?_
    refine wn_pu (pc' := 9) (st' := [.long (Int32.toInt64 (t))]) rfl (fun _ _ _ => rfl) rfl rfl ?_
    refine wn_pu (pc' := 10) (st' := .long (lN 0) :: [.long (Int32.toInt64 (t))]) rfl (fun _ _ _ => rfl) rfl rfl ?_
    refine wn_pu (pc' := 11) (st' := .long (lN 1) :: [.long (lN 0), .long (Int32.toInt64 (t))]) rfl (fun _ _ _ => rfl) rfl rfl ?_
    refine wn_staI (pc' := 14) rfl rfl (by decide) rfl rfl (Nat.le_of_ble_eq_true rfl) (m_inK _ _ t 1 (lN 1) (by decide)) ?_
    refine wn_ifneB (t := 20) (f := 17) rfl rfl rfl (fun c2 => ?_) (fun c2 => ?_)
    · have c2 : (iin t 2) := c2
      obtain ⟨t9, ht9, rfl⟩ := iin_of c2
      have ti_t := nI_toInt (n := t9) (show t9 < 2 ^ 31 by omega)
      have cl_t := nI_clamp (n := t9) (show t9 < 2 ^ 31 by omega)
      refine wn_ic (pc' := 21) (w := nI 0) rfl rfl (by decide) ?_
      refine wn_st (pc' := 22) (q := 3) (kin := 0) (lv' := [(0, .ref (71)), (1, .int (nI (y9))), (2, .int (nI (t9))), (3, .int (nI (0)))]) rfl (fun _ _ _ => rfl) rfl (Nat.le_of_ble_eq_true rfl) rfl ?_
      refine wn_ic (pc' := 23) (w := -1) rfl rfl (by decide) ?_
      refine wn_st (pc' := 25) (q := 4) (kin := 0) (lv' := [(0, .ref (71)), (1, .int (nI (y9))), (2, .int (nI (t9))), (3, .int (nI (0))), (4, .int (-1))]) rfl (fun _ _ _ => rfl) rfl (Nat.le_of_ble_eq_true rfl) rfl ?_
      refine wn_ic (pc' := 26) (w := nI 0) rfl rfl (by decide) ?_
      refine wn_st (pc' := 28) (q := 5) (kin := 0) (lv' := [(0, .ref (71)), (1, .int (nI (y9))), (2, .int (nI (t9))), (3, .int (nI (0))), (4, .int (-1)), (5, .int (nI (0)))]) rfl (fun _ _ _ => rfl) rfl (Nat.le_of_ble_eq_true rfl) rfl ?_
      have lp4 : ∀ (n_lp4 : Nat) (g3 : aH) (i : Nat), (ntW w) + 1 ≤ i + n_lp4 → RQ h g3 w → i ≤ ntW w → Wn (Rn (d + 9)) 217 28 [(0, .ref (71)), (1, .int (nI (y9))), (2, .int (nI (t9))), (3, .int (nI ((nwO (fun x7 x8 => snW w y9 x7 x8 (nvW w)) (ntW w) i).1))), (4, .int ((nwO (fun x7 x8 => snW w y9 x7 x8 (nvW w)) (ntW w) i).2)), (5, .int (nI (i)))] [] (g3) (fun r9 h9 => r9 = some (.int (nowhereA w (nI y9) (nI t9))) ∧ RQ h h9 w) := by
        intro n_lp4
        induction n_lp4 with
        | zero => intro g3 i hm_lp4 RT_g3 hi_; exfalso; omega
        | succ n_lp4 ih_lp4 =>
          intro g3 i hm_lp4 RT_g3 hi_
          obtain ⟨th_g3, tp_g3, sz_g3, at9_g3, fr_g3, tk_g3, vl_g3, fk_g3, fp_g3, il_g3, up_g3, lo_g3, hM_g3, hW_g3⟩ := RT_g3.mh
          have nw1 := nwO_le (p := (fun x7 x8 => snW w y9 x7 x8 (nvW w))) (n := ntW w) i
          have nw2 : ntW w * i ≤ 10 * 10 := Nat.mul_le_mul (by omega) (by omega)
          refine wn_ld (pc' := 30) (q := 5) (kin := 0) (v := .int (nI (i))) rfl (fun _ _ _ => rfl) rfl rfl ?_
          refine wn_ld (pc' := 31) (q := 0) (kin := 2) (v := .ref (71)) rfl (fun _ _ _ => rfl) rfl rfl ?_
          refine wn_get (pc' := 34) (v := .ref (72)) rfl rfl hM_g3 rfl ?_
          refine wn_ic (pc' := 35) (w := nI 3) rfl rfl (by decide) ?_
          refine wn_ialdv (pc' := 36) (j := 3) (v := (nI (ntW w))) rfl rfl hW_g3 rfl (by omega) (by decide) (e5) ?_
          refine wn_icmpN (t := 181) (f := 39) rfl rfl rfl (by omega) (by omega) (fun c5 => ?_) (fun c5 => ?_)
          · have c5 : (ntW w) ≤ i := c5
            obtain rfl : i = ntW w := by omega
            refine wn_ld (pc' := 182) (q := 2) (kin := 0) (v := .int (nI (t9))) rfl (fun _ _ _ => rfl) rfl rfl ?_
            refine wn_ifN (t := 189) (f := 185) rfl rfl rfl (by omega) (fun c6 => ?_) (fun c6 => ?_)
            · have c6 : ¬ t9 = 0 := c6
              refine wn_ld (pc' := 191) (q := 4) (kin := 0) (v := .int ((nwO (fun x7 x8 => snW w y9 x7 x8 (nvW w)) (ntW w) (ntW w)).2)) rfl (fun _ _ _ => rfl) rfl rfl ?_
              try simp only [Int32.lt_iff_toInt_lt, Int32.le_iff_toInt_le, i2l_int, Int32.toInt_zero, iin] at c1
              try simp only [Int32.lt_iff_toInt_lt, Int32.le_iff_toInt_le, i2l_int, Int32.toInt_zero, iin] at c2
              refine wn_iret rfl rfl rfl ⟨congrArg (fun z => some (Value.int z)) ?_, RT_g3⟩
              unfold nowhereA
              rw [qI_t (by simp only [iin]; omega)]
              simp only [cl_y, cl_t]
              exact (if_neg (fun q => c6 ((nI_eq (show t9 < 2 ^ 31 by omega) (show 0 < 2 ^ 31 by decide)).mp (by rw [nI_0]; exact q)))).symm
            · have c6 : t9 = 0 := c6
              refine wn_ld (pc' := 186) (q := 3) (kin := 0) (v := .int (nI ((nwO (fun x7 x8 => snW w y9 x7 x8 (nvW w)) (ntW w) (ntW w)).1))) rfl (fun _ _ _ => rfl) rfl rfl ?_
              refine wn_jp (pc' := 191) rfl rfl ?_
              try simp only [Int32.lt_iff_toInt_lt, Int32.le_iff_toInt_le, i2l_int, Int32.toInt_zero, iin] at c1
              try simp only [Int32.lt_iff_toInt_lt, Int32.le_iff_toInt_le, i2l_int, Int32.toInt_zero, iin] at c2
              refine wn_iret rfl rfl rfl ⟨congrArg (fun z => some (Value.int z)) ?_, RT_g3⟩
              unfold nowhereA
              rw [qI_t (by simp only [iin]; omega)]
              simp only [cl_y, cl_t]
              subst c6
              exact (if_pos (by decide)).symm
          · have c5 : i < (ntW w) := c5
            refine wn_ld (pc' := 41) (q := 5) (kin := 0) (v := .int (nI (i))) rfl (fun _ _ _ => rfl) rfl rfl ?_
            refine wn_ic (pc' := 42) (w := nI 1) rfl rfl (by decide) ?_
            refine wn_addN (pc' := 43) rfl rfl ?_
            refine wn_st (pc' := 45) (q := 6) (kin := 0) (lv' := [(0, .ref (71)), (1, .int (nI (y9))), (2, .int (nI (t9))), (3, .int (nI ((nwO (fun x7 x8 => snW w y9 x7 x8 (nvW w)) (ntW w) i).1))), (4, .int ((nwO (fun x7 x8 => snW w y9 x7 x8 (nvW w)) (ntW w) i).2)), (5, .int (nI (i))), (6, .int (nI (i + 1)))]) rfl (fun _ _ _ => rfl) rfl (Nat.le_of_ble_eq_true rfl) rfl ?_
            have lp8 : ∀ (n_lp8 : Nat) (g7 : aH) (k : Nat), (ntW w) + 1 ≤ (i + 1 + k) + n_lp8 → RQ h g7 w → i + 1 + k ≤ ntW w → Wn (Rn (d + 9)) 217 45 [(0, .ref (71)), (1, .int (nI (y9))), (2, .int (nI (t9))), (3, .int (nI ((nwI (fun x7 x8 => snW w y9 x7 x8 (nvW w)) i (nwO (fun x7 x8 => snW w y9 x7 x8 (nvW w)) (ntW w) i) k).1))), (4, .int ((nwI (fun x7 x8 => snW w y9 x7 x8 (nvW w)) i (nwO (fun x7 x8 => snW w y9 x7 x8 (nvW w)) (ntW w) i) k).2)), (5, .int (nI (i))), (6, .int (nI (i + 1 + k)))] [] (g7) (fun r9 h9 => r9 = some (.int (nowhereA w (nI y9) (nI t9))) ∧ RQ h h9 w) := by
              intro n_lp8
              induction n_lp8 with
              | zero => intro g7 k hm_lp8 RT_g7 hk_; exfalso; omega
              | succ n_lp8 ih_lp8 =>
                intro g7 k hm_lp8 RT_g7 hk_
                obtain ⟨th_g7, tp_g7, sz_g7, at9_g7, fr_g7, tk_g7, vl_g7, fk_g7, fp_g7, il_g7, up_g7, lo_g7, hM_g7, hW_g7⟩ := RT_g7.mh
                have nw3 := nwI_le (p := (fun x7 x8 => snW w y9 x7 x8 (nvW w))) (i := i) (s := nwO (fun x7 x8 => snW w y9 x7 x8 (nvW w)) (ntW w) i) k
                refine wn_ld (pc' := 47) (q := 6) (kin := 0) (v := .int (nI (i + 1 + k))) rfl (fun _ _ _ => rfl) rfl rfl ?_
                refine wn_ld (pc' := 48) (q := 0) (kin := 2) (v := .ref (71)) rfl (fun _ _ _ => rfl) rfl rfl ?_
                refine wn_get (pc' := 51) (v := .ref (72)) rfl rfl hM_g7 rfl ?_
                refine wn_ic (pc' := 52) (w := nI 3) rfl rfl (by decide) ?_
                refine wn_ialdv (pc' := 53) (j := 3) (v := (nI (ntW w))) rfl rfl hW_g7 rfl (by omega) (by decide) (e5) ?_
                refine wn_icmpN (t := 175) (f := 56) rfl rfl rfl (by omega) (by omega) (fun c9 => ?_) (fun c9 => ?_)
                · have c9 : (ntW w) ≤ (i + 1 + k) := c9
                  refine wn_incN (n := 1) (pc' := 178) (lv' := [(0, .ref (71)), (1, .int (nI (y9))), (2, .int (nI (t9))), (3, .int (nI ((nwI (fun x7 x8 => snW w y9 x7 x8 (nvW w)) i (nwO (fun x7 x8 => snW w y9 x7 x8 (nvW w)) (ntW w) i) k).1))), (4, .int ((nwI (fun x7 x8 => snW w y9 x7 x8 (nvW w)) i (nwO (fun x7 x8 => snW w y9 x7 x8 (nvW w)) (ntW w) i) k).2)), (5, .int (nI (i + 1))), (6, .int (nI (i + 1 + k)))]) rfl rfl rfl (Nat.le_of_ble_eq_true rfl) rfl (by decide) ?_
                  refine wn_jp (pc' := 28) rfl rfl ?_
                  refine wn_weak (lv' := [(0, .ref (71)), (1, .int (nI (y9))), (2, .int (nI (t9))), (3, .int (nI ((nwI (fun x7 x8 => snW w y9 x7 x8 (nvW w)) i (nwO (fun x7 x8 => snW w y9 x7 x8 (nvW w)) (ntW w) i) k).1))), (4, .int ((nwI (fun x7 x8 => snW w y9 x7 x8 (nvW w)) i (nwO (fun x7 x8 => snW w y9 x7 x8 (nvW w)) (ntW w) i) k).2)), (5, .int (nI (i + 1)))]) (by simp) ?_
                  have z9 := ih_lp4 g7 (i + 1) (by omega) RT_g7 (by omega)
                  rw [show (nI ((nwO (fun x7 x8 => snW w y9 x7 x8 (nvW w)) (ntW w) (i + 1)).1)) = (nI ((nwI (fun x7 x8 => snW w y9 x7 x8 (nvW w)) i (nwO (fun x7 x8 => snW w y9 x7 x8 (nvW w)) (ntW w) i) k).1)) from (by rw [show k = ntW w - (i + 1) by omega]; rfl)] at z9
                  rw [show ((nwO (fun x7 x8 => snW w y9 x7 x8 (nvW w)) (ntW w) (i + 1)).2) = ((nwI (fun x7 x8 => snW w y9 x7 x8 (nvW w)) i (nwO (fun x7 x8 => snW w y9 x7 x8 (nvW w)) (ntW w) i) k).2) from (by rw [show k = ntW w - (i + 1) by omega]; rfl)] at z9
                  exact z9
                · have c9 : (i + 1 + k) < (ntW w) := c9
                  refine wn_ld (pc' := 57) (q := 0) (kin := 2) (v := .ref (71)) rfl (fun _ _ _ => rfl) rfl rfl ?_
                  refine wn_ld (pc' := 59) (q := 5) (kin := 0) (v := .int (nI (i))) rfl (fun _ _ _ => rfl) rfl rfl ?_
                  refine wn_virI (pc' := 62) rfl rfl (by decide) rfl rfl hM_g7 (Nat.le_of_ble_eq_true rfl) (m_isHeard _ _ w RT_g7.mh i (by omega)) ?_
                  refine wn_ifeqB (t := 74) (f := 65) rfl rfl rfl (fun c10 => ?_) (fun c10 => ?_)
                  · have c10 : ¬ (¬ w (178 + 4 * i) = -1) := c10
                    refine wn_ic (pc' := 75) (w := nI 1) rfl rfl (by decide) ?_
                    refine wn_jp (pc' := 79) rfl rfl ?_
                    refine wn_st (pc' := 81) (q := 7) (kin := 0) (lv' := [(0, .ref (71)), (1, .int (nI (y9))), (2, .int (nI (t9))), (3, .int (nI ((nwI (fun x7 x8 => snW w y9 x7 x8 (nvW w)) i (nwO (fun x7 x8 => snW w y9 x7 x8 (nvW w)) (ntW w) i) k).1))), (4, .int ((nwI (fun x7 x8 => snW w y9 x7 x8 (nvW w)) i (nwO (fun x7 x8 => snW w y9 x7 x8 (nvW w)) (ntW w) i) k).2)), (5, .int (nI (i))), (6, .int (nI (i + 1 + k))), (7, .int (nI (1)))]) rfl (fun _ _ _ => rfl) rfl (Nat.le_of_ble_eq_true rfl) rfl ?_
                    refine wn_ic (pc' := 82) (w := nI 0) rfl rfl (by decide) ?_
                    refine wn_st (pc' := 84) (q := 8) (kin := 0) (lv' := [(0, .ref (71)), (1, .int (nI (y9))), (2, .int (nI (t9))), (3, .int (nI ((nwI (fun x7 x8 => snW w y9 x7 x8 (nvW w)) i (nwO (fun x7 x8 => snW w y9 x7 x8 (nvW w)) (ntW w) i) k).1))), (4, .int ((nwI (fun x7 x8 => snW w y9 x7 x8 (nvW w)) i (nwO (fun x7 x8 => snW w y9 x7 x8 (nvW w)) (ntW w) i) k).2)), (5, .int (nI (i))), (6, .int (nI (i + 1 + k))), (7, .int (nI (1))), (8, .int (nI (0)))]) rfl (fun _ _ _ => rfl) rfl (Nat.le_of_ble_eq_true rfl) rfl ?_
                    have lp12 : ∀ (n_lp12 : Nat) (g11 : aH) (v : Nat), (nvW w) + 1 ≤ v + n_lp12 → RQ h g11 w → v ≤ nvW w → Wn (Rn (d + 9)) 217 84 [(0, .ref (71)), (1, .int (nI (y9))), (2, .int (nI (t9))), (3, .int (nI ((nwI (fun x7 x8 => snW w y9 x7 x8 (nvW w)) i (nwO (fun x7 x8 => snW w y9 x7 x8 (nvW w)) (ntW w) i) k).1))), (4, .int ((nwI (fun x7 x8 => snW w y9 x7 x8 (nvW w)) i (nwO (fun x7 x8 => snW w y9 x7 x8 (nvW w)) (ntW w) i) k).2)), (5, .int (nI (i))), (6, .int (nI (i + 1 + k))), (7, .int (bI (snW w y9 i (i + 1 + k) v))), (8, .int (nI (v)))] [] (g11) (fun r9 h9 => r9 = some (.int (nowhereA w (nI y9) (nI t9))) ∧ RQ h h9 w) := by
                      intro n_lp12
                      induction n_lp12 with
                      | zero => intro g11 v hm_lp12 RT_g11 hv_; exfalso; omega
                      | succ n_lp12 ih_lp12 =>
                        intro g11 v hm_lp12 RT_g11 hv_
                        obtain ⟨th_g11, tp_g11, sz_g11, at9_g11, fr_g11, tk_g11, vl_g11, fk_g11, fp_g11, il_g11, up_g11, lo_g11, hM_g11, hW_g11⟩ := RT_g11.mh
                        refine wn_ld (pc' := 86) (q := 8) (kin := 0) (v := .int (nI (v))) rfl (fun _ _ _ => rfl) rfl rfl ?_
                        refine wn_ld (pc' := 87) (q := 0) (kin := 2) (v := .ref (71)) rfl (fun _ _ _ => rfl) rfl rfl ?_
                        refine wn_get (pc' := 90) (v := .ref (72)) rfl rfl hM_g11 rfl ?_
                        refine wn_ic (pc' := 91) (w := nI 1) rfl rfl (by decide) ?_
                        refine wn_ialdv (pc' := 92) (j := 1) (v := (nI (nvW w))) rfl rfl hW_g11 rfl (by omega) (by decide) (e1) ?_
                        refine wn_icmpN (t := 137) (f := 95) rfl rfl rfl (by omega) (by omega) (fun c13 => ?_) (fun c13 => ?_)
                        · have c13 : (nvW w) ≤ v := c13
                          obtain rfl : v = nvW w := by omega
                          refine wn_ld (pc' := 139) (q := 7) (kin := 0) (v := .int (bI (snW w y9 i (i + 1 + k) (nvW w)))) rfl (fun _ _ _ => rfl) rfl rfl ?_
                          refine wn_ifeqB (t := 145) (f := 142) rfl rfl rfl (fun c14 => ?_) (fun c14 => ?_)
                          · have c14 : ¬ (snW w y9 i (i + 1 + k) (nvW w)) := c14
                            refine wn_incN (n := 1) (pc' := 148) (lv' := [(0, .ref (71)), (1, .int (nI (y9))), (2, .int (nI (t9))), (3, .int (nI ((nwI (fun x7 x8 => snW w y9 x7 x8 (nvW w)) i (nwO (fun x7 x8 => snW w y9 x7 x8 (nvW w)) (ntW w) i) k).1 + 1))), (4, .int ((nwI (fun x7 x8 => snW w y9 x7 x8 (nvW w)) i (nwO (fun x7 x8 => snW w y9 x7 x8 (nvW w)) (ntW w) i) k).2)), (5, .int (nI (i))), (6, .int (nI (i + 1 + k))), (7, .int (bI (snW w y9 i (i + 1 + k) (nvW w)))), (8, .int (nI ((nvW w))))]) rfl rfl rfl (Nat.le_of_ble_eq_true rfl) rfl (by decide) ?_
                            refine wn_ld (pc' := 150) (q := 4) (kin := 0) (v := .int ((nwI (fun x7 x8 => snW w y9 x7 x8 (nvW w)) i (nwO (fun x7 x8 => snW w y9 x7 x8 (nvW w)) (ntW w) i) k).2)) rfl (fun _ _ _ => rfl) rfl rfl ?_
                            refine wn_ic (pc' := 151) (w := -1) rfl rfl (by decide) ?_
                            refine wn_icmp (t := 165) (f := 154) rfl rfl rfl (fun c15 => ?_) (fun c15 => ?_)
                            · have c15 : ¬ (((nwI (fun x7 x8 => snW w y9 x7 x8 (nvW w)) i (nwO (fun x7 x8 => snW w y9 x7 x8 (nvW w)) (ntW w) i) k).2)) = ((-1)) := c15
                              refine wn_ld (pc' := 167) (q := 4) (kin := 0) (v := .int ((nwI (fun x7 x8 => snW w y9 x7 x8 (nvW w)) i (nwO (fun x7 x8 => snW w y9 x7 x8 (nvW w)) (ntW w) i) k).2)) rfl (fun _ _ _ => rfl) rfl rfl ?_
                              refine wn_st (pc' := 169) (q := 4) (kin := 0) (lv' := [(0, .ref (71)), (1, .int (nI (y9))), (2, .int (nI (t9))), (3, .int (nI ((nwI (fun x7 x8 => snW w y9 x7 x8 (nvW w)) i (nwO (fun x7 x8 => snW w y9 x7 x8 (nvW w)) (ntW w) i) k).1 + 1))), (4, .int ((nwI (fun x7 x8 => snW w y9 x7 x8 (nvW w)) i (nwO (fun x7 x8 => snW w y9 x7 x8 (nvW w)) (ntW w) i) k).2)), (5, .int (nI (i))), (6, .int (nI (i + 1 + k))), (7, .int (bI (snW w y9 i (i + 1 + k) (nvW w)))), (8, .int (nI ((nvW w))))]) rfl (fun _ _ _ => rfl) rfl (Nat.le_of_ble_eq_true rfl) rfl ?_
                              refine wn_incN (n := 1) (pc' := 172) (lv' := [(0, .ref (71)), (1, .int (nI (y9))), (2, .int (nI (t9))), (3, .int (nI ((nwI (fun x7 x8 => snW w y9 x7 x8 (nvW w)) i (nwO (fun x7 x8 => snW w y9 x7 x8 (nvW w)) (ntW w) i) k).1 + 1))), (4, .int ((nwI (fun x7 x8 => snW w y9 x7 x8 (nvW w)) i (nwO (fun x7 x8 => snW w y9 x7 x8 (nvW w)) (ntW w) i) k).2)), (5, .int (nI (i))), (6, .int (nI (i + 1 + k + 1))), (7, .int (bI (snW w y9 i (i + 1 + k) (nvW w)))), (8, .int (nI ((nvW w))))]) rfl rfl rfl (Nat.le_of_ble_eq_true rfl) rfl (by decide) ?_
                              refine wn_jp (pc' := 45) rfl rfl ?_
                              refine wn_weak (lv' := [(0, .ref (71)), (1, .int (nI (y9))), (2, .int (nI (t9))), (3, .int (nI ((nwI (fun x7 x8 => snW w y9 x7 x8 (nvW w)) i (nwO (fun x7 x8 => snW w y9 x7 x8 (nvW w)) (ntW w) i) k).1 + 1))), (4, .int ((nwI (fun x7 x8 => snW w y9 x7 x8 (nvW w)) i (nwO (fun x7 x8 => snW w y9 x7 x8 (nvW w)) (ntW w) i) k).2)), (5, .int (nI (i))), (6, .int (nI (i + 1 + k + 1)))]) (by simp) ?_
                              have z9 := ih_lp8 g11 (k + 1) (by omega) RT_g11 (by omega)
                              rw [show (nI ((nwI (fun x7 x8 => snW w y9 x7 x8 (nvW w)) i (nwO (fun x7 x8 => snW w y9 x7 x8 (nvW w)) (ntW w) i) (k + 1)).1)) = (nI ((nwI (fun x7 x8 => snW w y9 x7 x8 (nvW w)) i (nwO (fun x7 x8 => snW w y9 x7 x8 (nvW w)) (ntW w) i) k).1 + 1)) from (by exact (congrArg (fun q => nI q.1) (nwI_b (p := (fun x7 x8 => snW w y9 x7 x8 (nvW w))) c14 c15)).trans rfl)] at z9
                              rw [show ((nwI (fun x7 x8 => snW w y9 x7 x8 (nvW w)) i (nwO (fun x7 x8 => snW w y9 x7 x8 (nvW w)) (ntW w) i) (k + 1)).2) = ((nwI (fun x7 x8 => snW w y9 x7 x8 (nvW w)) i (nwO (fun x7 x8 => snW w y9 x7 x8 (nvW w)) (ntW w) i) k).2) from (by exact (congrArg Prod.snd (nwI_b (p := (fun x7 x8 => snW w y9 x7 x8 (nvW w))) c14 c15)).trans rfl)] at z9
                              rw [show (nI (i + 1 + (k + 1))) = (nI (i + 1 + k + 1)) from (by rfl)] at z9
                              exact z9
                            · have c15 : (((nwI (fun x7 x8 => snW w y9 x7 x8 (nvW w)) i (nwO (fun x7 x8 => snW w y9 x7 x8 (nvW w)) (ntW w) i) k).2)) = ((-1)) := c15
                              refine wn_bp (pc' := 156) (w := nI 100) rfl rfl (by decide) ?_
                              refine wn_ld (pc' := 158) (q := 5) (kin := 0) (v := .int (nI (i))) rfl (fun _ _ _ => rfl) rfl rfl ?_
                              refine wn_mulN (pc' := 159) rfl rfl ?_
                              refine wn_ld (pc' := 161) (q := 6) (kin := 0) (v := .int (nI (i + 1 + k))) rfl (fun _ _ _ => rfl) rfl rfl ?_
                              refine wn_addN (pc' := 162) rfl rfl ?_
                              refine wn_jp (pc' := 167) rfl rfl ?_
                              refine wn_st (pc' := 169) (q := 4) (kin := 0) (lv' := [(0, .ref (71)), (1, .int (nI (y9))), (2, .int (nI (t9))), (3, .int (nI ((nwI (fun x7 x8 => snW w y9 x7 x8 (nvW w)) i (nwO (fun x7 x8 => snW w y9 x7 x8 (nvW w)) (ntW w) i) k).1 + 1))), (4, .int (nI ((100 * i) + (i + 1 + k)))), (5, .int (nI (i))), (6, .int (nI (i + 1 + k))), (7, .int (bI (snW w y9 i (i + 1 + k) (nvW w)))), (8, .int (nI ((nvW w))))]) rfl (fun _ _ _ => rfl) rfl (Nat.le_of_ble_eq_true rfl) rfl ?_
                              refine wn_incN (n := 1) (pc' := 172) (lv' := [(0, .ref (71)), (1, .int (nI (y9))), (2, .int (nI (t9))), (3, .int (nI ((nwI (fun x7 x8 => snW w y9 x7 x8 (nvW w)) i (nwO (fun x7 x8 => snW w y9 x7 x8 (nvW w)) (ntW w) i) k).1 + 1))), (4, .int (nI ((100 * i) + (i + 1 + k)))), (5, .int (nI (i))), (6, .int (nI (i + 1 + k + 1))), (7, .int (bI (snW w y9 i (i + 1 + k) (nvW w)))), (8, .int (nI ((nvW w))))]) rfl rfl rfl (Nat.le_of_ble_eq_true rfl) rfl (by decide) ?_
                              refine wn_jp (pc' := 45) rfl rfl ?_
                              refine wn_weak (lv' := [(0, .ref (71)), (1, .int (nI (y9))), (2, .int (nI (t9))), (3, .int (nI ((nwI (fun x7 x8 => snW w y9 x7 x8 (nvW w)) i (nwO (fun x7 x8 => snW w y9 x7 x8 (nvW w)) (ntW w) i) k).1 + 1))), (4, .int (nI ((100 * i) + (i + 1 + k)))), (5, .int (nI (i))), (6, .int (nI (i + 1 + k + 1)))]) (by simp) ?_
                              have z9 := ih_lp8 g11 (k + 1) (by omega) RT_g11 (by omega)
                              rw [show (nI ((nwI (fun x7 x8 => snW w y9 x7 x8 (nvW w)) i (nwO (fun x7 x8 => snW w y9 x7 x8 (nvW w)) (ntW w) i) (k + 1)).1)) = (nI ((nwI (fun x7 x8 => snW w y9 x7 x8 (nvW w)) i (nwO (fun x7 x8 => snW w y9 x7 x8 (nvW w)) (ntW w) i) k).1 + 1)) from (by exact (congrArg (fun q => nI q.1) (nwI_a (p := (fun x7 x8 => snW w y9 x7 x8 (nvW w))) c14 c15)).trans rfl)] at z9
                              rw [show ((nwI (fun x7 x8 => snW w y9 x7 x8 (nvW w)) i (nwO (fun x7 x8 => snW w y9 x7 x8 (nvW w)) (ntW w) i) (k + 1)).2) = (nI ((100 * i) + (i + 1 + k))) from (by exact (congrArg Prod.snd (nwI_a (p := (fun x7 x8 => snW w y9 x7 x8 (nvW w))) c14 c15)).trans rfl)] at z9
                              rw [show (nI (i + 1 + (k + 1))) = (nI (i + 1 + k + 1)) from (by rfl)] at z9
                              exact z9
                          · have c14 : (snW w y9 i (i + 1 + k) (nvW w)) := c14
                            refine wn_jp (pc' := 169) rfl rfl ?_
                            refine wn_incN (n := 1) (pc' := 172) (lv' := [(0, .ref (71)), (1, .int (nI (y9))), (2, .int (nI (t9))), (3, .int (nI ((nwI (fun x7 x8 => snW w y9 x7 x8 (nvW w)) i (nwO (fun x7 x8 => snW w y9 x7 x8 (nvW w)) (ntW w) i) k).1))), (4, .int ((nwI (fun x7 x8 => snW w y9 x7 x8 (nvW w)) i (nwO (fun x7 x8 => snW w y9 x7 x8 (nvW w)) (ntW w) i) k).2)), (5, .int (nI (i))), (6, .int (nI (i + 1 + k + 1))), (7, .int (bI (snW w y9 i (i + 1 + k) (nvW w)))), (8, .int (nI ((nvW w))))]) rfl rfl rfl (Nat.le_of_ble_eq_true rfl) rfl (by decide) ?_
                            refine wn_jp (pc' := 45) rfl rfl ?_
                            refine wn_weak (lv' := [(0, .ref (71)), (1, .int (nI (y9))), (2, .int (nI (t9))), (3, .int (nI ((nwI (fun x7 x8 => snW w y9 x7 x8 (nvW w)) i (nwO (fun x7 x8 => snW w y9 x7 x8 (nvW w)) (ntW w) i) k).1))), (4, .int ((nwI (fun x7 x8 => snW w y9 x7 x8 (nvW w)) i (nwO (fun x7 x8 => snW w y9 x7 x8 (nvW w)) (ntW w) i) k).2)), (5, .int (nI (i))), (6, .int (nI (i + 1 + k + 1)))]) (by simp) ?_
                            have z9 := ih_lp8 g11 (k + 1) (by omega) RT_g11 (by omega)
                            rw [show (nI ((nwI (fun x7 x8 => snW w y9 x7 x8 (nvW w)) i (nwO (fun x7 x8 => snW w y9 x7 x8 (nvW w)) (ntW w) i) (k + 1)).1)) = (nI ((nwI (fun x7 x8 => snW w y9 x7 x8 (nvW w)) i (nwO (fun x7 x8 => snW w y9 x7 x8 (nvW w)) (ntW w) i) k).1)) from (by exact (congrArg (fun q => nI q.1) (nwI_f (p := (fun x7 x8 => snW w y9 x7 x8 (nvW w))) c14)).trans rfl)] at z9
                            rw [show ((nwI (fun x7 x8 => snW w y9 x7 x8 (nvW w)) i (nwO (fun x7 x8 => snW w y9 x7 x8 (nvW w)) (ntW w) i) (k + 1)).2) = ((nwI (fun x7 x8 => snW w y9 x7 x8 (nvW w)) i (nwO (fun x7 x8 => snW w y9 x7 x8 (nvW w)) (ntW w) i) k).2) from (by exact (congrArg Prod.snd (nwI_f (p := (fun x7 x8 => snW w y9 x7 x8 (nvW w))) c14)).trans rfl)] at z9
                            rw [show (nI (i + 1 + (k + 1))) = (nI (i + 1 + k + 1)) from (by rfl)] at z9
                            exact z9
                        · have c13 : v < (nvW w) := c13
                          refine wn_ld (pc' := 97) (q := 7) (kin := 0) (v := .int (bI (snW w y9 i (i + 1 + k) v))) rfl (fun _ _ _ => rfl) rfl rfl ?_
                          refine wn_ifneB (t := 137) (f := 100) rfl rfl rfl (fun c16 => ?_) (fun c16 => ?_)
                          · have c16 : (snW w y9 i (i + 1 + k) v) := c16
                            refine wn_ld (pc' := 139) (q := 7) (kin := 0) (v := .int (bI (snW w y9 i (i + 1 + k) v))) rfl (fun _ _ _ => rfl) rfl rfl ?_
                            refine wn_ifeqB (t := 145) (f := 142) rfl rfl rfl (fun c17 => ?_) (fun c17 => ?_)
                            · have c17 : ¬ (snW w y9 i (i + 1 + k) v) := c17
                              exact absurd c16 c17
                            · have c17 : (snW w y9 i (i + 1 + k) v) := c17
                              refine wn_jp (pc' := 169) rfl rfl ?_
                              refine wn_incN (n := 1) (pc' := 172) (lv' := [(0, .ref (71)), (1, .int (nI (y9))), (2, .int (nI (t9))), (3, .int (nI ((nwI (fun x7 x8 => snW w y9 x7 x8 (nvW w)) i (nwO (fun x7 x8 => snW w y9 x7 x8 (nvW w)) (ntW w) i) k).1))), (4, .int ((nwI (fun x7 x8 => snW w y9 x7 x8 (nvW w)) i (nwO (fun x7 x8 => snW w y9 x7 x8 (nvW w)) (ntW w) i) k).2)), (5, .int (nI (i))), (6, .int (nI (i + 1 + k + 1))), (7, .int (bI (snW w y9 i (i + 1 + k) v))), (8, .int (nI (v)))]) rfl rfl rfl (Nat.le_of_ble_eq_true rfl) rfl (by decide) ?_
                              refine wn_jp (pc' := 45) rfl rfl ?_
                              refine wn_weak (lv' := [(0, .ref (71)), (1, .int (nI (y9))), (2, .int (nI (t9))), (3, .int (nI ((nwI (fun x7 x8 => snW w y9 x7 x8 (nvW w)) i (nwO (fun x7 x8 => snW w y9 x7 x8 (nvW w)) (ntW w) i) k).1))), (4, .int ((nwI (fun x7 x8 => snW w y9 x7 x8 (nvW w)) i (nwO (fun x7 x8 => snW w y9 x7 x8 (nvW w)) (ntW w) i) k).2)), (5, .int (nI (i))), (6, .int (nI (i + 1 + k + 1)))]) (by simp) ?_
                              have z9 := ih_lp8 g11 (k + 1) (by omega) RT_g11 (by omega)
                              rw [show (nI ((nwI (fun x7 x8 => snW w y9 x7 x8 (nvW w)) i (nwO (fun x7 x8 => snW w y9 x7 x8 (nvW w)) (ntW w) i) (k + 1)).1)) = (nI ((nwI (fun x7 x8 => snW w y9 x7 x8 (nvW w)) i (nwO (fun x7 x8 => snW w y9 x7 x8 (nvW w)) (ntW w) i) k).1)) from (by exact (congrArg (fun q => nI q.1) (nwI_f (p := (fun x7 x8 => snW w y9 x7 x8 (nvW w))) (snW_m c16 (by omega)))).trans rfl)] at z9
                              rw [show ((nwI (fun x7 x8 => snW w y9 x7 x8 (nvW w)) i (nwO (fun x7 x8 => snW w y9 x7 x8 (nvW w)) (ntW w) i) (k + 1)).2) = ((nwI (fun x7 x8 => snW w y9 x7 x8 (nvW w)) i (nwO (fun x7 x8 => snW w y9 x7 x8 (nvW w)) (ntW w) i) k).2) from (by exact (congrArg Prod.snd (nwI_f (p := (fun x7 x8 => snW w y9 x7 x8 (nvW w))) (snW_m c16 (by omega)))).trans rfl)] at z9
                              rw [show (nI (i + 1 + (k + 1))) = (nI (i + 1 + k + 1)) from (by rfl)] at z9
                              exact z9
                          · have c16 : ¬ (snW w y9 i (i + 1 + k) v) := c16
                            refine wn_ld (pc' := 101) (q := 0) (kin := 2) (v := .ref (71)) rfl (fun _ _ _ => rfl) rfl rfl ?_
                            refine wn_ld (pc' := 103) (q := 8) (kin := 0) (v := .int (nI (v))) rfl (fun _ _ _ => rfl) rfl rfl ?_
                            refine wn_ld (pc' := 105) (q := 5) (kin := 0) (v := .int (nI (i))) rfl (fun _ _ _ => rfl) rfl rfl ?_
                            refine wn_ld (pc' := 106) (q := 1) (kin := 0) (v := .int (nI (y9))) rfl (fun _ _ _ => rfl) rfl rfl ?_
                            refine wn_virS (pc' := 109) rfl rfl (by decide) rfl rfl hM_g11 (Nat.le_of_ble_eq_true rfl) (m_fitsOne _ _ w hWf RT_g11.2.2.2 v i y9 (by omega) (by omega) (by omega)) (fun r9 h18 e19 => ?_)
                            obtain ⟨rfl, RQ_h18⟩ := e19
                            have RT_h18 := RQ.tr RT_g11 RQ_h18
                            obtain ⟨th_h18, tp_h18, sz_h18, at9_h18, fr_h18, tk_h18, vl_h18, fk_h18, fp_h18, il_h18, up_h18, lo_h18, hM_h18, hW_h18⟩ := RQ_h18.mh
                            show Wn _ _ 109 _ [.int (bI (fitW w y9 v i))] h18 _
                            refine wn_ifeqB (t := 128) (f := 112) rfl rfl rfl (fun c20 => ?_) (fun c20 => ?_)
                            · have c20 : ¬ (fitW w y9 v i) := c20
                              refine wn_ic (pc' := 129) (w := nI 0) rfl rfl (by decide) ?_
                              refine wn_st (pc' := 131) (q := 7) (kin := 0) (lv' := [(0, .ref (71)), (1, .int (nI (y9))), (2, .int (nI (t9))), (3, .int (nI ((nwI (fun x7 x8 => snW w y9 x7 x8 (nvW w)) i (nwO (fun x7 x8 => snW w y9 x7 x8 (nvW w)) (ntW w) i) k).1))), (4, .int ((nwI (fun x7 x8 => snW w y9 x7 x8 (nvW w)) i (nwO (fun x7 x8 => snW w y9 x7 x8 (nvW w)) (ntW w) i) k).2)), (5, .int (nI (i))), (6, .int (nI (i + 1 + k))), (7, .int (nI (0))), (8, .int (nI (v)))]) rfl (fun _ _ _ => rfl) rfl (Nat.le_of_ble_eq_true rfl) rfl ?_
                              refine wn_incN (n := 1) (pc' := 134) (lv' := [(0, .ref (71)), (1, .int (nI (y9))), (2, .int (nI (t9))), (3, .int (nI ((nwI (fun x7 x8 => snW w y9 x7 x8 (nvW w)) i (nwO (fun x7 x8 => snW w y9 x7 x8 (nvW w)) (ntW w) i) k).1))), (4, .int ((nwI (fun x7 x8 => snW w y9 x7 x8 (nvW w)) i (nwO (fun x7 x8 => snW w y9 x7 x8 (nvW w)) (ntW w) i) k).2)), (5, .int (nI (i))), (6, .int (nI (i + 1 + k))), (7, .int (nI (0))), (8, .int (nI (v + 1)))]) rfl rfl rfl (Nat.le_of_ble_eq_true rfl) rfl (by decide) ?_
                              refine wn_jp (pc' := 84) rfl rfl ?_
                              refine wn_weak (lv' := [(0, .ref (71)), (1, .int (nI (y9))), (2, .int (nI (t9))), (3, .int (nI ((nwI (fun x7 x8 => snW w y9 x7 x8 (nvW w)) i (nwO (fun x7 x8 => snW w y9 x7 x8 (nvW w)) (ntW w) i) k).1))), (4, .int ((nwI (fun x7 x8 => snW w y9 x7 x8 (nvW w)) i (nwO (fun x7 x8 => snW w y9 x7 x8 (nvW w)) (ntW w) i) k).2)), (5, .int (nI (i))), (6, .int (nI (i + 1 + k))), (7, .int (nI (0))), (8, .int (nI (v + 1)))]) (by simp) ?_
                              have z9 := ih_lp12 h18 (v + 1) (by omega) RT_h18 (by omega)
                              rw [show (bI (snW w y9 i (i + 1 + k) (v + 1))) = (nI (0)) from (by exact (bI_f0 (fun q => (snW_s.mp q).elim c16 (fun q => c20 q.1))).symm)] at z9
                              exact z9
                            · have c20 : (fitW w y9 v i) := c20
                              refine wn_ld (pc' := 113) (q := 0) (kin := 2) (v := .ref (71)) rfl (fun _ _ _ => rfl) rfl rfl ?_
                              refine wn_ld (pc' := 115) (q := 8) (kin := 0) (v := .int (nI (v))) rfl (fun _ _ _ => rfl) rfl rfl ?_
                              refine wn_ld (pc' := 117) (q := 6) (kin := 0) (v := .int (nI (i + 1 + k))) rfl (fun _ _ _ => rfl) rfl rfl ?_
                              refine wn_ld (pc' := 118) (q := 1) (kin := 0) (v := .int (nI (y9))) rfl (fun _ _ _ => rfl) rfl rfl ?_
                              refine wn_virS (pc' := 121) rfl rfl (by decide) rfl rfl hM_h18 (Nat.le_of_ble_eq_true rfl) (m_fitsOne _ _ w hWf RQ_h18.2.2.2 v (i + 1 + k) y9 (by omega) (by omega) (by omega)) (fun r9 h21 e22 => ?_)
                              obtain ⟨rfl, RQ_h21⟩ := e22
                              have RT_h21 := RQ.tr RT_h18 RQ_h21
                              obtain ⟨th_h21, tp_h21, sz_h21, at9_h21, fr_h21, tk_h21, vl_h21, fk_h21, fp_h21, il_h21, up_h21, lo_h21, hM_h21, hW_h21⟩ := RQ_h21.mh
                              show Wn _ _ 121 _ [.int (bI (fitW w y9 v (i + 1 + k)))] h21 _
                              refine wn_ifeqB (t := 128) (f := 124) rfl rfl rfl (fun c23 => ?_) (fun c23 => ?_)
                              · have c23 : ¬ (fitW w y9 v (i + 1 + k)) := c23
                                refine wn_ic (pc' := 129) (w := nI 0) rfl rfl (by decide) ?_
                                refine wn_st (pc' := 131) (q := 7) (kin := 0) (lv' := [(0, .ref (71)), (1, .int (nI (y9))), (2, .int (nI (t9))), (3, .int (nI ((nwI (fun x7 x8 => snW w y9 x7 x8 (nvW w)) i (nwO (fun x7 x8 => snW w y9 x7 x8 (nvW w)) (ntW w) i) k).1))), (4, .int ((nwI (fun x7 x8 => snW w y9 x7 x8 (nvW w)) i (nwO (fun x7 x8 => snW w y9 x7 x8 (nvW w)) (ntW w) i) k).2)), (5, .int (nI (i))), (6, .int (nI (i + 1 + k))), (7, .int (nI (0))), (8, .int (nI (v)))]) rfl (fun _ _ _ => rfl) rfl (Nat.le_of_ble_eq_true rfl) rfl ?_
                                refine wn_incN (n := 1) (pc' := 134) (lv' := [(0, .ref (71)), (1, .int (nI (y9))), (2, .int (nI (t9))), (3, .int (nI ((nwI (fun x7 x8 => snW w y9 x7 x8 (nvW w)) i (nwO (fun x7 x8 => snW w y9 x7 x8 (nvW w)) (ntW w) i) k).1))), (4, .int ((nwI (fun x7 x8 => snW w y9 x7 x8 (nvW w)) i (nwO (fun x7 x8 => snW w y9 x7 x8 (nvW w)) (ntW w) i) k).2)), (5, .int (nI (i))), (6, .int (nI (i + 1 + k))), (7, .int (nI (0))), (8, .int (nI (v + 1)))]) rfl rfl rfl (Nat.le_of_ble_eq_true rfl) rfl (by decide) ?_
                                refine wn_jp (pc' := 84) rfl rfl ?_
                                refine wn_weak (lv' := [(0, .ref (71)), (1, .int (nI (y9))), (2, .int (nI (t9))), (3, .int (nI ((nwI (fun x7 x8 => snW w y9 x7 x8 (nvW w)) i (nwO (fun x7 x8 => snW w y9 x7 x8 (nvW w)) (ntW w) i) k).1))), (4, .int ((nwI (fun x7 x8 => snW w y9 x7 x8 (nvW w)) i (nwO (fun x7 x8 => snW w y9 x7 x8 (nvW w)) (ntW w) i) k).2)), (5, .int (nI (i))), (6, .int (nI (i + 1 + k))), (7, .int (nI (0))), (8, .int (nI (v + 1)))]) (by simp) ?_
                                have z9 := ih_lp12 h21 (v + 1) (by omega) RT_h21 (by omega)
                                rw [show (bI (snW w y9 i (i + 1 + k) (v + 1))) = (nI (0)) from (by exact (bI_f0 (fun q => (snW_s.mp q).elim c16 (fun q => c23 q.2))).symm)] at z9
                                exact z9
                              · have c23 : (fitW w y9 v (i + 1 + k)) := c23
                                refine wn_ic (pc' := 125) (w := nI 1) rfl rfl (by decide) ?_
                                refine wn_jp (pc' := 129) rfl rfl ?_
                                refine wn_st (pc' := 131) (q := 7) (kin := 0) (lv' := [(0, .ref (71)), (1, .int (nI (y9))), (2, .int (nI (t9))), (3, .int (nI ((nwI (fun x7 x8 => snW w y9 x7 x8 (nvW w)) i (nwO (fun x7 x8 => snW w y9 x7 x8 (nvW w)) (ntW w) i) k).1))), (4, .int ((nwI (fun x7 x8 => snW w y9 x7 x8 (nvW w)) i (nwO (fun x7 x8 => snW w y9 x7 x8 (nvW w)) (ntW w) i) k).2)), (5, .int (nI (i))), (6, .int (nI (i + 1 + k))), (7, .int (nI (1))), (8, .int (nI (v)))]) rfl (fun _ _ _ => rfl) rfl (Nat.le_of_ble_eq_true rfl) rfl ?_
                                refine wn_incN (n := 1) (pc' := 134) (lv' := [(0, .ref (71)), (1, .int (nI (y9))), (2, .int (nI (t9))), (3, .int (nI ((nwI (fun x7 x8 => snW w y9 x7 x8 (nvW w)) i (nwO (fun x7 x8 => snW w y9 x7 x8 (nvW w)) (ntW w) i) k).1))), (4, .int ((nwI (fun x7 x8 => snW w y9 x7 x8 (nvW w)) i (nwO (fun x7 x8 => snW w y9 x7 x8 (nvW w)) (ntW w) i) k).2)), (5, .int (nI (i))), (6, .int (nI (i + 1 + k))), (7, .int (nI (1))), (8, .int (nI (v + 1)))]) rfl rfl rfl (Nat.le_of_ble_eq_true rfl) rfl (by decide) ?_
                                refine wn_jp (pc' := 84) rfl rfl ?_
                                refine wn_weak (lv' := [(0, .ref (71)), (1, .int (nI (y9))), (2, .int (nI (t9))), (3, .int (nI ((nwI (fun x7 x8 => snW w y9 x7 x8 (nvW w)) i (nwO (fun x7 x8 => snW w y9 x7 x8 (nvW w)) (ntW w) i) k).1))), (4, .int ((nwI (fun x7 x8 => snW w y9 x7 x8 (nvW w)) i (nwO (fun x7 x8 => snW w y9 x7 x8 (nvW w)) (ntW w) i) k).2)), (5, .int (nI (i))), (6, .int (nI (i + 1 + k))), (7, .int (nI (1))), (8, .int (nI (v + 1)))]) (by simp) ?_
                                have z9 := ih_lp12 h21 (v + 1) (by omega) RT_h21 (by omega)
                                rw [show (bI (snW w y9 i (i + 1 + k) (v + 1))) = (nI (1)) from (by exact (bI_t1 (snW_s.mpr (Or.inr ⟨c20, c23⟩))).symm)] at z9
                                exact z9
                    refine wn_weak (lv' := [(0, .ref (71)), (1, .int (nI (y9))), (2, .int (nI (t9))), (3, .int (nI ((nwI (fun x7 x8 => snW w y9 x7 x8 (nvW w)) i (nwO (fun x7 x8 => snW w y9 x7 x8 (nvW w)) (ntW w) i) k).1))), (4, .int ((nwI (fun x7 x8 => snW w y9 x7 x8 (nvW w)) i (nwO (fun x7 x8 => snW w y9 x7 x8 (nvW w)) (ntW w) i) k).2)), (5, .int (nI (i))), (6, .int (nI (i + 1 + k))), (7, .int (nI (1))), (8, .int (nI (0)))]) (by simp) ?_
                    have z9 := lp12 ((nvW w) + 1) g7 0 (by omega) RT_g7 (by omega)
                    rw [show (bI (snW w y9 i (i + 1 + k) 0)) = (nI (1)) from (by exact (bI_t1 (Or.inl (Or.inl (Classical.not_not.mp c10)))).symm)] at z9
                    exact z9
                  · have c10 : (¬ w (178 + 4 * i) = -1) := c10
                    refine wn_ld (pc' := 66) (q := 0) (kin := 2) (v := .ref (71)) rfl (fun _ _ _ => rfl) rfl rfl ?_
                    refine wn_ld (pc' := 68) (q := 6) (kin := 0) (v := .int (nI (i + 1 + k))) rfl (fun _ _ _ => rfl) rfl rfl ?_
                    refine wn_virI (pc' := 71) rfl rfl (by decide) rfl rfl hM_g7 (Nat.le_of_ble_eq_true rfl) (m_isHeard _ _ w RT_g7.mh (i + 1 + k) (by omega)) ?_
                    refine wn_ifneB (t := 78) (f := 74) rfl rfl rfl (fun c24 => ?_) (fun c24 => ?_)
                    · have c24 : (¬ w (178 + 4 * (i + 1 + k)) = -1) := c24
                      refine wn_ic (pc' := 79) (w := nI 0) rfl rfl (by decide) ?_
                      refine wn_st (pc' := 81) (q := 7) (kin := 0) (lv' := [(0, .ref (71)), (1, .int (nI (y9))), (2, .int (nI (t9))), (3, .int (nI ((nwI (fun x7 x8 => snW w y9 x7 x8 (nvW w)) i (nwO (fun x7 x8 => snW w y9 x7 x8 (nvW w)) (ntW w) i) k).1))), (4, .int ((nwI (fun x7 x8 => snW w y9 x7 x8 (nvW w)) i (nwO (fun x7 x8 => snW w y9 x7 x8 (nvW w)) (ntW w) i) k).2)), (5, .int (nI (i))), (6, .int (nI (i + 1 + k))), (7, .int (nI (0)))]) rfl (fun _ _ _ => rfl) rfl (Nat.le_of_ble_eq_true rfl) rfl ?_
                      refine wn_ic (pc' := 82) (w := nI 0) rfl rfl (by decide) ?_
                      refine wn_st (pc' := 84) (q := 8) (kin := 0) (lv' := [(0, .ref (71)), (1, .int (nI (y9))), (2, .int (nI (t9))), (3, .int (nI ((nwI (fun x7 x8 => snW w y9 x7 x8 (nvW w)) i (nwO (fun x7 x8 => snW w y9 x7 x8 (nvW w)) (ntW w) i) k).1))), (4, .int ((nwI (fun x7 x8 => snW w y9 x7 x8 (nvW w)) i (nwO (fun x7 x8 => snW w y9 x7 x8 (nvW w)) (ntW w) i) k).2)), (5, .int (nI (i))), (6, .int (nI (i + 1 + k))), (7, .int (nI (0))), (8, .int (nI (0)))]) rfl (fun _ _ _ => rfl) rfl (Nat.le_of_ble_eq_true rfl) rfl ?_
                      have lp26 : ∀ (n_lp26 : Nat) (g25 : aH) (v : Nat), (nvW w) + 1 ≤ v + n_lp26 → RQ h g25 w → v ≤ nvW w → Wn (Rn (d + 9)) 217 84 [(0, .ref (71)), (1, .int (nI (y9))), (2, .int (nI (t9))), (3, .int (nI ((nwI (fun x7 x8 => snW w y9 x7 x8 (nvW w)) i (nwO (fun x7 x8 => snW w y9 x7 x8 (nvW w)) (ntW w) i) k).1))), (4, .int ((nwI (fun x7 x8 => snW w y9 x7 x8 (nvW w)) i (nwO (fun x7 x8 => snW w y9 x7 x8 (nvW w)) (ntW w) i) k).2)), (5, .int (nI (i))), (6, .int (nI (i + 1 + k))), (7, .int (bI (snW w y9 i (i + 1 + k) v))), (8, .int (nI (v)))] [] (g25) (fun r9 h9 => r9 = some (.int (nowhereA w (nI y9) (nI t9))) ∧ RQ h h9 w) := by
                        intro n_lp26
                        induction n_lp26 with
                        | zero => intro g25 v hm_lp26 RT_g25 hv_; exfalso; omega
                        | succ n_lp26 ih_lp26 =>
                          intro g25 v hm_lp26 RT_g25 hv_
                          obtain ⟨th_g25, tp_g25, sz_g25, at9_g25, fr_g25, tk_g25, vl_g25, fk_g25, fp_g25, il_g25, up_g25, lo_g25, hM_g25, hW_g25⟩ := RT_g25.mh
                          refine wn_ld (pc' := 86) (q := 8) (kin := 0) (v := .int (nI (v))) rfl (fun _ _ _ => rfl) rfl rfl ?_
                          refine wn_ld (pc' := 87) (q := 0) (kin := 2) (v := .ref (71)) rfl (fun _ _ _ => rfl) rfl rfl ?_
                          refine wn_get (pc' := 90) (v := .ref (72)) rfl rfl hM_g25 rfl ?_
                          refine wn_ic (pc' := 91) (w := nI 1) rfl rfl (by decide) ?_
                          refine wn_ialdv (pc' := 92) (j := 1) (v := (nI (nvW w))) rfl rfl hW_g25 rfl (by omega) (by decide) (e1) ?_
                          refine wn_icmpN (t := 137) (f := 95) rfl rfl rfl (by omega) (by omega) (fun c27 => ?_) (fun c27 => ?_)
                          · have c27 : (nvW w) ≤ v := c27
                            obtain rfl : v = nvW w := by omega
                            refine wn_ld (pc' := 139) (q := 7) (kin := 0) (v := .int (bI (snW w y9 i (i + 1 + k) (nvW w)))) rfl (fun _ _ _ => rfl) rfl rfl ?_
                            refine wn_ifeqB (t := 145) (f := 142) rfl rfl rfl (fun c28 => ?_) (fun c28 => ?_)
                            · have c28 : ¬ (snW w y9 i (i + 1 + k) (nvW w)) := c28
                              refine wn_incN (n := 1) (pc' := 148) (lv' := [(0, .ref (71)), (1, .int (nI (y9))), (2, .int (nI (t9))), (3, .int (nI ((nwI (fun x7 x8 => snW w y9 x7 x8 (nvW w)) i (nwO (fun x7 x8 => snW w y9 x7 x8 (nvW w)) (ntW w) i) k).1 + 1))), (4, .int ((nwI (fun x7 x8 => snW w y9 x7 x8 (nvW w)) i (nwO (fun x7 x8 => snW w y9 x7 x8 (nvW w)) (ntW w) i) k).2)), (5, .int (nI (i))), (6, .int (nI (i + 1 + k))), (7, .int (bI (snW w y9 i (i + 1 + k) (nvW w)))), (8, .int (nI ((nvW w))))]) rfl rfl rfl (Nat.le_of_ble_eq_true rfl) rfl (by decide) ?_
                              refine wn_ld (pc' := 150) (q := 4) (kin := 0) (v := .int ((nwI (fun x7 x8 => snW w y9 x7 x8 (nvW w)) i (nwO (fun x7 x8 => snW w y9 x7 x8 (nvW w)) (ntW w) i) k).2)) rfl (fun _ _ _ => rfl) rfl rfl ?_
                              refine wn_ic (pc' := 151) (w := -1) rfl rfl (by decide) ?_
                              refine wn_icmp (t := 165) (f := 154) rfl rfl rfl (fun c29 => ?_) (fun c29 => ?_)
                              · have c29 : ¬ (((nwI (fun x7 x8 => snW w y9 x7 x8 (nvW w)) i (nwO (fun x7 x8 => snW w y9 x7 x8 (nvW w)) (ntW w) i) k).2)) = ((-1)) := c29
                                refine wn_ld (pc' := 167) (q := 4) (kin := 0) (v := .int ((nwI (fun x7 x8 => snW w y9 x7 x8 (nvW w)) i (nwO (fun x7 x8 => snW w y9 x7 x8 (nvW w)) (ntW w) i) k).2)) rfl (fun _ _ _ => rfl) rfl rfl ?_
                                refine wn_st (pc' := 169) (q := 4) (kin := 0) (lv' := [(0, .ref (71)), (1, .int (nI (y9))), (2, .int (nI (t9))), (3, .int (nI ((nwI (fun x7 x8 => snW w y9 x7 x8 (nvW w)) i (nwO (fun x7 x8 => snW w y9 x7 x8 (nvW w)) (ntW w) i) k).1 + 1))), (4, .int ((nwI (fun x7 x8 => snW w y9 x7 x8 (nvW w)) i (nwO (fun x7 x8 => snW w y9 x7 x8 (nvW w)) (ntW w) i) k).2)), (5, .int (nI (i))), (6, .int (nI (i + 1 + k))), (7, .int (bI (snW w y9 i (i + 1 + k) (nvW w)))), (8, .int (nI ((nvW w))))]) rfl (fun _ _ _ => rfl) rfl (Nat.le_of_ble_eq_true rfl) rfl ?_
                                refine wn_incN (n := 1) (pc' := 172) (lv' := [(0, .ref (71)), (1, .int (nI (y9))), (2, .int (nI (t9))), (3, .int (nI ((nwI (fun x7 x8 => snW w y9 x7 x8 (nvW w)) i (nwO (fun x7 x8 => snW w y9 x7 x8 (nvW w)) (ntW w) i) k).1 + 1))), (4, .int ((nwI (fun x7 x8 => snW w y9 x7 x8 (nvW w)) i (nwO (fun x7 x8 => snW w y9 x7 x8 (nvW w)) (ntW w) i) k).2)), (5, .int (nI (i))), (6, .int (nI (i + 1 + k + 1))), (7, .int (bI (snW w y9 i (i + 1 + k) (nvW w)))), (8, .int (nI ((nvW w))))]) rfl rfl rfl (Nat.le_of_ble_eq_true rfl) rfl (by decide) ?_
                                refine wn_jp (pc' := 45) rfl rfl ?_
                                refine wn_weak (lv' := [(0, .ref (71)), (1, .int (nI (y9))), (2, .int (nI (t9))), (3, .int (nI ((nwI (fun x7 x8 => snW w y9 x7 x8 (nvW w)) i (nwO (fun x7 x8 => snW w y9 x7 x8 (nvW w)) (ntW w) i) k).1 + 1))), (4, .int ((nwI (fun x7 x8 => snW w y9 x7 x8 (nvW w)) i (nwO (fun x7 x8 => snW w y9 x7 x8 (nvW w)) (ntW w) i) k).2)), (5, .int (nI (i))), (6, .int (nI (i + 1 + k + 1)))]) (by simp) ?_
                                have z9 := ih_lp8 g25 (k + 1) (by omega) RT_g25 (by omega)
                                rw [show (nI ((nwI (fun x7 x8 => snW w y9 x7 x8 (nvW w)) i (nwO (fun x7 x8 => snW w y9 x7 x8 (nvW w)) (ntW w) i) (k + 1)).1)) = (nI ((nwI (fun x7 x8 => snW w y9 x7 x8 (nvW w)) i (nwO (fun x7 x8 => snW w y9 x7 x8 (nvW w)) (ntW w) i) k).1 + 1)) from (by exact (congrArg (fun q => nI q.1) (nwI_b (p := (fun x7 x8 => snW w y9 x7 x8 (nvW w))) c28 c29)).trans rfl)] at z9
                                rw [show ((nwI (fun x7 x8 => snW w y9 x7 x8 (nvW w)) i (nwO (fun x7 x8 => snW w y9 x7 x8 (nvW w)) (ntW w) i) (k + 1)).2) = ((nwI (fun x7 x8 => snW w y9 x7 x8 (nvW w)) i (nwO (fun x7 x8 => snW w y9 x7 x8 (nvW w)) (ntW w) i) k).2) from (by exact (congrArg Prod.snd (nwI_b (p := (fun x7 x8 => snW w y9 x7 x8 (nvW w))) c28 c29)).trans rfl)] at z9
                                rw [show (nI (i + 1 + (k + 1))) = (nI (i + 1 + k + 1)) from (by rfl)] at z9
                                exact z9
                              · have c29 : (((nwI (fun x7 x8 => snW w y9 x7 x8 (nvW w)) i (nwO (fun x7 x8 => snW w y9 x7 x8 (nvW w)) (ntW w) i) k).2)) = ((-1)) := c29
                                refine wn_bp (pc' := 156) (w := nI 100) rfl rfl (by decide) ?_
                                refine wn_ld (pc' := 158) (q := 5) (kin := 0) (v := .int (nI (i))) rfl (fun _ _ _ => rfl) rfl rfl ?_
                                refine wn_mulN (pc' := 159) rfl rfl ?_
                                refine wn_ld (pc' := 161) (q := 6) (kin := 0) (v := .int (nI (i + 1 + k))) rfl (fun _ _ _ => rfl) rfl rfl ?_
                                refine wn_addN (pc' := 162) rfl rfl ?_
                                refine wn_jp (pc' := 167) rfl rfl ?_
                                refine wn_st (pc' := 169) (q := 4) (kin := 0) (lv' := [(0, .ref (71)), (1, .int (nI (y9))), (2, .int (nI (t9))), (3, .int (nI ((nwI (fun x7 x8 => snW w y9 x7 x8 (nvW w)) i (nwO (fun x7 x8 => snW w y9 x7 x8 (nvW w)) (ntW w) i) k).1 + 1))), (4, .int (nI ((100 * i) + (i + 1 + k)))), (5, .int (nI (i))), (6, .int (nI (i + 1 + k))), (7, .int (bI (snW w y9 i (i + 1 + k) (nvW w)))), (8, .int (nI ((nvW w))))]) rfl (fun _ _ _ => rfl) rfl (Nat.le_of_ble_eq_true rfl) rfl ?_
                                refine wn_incN (n := 1) (pc' := 172) (lv' := [(0, .ref (71)), (1, .int (nI (y9))), (2, .int (nI (t9))), (3, .int (nI ((nwI (fun x7 x8 => snW w y9 x7 x8 (nvW w)) i (nwO (fun x7 x8 => snW w y9 x7 x8 (nvW w)) (ntW w) i) k).1 + 1))), (4, .int (nI ((100 * i) + (i + 1 + k)))), (5, .int (nI (i))), (6, .int (nI (i + 1 + k + 1))), (7, .int (bI (snW w y9 i (i + 1 + k) (nvW w)))), (8, .int (nI ((nvW w))))]) rfl rfl rfl (Nat.le_of_ble_eq_true rfl) rfl (by decide) ?_
                                refine wn_jp (pc' := 45) rfl rfl ?_
                                refine wn_weak (lv' := [(0, .ref (71)), (1, .int (nI (y9))), (2, .int (nI (t9))), (3, .int (nI ((nwI (fun x7 x8 => snW w y9 x7 x8 (nvW w)) i (nwO (fun x7 x8 => snW w y9 x7 x8 (nvW w)) (ntW w) i) k).1 + 1))), (4, .int (nI ((100 * i) + (i + 1 + k)))), (5, .int (nI (i))), (6, .int (nI (i + 1 + k + 1)))]) (by simp) ?_
                                have z9 := ih_lp8 g25 (k + 1) (by omega) RT_g25 (by omega)
                                rw [show (nI ((nwI (fun x7 x8 => snW w y9 x7 x8 (nvW w)) i (nwO (fun x7 x8 => snW w y9 x7 x8 (nvW w)) (ntW w) i) (k + 1)).1)) = (nI ((nwI (fun x7 x8 => snW w y9 x7 x8 (nvW w)) i (nwO (fun x7 x8 => snW w y9 x7 x8 (nvW w)) (ntW w) i) k).1 + 1)) from (by exact (congrArg (fun q => nI q.1) (nwI_a (p := (fun x7 x8 => snW w y9 x7 x8 (nvW w))) c28 c29)).trans rfl)] at z9
                                rw [show ((nwI (fun x7 x8 => snW w y9 x7 x8 (nvW w)) i (nwO (fun x7 x8 => snW w y9 x7 x8 (nvW w)) (ntW w) i) (k + 1)).2) = (nI ((100 * i) + (i + 1 + k))) from (by exact (congrArg Prod.snd (nwI_a (p := (fun x7 x8 => snW w y9 x7 x8 (nvW w))) c28 c29)).trans rfl)] at z9
                                rw [show (nI (i + 1 + (k + 1))) = (nI (i + 1 + k + 1)) from (by rfl)] at z9
                                exact z9
                            · have c28 : (snW w y9 i (i + 1 + k) (nvW w)) := c28
                              refine wn_jp (pc' := 169) rfl rfl ?_
                              refine wn_incN (n := 1) (pc' := 172) (lv' := [(0, .ref (71)), (1, .int (nI (y9))), (2, .int (nI (t9))), (3, .int (nI ((nwI (fun x7 x8 => snW w y9 x7 x8 (nvW w)) i (nwO (fun x7 x8 => snW w y9 x7 x8 (nvW w)) (ntW w) i) k).1))), (4, .int ((nwI (fun x7 x8 => snW w y9 x7 x8 (nvW w)) i (nwO (fun x7 x8 => snW w y9 x7 x8 (nvW w)) (ntW w) i) k).2)), (5, .int (nI (i))), (6, .int (nI (i + 1 + k + 1))), (7, .int (bI (snW w y9 i (i + 1 + k) (nvW w)))), (8, .int (nI ((nvW w))))]) rfl rfl rfl (Nat.le_of_ble_eq_true rfl) rfl (by decide) ?_
                              refine wn_jp (pc' := 45) rfl rfl ?_
                              refine wn_weak (lv' := [(0, .ref (71)), (1, .int (nI (y9))), (2, .int (nI (t9))), (3, .int (nI ((nwI (fun x7 x8 => snW w y9 x7 x8 (nvW w)) i (nwO (fun x7 x8 => snW w y9 x7 x8 (nvW w)) (ntW w) i) k).1))), (4, .int ((nwI (fun x7 x8 => snW w y9 x7 x8 (nvW w)) i (nwO (fun x7 x8 => snW w y9 x7 x8 (nvW w)) (ntW w) i) k).2)), (5, .int (nI (i))), (6, .int (nI (i + 1 + k + 1)))]) (by simp) ?_
                              have z9 := ih_lp8 g25 (k + 1) (by omega) RT_g25 (by omega)
                              rw [show (nI ((nwI (fun x7 x8 => snW w y9 x7 x8 (nvW w)) i (nwO (fun x7 x8 => snW w y9 x7 x8 (nvW w)) (ntW w) i) (k + 1)).1)) = (nI ((nwI (fun x7 x8 => snW w y9 x7 x8 (nvW w)) i (nwO (fun x7 x8 => snW w y9 x7 x8 (nvW w)) (ntW w) i) k).1)) from (by exact (congrArg (fun q => nI q.1) (nwI_f (p := (fun x7 x8 => snW w y9 x7 x8 (nvW w))) c28)).trans rfl)] at z9
                              rw [show ((nwI (fun x7 x8 => snW w y9 x7 x8 (nvW w)) i (nwO (fun x7 x8 => snW w y9 x7 x8 (nvW w)) (ntW w) i) (k + 1)).2) = ((nwI (fun x7 x8 => snW w y9 x7 x8 (nvW w)) i (nwO (fun x7 x8 => snW w y9 x7 x8 (nvW w)) (ntW w) i) k).2) from (by exact (congrArg Prod.snd (nwI_f (p := (fun x7 x8 => snW w y9 x7 x8 (nvW w))) c28)).trans rfl)] at z9
                              rw [show (nI (i + 1 + (k + 1))) = (nI (i + 1 + k + 1)) from (by rfl)] at z9
                              exact z9
                          · have c27 : v < (nvW w) := c27
                            refine wn_ld (pc' := 97) (q := 7) (kin := 0) (v := .int (bI (snW w y9 i (i + 1 + k) v))) rfl (fun _ _ _ => rfl) rfl rfl ?_
                            refine wn_ifneB (t := 137) (f := 100) rfl rfl rfl (fun c30 => ?_) (fun c30 => ?_)
                            · have c30 : (snW w y9 i (i + 1 + k) v) := c30
                              refine wn_ld (pc' := 139) (q := 7) (kin := 0) (v := .int (bI (snW w y9 i (i + 1 + k) v))) rfl (fun _ _ _ => rfl) rfl rfl ?_
                              refine wn_ifeqB (t := 145) (f := 142) rfl rfl rfl (fun c31 => ?_) (fun c31 => ?_)
                              · have c31 : ¬ (snW w y9 i (i + 1 + k) v) := c31
                                exact absurd c30 c31
                              · have c31 : (snW w y9 i (i + 1 + k) v) := c31
                                refine wn_jp (pc' := 169) rfl rfl ?_
                                refine wn_incN (n := 1) (pc' := 172) (lv' := [(0, .ref (71)), (1, .int (nI (y9))), (2, .int (nI (t9))), (3, .int (nI ((nwI (fun x7 x8 => snW w y9 x7 x8 (nvW w)) i (nwO (fun x7 x8 => snW w y9 x7 x8 (nvW w)) (ntW w) i) k).1))), (4, .int ((nwI (fun x7 x8 => snW w y9 x7 x8 (nvW w)) i (nwO (fun x7 x8 => snW w y9 x7 x8 (nvW w)) (ntW w) i) k).2)), (5, .int (nI (i))), (6, .int (nI (i + 1 + k + 1))), (7, .int (bI (snW w y9 i (i + 1 + k) v))), (8, .int (nI (v)))]) rfl rfl rfl (Nat.le_of_ble_eq_true rfl) rfl (by decide) ?_
                                refine wn_jp (pc' := 45) rfl rfl ?_
                                refine wn_weak (lv' := [(0, .ref (71)), (1, .int (nI (y9))), (2, .int (nI (t9))), (3, .int (nI ((nwI (fun x7 x8 => snW w y9 x7 x8 (nvW w)) i (nwO (fun x7 x8 => snW w y9 x7 x8 (nvW w)) (ntW w) i) k).1))), (4, .int ((nwI (fun x7 x8 => snW w y9 x7 x8 (nvW w)) i (nwO (fun x7 x8 => snW w y9 x7 x8 (nvW w)) (ntW w) i) k).2)), (5, .int (nI (i))), (6, .int (nI (i + 1 + k + 1)))]) (by simp) ?_
                                have z9 := ih_lp8 g25 (k + 1) (by omega) RT_g25 (by omega)
                                rw [show (nI ((nwI (fun x7 x8 => snW w y9 x7 x8 (nvW w)) i (nwO (fun x7 x8 => snW w y9 x7 x8 (nvW w)) (ntW w) i) (k + 1)).1)) = (nI ((nwI (fun x7 x8 => snW w y9 x7 x8 (nvW w)) i (nwO (fun x7 x8 => snW w y9 x7 x8 (nvW w)) (ntW w) i) k).1)) from (by exact (congrArg (fun q => nI q.1) (nwI_f (p := (fun x7 x8 => snW w y9 x7 x8 (nvW w))) (snW_m c30 (by omega)))).trans rfl)] at z9
                                rw [show ((nwI (fun x7 x8 => snW w y9 x7 x8 (nvW w)) i (nwO (fun x7 x8 => snW w y9 x7 x8 (nvW w)) (ntW w) i) (k + 1)).2) = ((nwI (fun x7 x8 => snW w y9 x7 x8 (nvW w)) i (nwO (fun x7 x8 => snW w y9 x7 x8 (nvW w)) (ntW w) i) k).2) from (by exact (congrArg Prod.snd (nwI_f (p := (fun x7 x8 => snW w y9 x7 x8 (nvW w))) (snW_m c30 (by omega)))).trans rfl)] at z9
                                rw [show (nI (i + 1 + (k + 1))) = (nI (i + 1 + k + 1)) from (by rfl)] at z9
                                exact z9
                            · have c30 : ¬ (snW w y9 i (i + 1 + k) v) := c30
                              refine wn_ld (pc' := 101) (q := 0) (kin := 2) (v := .ref (71)) rfl (fun _ _ _ => rfl) rfl rfl ?_
                              refine wn_ld (pc' := 103) (q := 8) (kin := 0) (v := .int (nI (v))) rfl (fun _ _ _ => rfl) rfl rfl ?_
                              refine wn_ld (pc' := 105) (q := 5) (kin := 0) (v := .int (nI (i))) rfl (fun _ _ _ => rfl) rfl rfl ?_
                              refine wn_ld (pc' := 106) (q := 1) (kin := 0) (v := .int (nI (y9))) rfl (fun _ _ _ => rfl) rfl rfl ?_
                              refine wn_virS (pc' := 109) rfl rfl (by decide) rfl rfl hM_g25 (Nat.le_of_ble_eq_true rfl) (m_fitsOne _ _ w hWf RT_g25.2.2.2 v i y9 (by omega) (by omega) (by omega)) (fun r9 h32 e33 => ?_)
                              obtain ⟨rfl, RQ_h32⟩ := e33
                              have RT_h32 := RQ.tr RT_g25 RQ_h32
                              obtain ⟨th_h32, tp_h32, sz_h32, at9_h32, fr_h32, tk_h32, vl_h32, fk_h32, fp_h32, il_h32, up_h32, lo_h32, hM_h32, hW_h32⟩ := RQ_h32.mh
                              show Wn _ _ 109 _ [.int (bI (fitW w y9 v i))] h32 _
                              refine wn_ifeqB (t := 128) (f := 112) rfl rfl rfl (fun c34 => ?_) (fun c34 => ?_)
                              · have c34 : ¬ (fitW w y9 v i) := c34
                                refine wn_ic (pc' := 129) (w := nI 0) rfl rfl (by decide) ?_
                                refine wn_st (pc' := 131) (q := 7) (kin := 0) (lv' := [(0, .ref (71)), (1, .int (nI (y9))), (2, .int (nI (t9))), (3, .int (nI ((nwI (fun x7 x8 => snW w y9 x7 x8 (nvW w)) i (nwO (fun x7 x8 => snW w y9 x7 x8 (nvW w)) (ntW w) i) k).1))), (4, .int ((nwI (fun x7 x8 => snW w y9 x7 x8 (nvW w)) i (nwO (fun x7 x8 => snW w y9 x7 x8 (nvW w)) (ntW w) i) k).2)), (5, .int (nI (i))), (6, .int (nI (i + 1 + k))), (7, .int (nI (0))), (8, .int (nI (v)))]) rfl (fun _ _ _ => rfl) rfl (Nat.le_of_ble_eq_true rfl) rfl ?_
                                refine wn_incN (n := 1) (pc' := 134) (lv' := [(0, .ref (71)), (1, .int (nI (y9))), (2, .int (nI (t9))), (3, .int (nI ((nwI (fun x7 x8 => snW w y9 x7 x8 (nvW w)) i (nwO (fun x7 x8 => snW w y9 x7 x8 (nvW w)) (ntW w) i) k).1))), (4, .int ((nwI (fun x7 x8 => snW w y9 x7 x8 (nvW w)) i (nwO (fun x7 x8 => snW w y9 x7 x8 (nvW w)) (ntW w) i) k).2)), (5, .int (nI (i))), (6, .int (nI (i + 1 + k))), (7, .int (nI (0))), (8, .int (nI (v + 1)))]) rfl rfl rfl (Nat.le_of_ble_eq_true rfl) rfl (by decide) ?_
                                refine wn_jp (pc' := 84) rfl rfl ?_
                                refine wn_weak (lv' := [(0, .ref (71)), (1, .int (nI (y9))), (2, .int (nI (t9))), (3, .int (nI ((nwI (fun x7 x8 => snW w y9 x7 x8 (nvW w)) i (nwO (fun x7 x8 => snW w y9 x7 x8 (nvW w)) (ntW w) i) k).1))), (4, .int ((nwI (fun x7 x8 => snW w y9 x7 x8 (nvW w)) i (nwO (fun x7 x8 => snW w y9 x7 x8 (nvW w)) (ntW w) i) k).2)), (5, .int (nI (i))), (6, .int (nI (i + 1 + k))), (7, .int (nI (0))), (8, .int (nI (v + 1)))]) (by simp) ?_
                                have z9 := ih_lp26 h32 (v + 1) (by omega) RT_h32 (by omega)
                                rw [show (bI (snW w y9 i (i + 1 + k) (v + 1))) = (nI (0)) from (by exact (bI_f0 (fun q => (snW_s.mp q).elim c30 (fun q => c34 q.1))).symm)] at z9
                                exact z9
                              · have c34 : (fitW w y9 v i) := c34
                                refine wn_ld (pc' := 113) (q := 0) (kin := 2) (v := .ref (71)) rfl (fun _ _ _ => rfl) rfl rfl ?_
                                refine wn_ld (pc' := 115) (q := 8) (kin := 0) (v := .int (nI (v))) rfl (fun _ _ _ => rfl) rfl rfl ?_
                                refine wn_ld (pc' := 117) (q := 6) (kin := 0) (v := .int (nI (i + 1 + k))) rfl (fun _ _ _ => rfl) rfl rfl ?_
                                refine wn_ld (pc' := 118) (q := 1) (kin := 0) (v := .int (nI (y9))) rfl (fun _ _ _ => rfl) rfl rfl ?_
                                refine wn_virS (pc' := 121) rfl rfl (by decide) rfl rfl hM_h32 (Nat.le_of_ble_eq_true rfl) (m_fitsOne _ _ w hWf RQ_h32.2.2.2 v (i + 1 + k) y9 (by omega) (by omega) (by omega)) (fun r9 h35 e36 => ?_)
                                obtain ⟨rfl, RQ_h35⟩ := e36
                                have RT_h35 := RQ.tr RT_h32 RQ_h35
                                obtain ⟨th_h35, tp_h35, sz_h35, at9_h35, fr_h35, tk_h35, vl_h35, fk_h35, fp_h35, il_h35, up_h35, lo_h35, hM_h35, hW_h35⟩ := RQ_h35.mh
                                show Wn _ _ 121 _ [.int (bI (fitW w y9 v (i + 1 + k)))] h35 _
                                refine wn_ifeqB (t := 128) (f := 124) rfl rfl rfl (fun c37 => ?_) (fun c37 => ?_)
                                · have c37 : ¬ (fitW w y9 v (i + 1 + k)) := c37
                                  refine wn_ic (pc' := 129) (w := nI 0) rfl rfl (by decide) ?_
                                  refine wn_st (pc' := 131) (q := 7) (kin := 0) (lv' := [(0, .ref (71)), (1, .int (nI (y9))), (2, .int (nI (t9))), (3, .int (nI ((nwI (fun x7 x8 => snW w y9 x7 x8 (nvW w)) i (nwO (fun x7 x8 => snW w y9 x7 x8 (nvW w)) (ntW w) i) k).1))), (4, .int ((nwI (fun x7 x8 => snW w y9 x7 x8 (nvW w)) i (nwO (fun x7 x8 => snW w y9 x7 x8 (nvW w)) (ntW w) i) k).2)), (5, .int (nI (i))), (6, .int (nI (i + 1 + k))), (7, .int (nI (0))), (8, .int (nI (v)))]) rfl (fun _ _ _ => rfl) rfl (Nat.le_of_ble_eq_true rfl) rfl ?_
                                  refine wn_incN (n := 1) (pc' := 134) (lv' := [(0, .ref (71)), (1, .int (nI (y9))), (2, .int (nI (t9))), (3, .int (nI ((nwI (fun x7 x8 => snW w y9 x7 x8 (nvW w)) i (nwO (fun x7 x8 => snW w y9 x7 x8 (nvW w)) (ntW w) i) k).1))), (4, .int ((nwI (fun x7 x8 => snW w y9 x7 x8 (nvW w)) i (nwO (fun x7 x8 => snW w y9 x7 x8 (nvW w)) (ntW w) i) k).2)), (5, .int (nI (i))), (6, .int (nI (i + 1 + k))), (7, .int (nI (0))), (8, .int (nI (v + 1)))]) rfl rfl rfl (Nat.le_of_ble_eq_true rfl) rfl (by decide) ?_
                                  refine wn_jp (pc' := 84) rfl rfl ?_
                                  refine wn_weak (lv' := [(0, .ref (71)), (1, .int (nI (y9))), (2, .int (nI (t9))), (3, .int (nI ((nwI (fun x7 x8 => snW w y9 x7 x8 (nvW w)) i (nwO (fun x7 x8 => snW w y9 x7 x8 (nvW w)) (ntW w) i) k).1))), (4, .int ((nwI (fun x7 x8 => snW w y9 x7 x8 (nvW w)) i (nwO (fun x7 x8 => snW w y9 x7 x8 (nvW w)) (ntW w) i) k).2)), (5, .int (nI (i))), (6, .int (nI (i + 1 + k))), (7, .int (nI (0))), (8, .int (nI (v + 1)))]) (by simp) ?_
                                  have z9 := ih_lp26 h35 (v + 1) (by omega) RT_h35 (by omega)
                                  rw [show (bI (snW w y9 i (i + 1 + k) (v + 1))) = (nI (0)) from (by exact (bI_f0 (fun q => (snW_s.mp q).elim c30 (fun q => c37 q.2))).symm)] at z9
                                  exact z9
                                · have c37 : (fitW w y9 v (i + 1 + k)) := c37
                                  refine wn_ic (pc' := 125) (w := nI 1) rfl rfl (by decide) ?_
                                  refine wn_jp (pc' := 129) rfl rfl ?_
                                  refine wn_st (pc' := 131) (q := 7) (kin := 0) (lv' := [(0, .ref (71)), (1, .int (nI (y9))), (2, .int (nI (t9))), (3, .int (nI ((nwI (fun x7 x8 => snW w y9 x7 x8 (nvW w)) i (nwO (fun x7 x8 => snW w y9 x7 x8 (nvW w)) (ntW w) i) k).1))), (4, .int ((nwI (fun x7 x8 => snW w y9 x7 x8 (nvW w)) i (nwO (fun x7 x8 => snW w y9 x7 x8 (nvW w)) (ntW w) i) k).2)), (5, .int (nI (i))), (6, .int (nI (i + 1 + k))), (7, .int (nI (1))), (8, .int (nI (v)))]) rfl (fun _ _ _ => rfl) rfl (Nat.le_of_ble_eq_true rfl) rfl ?_
                                  refine wn_incN (n := 1) (pc' := 134) (lv' := [(0, .ref (71)), (1, .int (nI (y9))), (2, .int (nI (t9))), (3, .int (nI ((nwI (fun x7 x8 => snW w y9 x7 x8 (nvW w)) i (nwO (fun x7 x8 => snW w y9 x7 x8 (nvW w)) (ntW w) i) k).1))), (4, .int ((nwI (fun x7 x8 => snW w y9 x7 x8 (nvW w)) i (nwO (fun x7 x8 => snW w y9 x7 x8 (nvW w)) (ntW w) i) k).2)), (5, .int (nI (i))), (6, .int (nI (i + 1 + k))), (7, .int (nI (1))), (8, .int (nI (v + 1)))]) rfl rfl rfl (Nat.le_of_ble_eq_true rfl) rfl (by decide) ?_
                                  refine wn_jp (pc' := 84) rfl rfl ?_
                                  refine wn_weak (lv' := [(0, .ref (71)), (1, .int (nI (y9))), (2, .int (nI (t9))), (3, .int (nI ((nwI (fun x7 x8 => snW w y9 x7 x8 (nvW w)) i (nwO (fun x7 x8 => snW w y9 x7 x8 (nvW w)) (ntW w) i) k).1))), (4, .int ((nwI (fun x7 x8 => snW w y9 x7 x8 (nvW w)) i (nwO (fun x7 x8 => snW w y9 x7 x8 (nvW w)) (ntW w) i) k).2)), (5, .int (nI (i))), (6, .int (nI (i + 1 + k))), (7, .int (nI (1))), (8, .int (nI (v + 1)))]) (by simp) ?_
                                  have z9 := ih_lp26 h35 (v + 1) (by omega) RT_h35 (by omega)
                                  rw [show (bI (snW w y9 i (i + 1 + k) (v + 1))) = (nI (1)) from (by exact (bI_t1 (snW_s.mpr (Or.inr ⟨c34, c37⟩))).symm)] at z9
                                  exact z9
                      refine wn_weak (lv' := [(0, .ref (71)), (1, .int (nI (y9))), (2, .int (nI (t9))), (3, .int (nI ((nwI (fun x7 x8 => snW w y9 x7 x8 (nvW w)) i (nwO (fun x7 x8 => snW w y9 x7 x8 (nvW w)) (ntW w) i) k).1))), (4, .int ((nwI (fun x7 x8 => snW w y9 x7 x8 (nvW w)) i (nwO (fun x7 x8 => snW w y9 x7 x8 (nvW w)) (ntW w) i) k).2)), (5, .int (nI (i))), (6, .int (nI (i + 1 + k))), (7, .int (nI (0))), (8, .int (nI (0)))]) (by simp) ?_
                      have z9 := lp26 ((nvW w) + 1) g7 0 (by omega) RT_g7 (by omega)
                      rw [show (bI (snW w y9 i (i + 1 + k) 0)) = (nI (0)) from (by exact (bI_f0 (fun q => q.elim (fun q => q.elim c10 c24) (fun ⟨v9, q1, q2⟩ => absurd q1 (by omega)))).symm)] at z9
                      exact z9
                    · have c24 : ¬ (¬ w (178 + 4 * (i + 1 + k)) = -1) := c24
                      refine wn_ic (pc' := 75) (w := nI 1) rfl rfl (by decide) ?_
                      refine wn_jp (pc' := 79) rfl rfl ?_
                      refine wn_st (pc' := 81) (q := 7) (kin := 0) (lv' := [(0, .ref (71)), (1, .int (nI (y9))), (2, .int (nI (t9))), (3, .int (nI ((nwI (fun x7 x8 => snW w y9 x7 x8 (nvW w)) i (nwO (fun x7 x8 => snW w y9 x7 x8 (nvW w)) (ntW w) i) k).1))), (4, .int ((nwI (fun x7 x8 => snW w y9 x7 x8 (nvW w)) i (nwO (fun x7 x8 => snW w y9 x7 x8 (nvW w)) (ntW w) i) k).2)), (5, .int (nI (i))), (6, .int (nI (i + 1 + k))), (7, .int (nI (1)))]) rfl (fun _ _ _ => rfl) rfl (Nat.le_of_ble_eq_true rfl) rfl ?_
                      refine wn_ic (pc' := 82) (w := nI 0) rfl rfl (by decide) ?_
                      refine wn_st (pc' := 84) (q := 8) (kin := 0) (lv' := [(0, .ref (71)), (1, .int (nI (y9))), (2, .int (nI (t9))), (3, .int (nI ((nwI (fun x7 x8 => snW w y9 x7 x8 (nvW w)) i (nwO (fun x7 x8 => snW w y9 x7 x8 (nvW w)) (ntW w) i) k).1))), (4, .int ((nwI (fun x7 x8 => snW w y9 x7 x8 (nvW w)) i (nwO (fun x7 x8 => snW w y9 x7 x8 (nvW w)) (ntW w) i) k).2)), (5, .int (nI (i))), (6, .int (nI (i + 1 + k))), (7, .int (nI (1))), (8, .int (nI (0)))]) rfl (fun _ _ _ => rfl) rfl (Nat.le_of_ble_eq_true rfl) rfl ?_
                      have lp39 : ∀ (n_lp39 : Nat) (g38 : aH) (v : Nat), (nvW w) + 1 ≤ v + n_lp39 → RQ h g38 w → v ≤ nvW w → Wn (Rn (d + 9)) 217 84 [(0, .ref (71)), (1, .int (nI (y9))), (2, .int (nI (t9))), (3, .int (nI ((nwI (fun x7 x8 => snW w y9 x7 x8 (nvW w)) i (nwO (fun x7 x8 => snW w y9 x7 x8 (nvW w)) (ntW w) i) k).1))), (4, .int ((nwI (fun x7 x8 => snW w y9 x7 x8 (nvW w)) i (nwO (fun x7 x8 => snW w y9 x7 x8 (nvW w)) (ntW w) i) k).2)), (5, .int (nI (i))), (6, .int (nI (i + 1 + k))), (7, .int (bI (snW w y9 i (i + 1 + k) v))), (8, .int (nI (v)))] [] (g38) (fun r9 h9 => r9 = some (.int (nowhereA w (nI y9) (nI t9))) ∧ RQ h h9 w) := by
                        intro n_lp39
                        induction n_lp39 with
                        | zero => intro g38 v hm_lp39 RT_g38 hv_; exfalso; omega
                        | succ n_lp39 ih_lp39 =>
                          intro g38 v hm_lp39 RT_g38 hv_
                          obtain ⟨th_g38, tp_g38, sz_g38, at9_g38, fr_g38, tk_g38, vl_g38, fk_g38, fp_g38, il_g38, up_g38, lo_g38, hM_g38, hW_g38⟩ := RT_g38.mh
                          refine wn_ld (pc' := 86) (q := 8) (kin := 0) (v := .int (nI (v))) rfl (fun _ _ _ => rfl) rfl rfl ?_
                          refine wn_ld (pc' := 87) (q := 0) (kin := 2) (v := .ref (71)) rfl (fun _ _ _ => rfl) rfl rfl ?_
                          refine wn_get (pc' := 90) (v := .ref (72)) rfl rfl hM_g38 rfl ?_
                          refine wn_ic (pc' := 91) (w := nI 1) rfl rfl (by decide) ?_
                          refine wn_ialdv (pc' := 92) (j := 1) (v := (nI (nvW w))) rfl rfl hW_g38 rfl (by omega) (by decide) (e1) ?_
                          refine wn_icmpN (t := 137) (f := 95) rfl rfl rfl (by omega) (by omega) (fun c40 => ?_) (fun c40 => ?_)
                          · have c40 : (nvW w) ≤ v := c40
                            obtain rfl : v = nvW w := by omega
                            refine wn_ld (pc' := 139) (q := 7) (kin := 0) (v := .int (bI (snW w y9 i (i + 1 + k) (nvW w)))) rfl (fun _ _ _ => rfl) rfl rfl ?_
                            refine wn_ifeqB (t := 145) (f := 142) rfl rfl rfl (fun c41 => ?_) (fun c41 => ?_)
                            · have c41 : ¬ (snW w y9 i (i + 1 + k) (nvW w)) := c41
                              refine wn_incN (n := 1) (pc' := 148) (lv' := [(0, .ref (71)), (1, .int (nI (y9))), (2, .int (nI (t9))), (3, .int (nI ((nwI (fun x7 x8 => snW w y9 x7 x8 (nvW w)) i (nwO (fun x7 x8 => snW w y9 x7 x8 (nvW w)) (ntW w) i) k).1 + 1))), (4, .int ((nwI (fun x7 x8 => snW w y9 x7 x8 (nvW w)) i (nwO (fun x7 x8 => snW w y9 x7 x8 (nvW w)) (ntW w) i) k).2)), (5, .int (nI (i))), (6, .int (nI (i + 1 + k))), (7, .int (bI (snW w y9 i (i + 1 + k) (nvW w)))), (8, .int (nI ((nvW w))))]) rfl rfl rfl (Nat.le_of_ble_eq_true rfl) rfl (by decide) ?_
                              refine wn_ld (pc' := 150) (q := 4) (kin := 0) (v := .int ((nwI (fun x7 x8 => snW w y9 x7 x8 (nvW w)) i (nwO (fun x7 x8 => snW w y9 x7 x8 (nvW w)) (ntW w) i) k).2)) rfl (fun _ _ _ => rfl) rfl rfl ?_
                              refine wn_ic (pc' := 151) (w := -1) rfl rfl (by decide) ?_
                              refine wn_icmp (t := 165) (f := 154) rfl rfl rfl (fun c42 => ?_) (fun c42 => ?_)
                              · have c42 : ¬ (((nwI (fun x7 x8 => snW w y9 x7 x8 (nvW w)) i (nwO (fun x7 x8 => snW w y9 x7 x8 (nvW w)) (ntW w) i) k).2)) = ((-1)) := c42
                                refine wn_ld (pc' := 167) (q := 4) (kin := 0) (v := .int ((nwI (fun x7 x8 => snW w y9 x7 x8 (nvW w)) i (nwO (fun x7 x8 => snW w y9 x7 x8 (nvW w)) (ntW w) i) k).2)) rfl (fun _ _ _ => rfl) rfl rfl ?_
                                refine wn_st (pc' := 169) (q := 4) (kin := 0) (lv' := [(0, .ref (71)), (1, .int (nI (y9))), (2, .int (nI (t9))), (3, .int (nI ((nwI (fun x7 x8 => snW w y9 x7 x8 (nvW w)) i (nwO (fun x7 x8 => snW w y9 x7 x8 (nvW w)) (ntW w) i) k).1 + 1))), (4, .int ((nwI (fun x7 x8 => snW w y9 x7 x8 (nvW w)) i (nwO (fun x7 x8 => snW w y9 x7 x8 (nvW w)) (ntW w) i) k).2)), (5, .int (nI (i))), (6, .int (nI (i + 1 + k))), (7, .int (bI (snW w y9 i (i + 1 + k) (nvW w)))), (8, .int (nI ((nvW w))))]) rfl (fun _ _ _ => rfl) rfl (Nat.le_of_ble_eq_true rfl) rfl ?_
                                refine wn_incN (n := 1) (pc' := 172) (lv' := [(0, .ref (71)), (1, .int (nI (y9))), (2, .int (nI (t9))), (3, .int (nI ((nwI (fun x7 x8 => snW w y9 x7 x8 (nvW w)) i (nwO (fun x7 x8 => snW w y9 x7 x8 (nvW w)) (ntW w) i) k).1 + 1))), (4, .int ((nwI (fun x7 x8 => snW w y9 x7 x8 (nvW w)) i (nwO (fun x7 x8 => snW w y9 x7 x8 (nvW w)) (ntW w) i) k).2)), (5, .int (nI (i))), (6, .int (nI (i + 1 + k + 1))), (7, .int (bI (snW w y9 i (i + 1 + k) (nvW w)))), (8, .int (nI ((nvW w))))]) rfl rfl rfl (Nat.le_of_ble_eq_true rfl) rfl (by decide) ?_
                                refine wn_jp (pc' := 45) rfl rfl ?_
                                refine wn_weak (lv' := [(0, .ref (71)), (1, .int (nI (y9))), (2, .int (nI (t9))), (3, .int (nI ((nwI (fun x7 x8 => snW w y9 x7 x8 (nvW w)) i (nwO (fun x7 x8 => snW w y9 x7 x8 (nvW w)) (ntW w) i) k).1 + 1))), (4, .int ((nwI (fun x7 x8 => snW w y9 x7 x8 (nvW w)) i (nwO (fun x7 x8 => snW w y9 x7 x8 (nvW w)) (ntW w) i) k).2)), (5, .int (nI (i))), (6, .int (nI (i + 1 + k + 1)))]) (by simp) ?_
                                have z9 := ih_lp8 g38 (k + 1) (by omega) RT_g38 (by omega)
                                rw [show (nI ((nwI (fun x7 x8 => snW w y9 x7 x8 (nvW w)) i (nwO (fun x7 x8 => snW w y9 x7 x8 (nvW w)) (ntW w) i) (k + 1)).1)) = (nI ((nwI (fun x7 x8 => snW w y9 x7 x8 (nvW w)) i (nwO (fun x7 x8 => snW w y9 x7 x8 (nvW w)) (ntW w) i) k).1 + 1)) from (by exact (congrArg (fun q => nI q.1) (nwI_b (p := (fun x7 x8 => snW w y9 x7 x8 (nvW w))) c41 c42)).trans rfl)] at z9
                                rw [show ((nwI (fun x7 x8 => snW w y9 x7 x8 (nvW w)) i (nwO (fun x7 x8 => snW w y9 x7 x8 (nvW w)) (ntW w) i) (k + 1)).2) = ((nwI (fun x7 x8 => snW w y9 x7 x8 (nvW w)) i (nwO (fun x7 x8 => snW w y9 x7 x8 (nvW w)) (ntW w) i) k).2) from (by exact (congrArg Prod.snd (nwI_b (p := (fun x7 x8 => snW w y9 x7 x8 (nvW w))) c41 c42)).trans rfl)] at z9
                                rw [show (nI (i + 1 + (k + 1))) = (nI (i + 1 + k + 1)) from (by rfl)] at z9
                                exact z9
                              · have c42 : (((nwI (fun x7 x8 => snW w y9 x7 x8 (nvW w)) i (nwO (fun x7 x8 => snW w y9 x7 x8 (nvW w)) (ntW w) i) k).2)) = ((-1)) := c42
                                refine wn_bp (pc' := 156) (w := nI 100) rfl rfl (by decide) ?_
                                refine wn_ld (pc' := 158) (q := 5) (kin := 0) (v := .int (nI (i))) rfl (fun _ _ _ => rfl) rfl rfl ?_
                                refine wn_mulN (pc' := 159) rfl rfl ?_
                                refine wn_ld (pc' := 161) (q := 6) (kin := 0) (v := .int (nI (i + 1 + k))) rfl (fun _ _ _ => rfl) rfl rfl ?_
                                refine wn_addN (pc' := 162) rfl rfl ?_
                                refine wn_jp (pc' := 167) rfl rfl ?_
                                refine wn_st (pc' := 169) (q := 4) (kin := 0) (lv' := [(0, .ref (71)), (1, .int (nI (y9))), (2, .int (nI (t9))), (3, .int (nI ((nwI (fun x7 x8 => snW w y9 x7 x8 (nvW w)) i (nwO (fun x7 x8 => snW w y9 x7 x8 (nvW w)) (ntW w) i) k).1 + 1))), (4, .int (nI ((100 * i) + (i + 1 + k)))), (5, .int (nI (i))), (6, .int (nI (i + 1 + k))), (7, .int (bI (snW w y9 i (i + 1 + k) (nvW w)))), (8, .int (nI ((nvW w))))]) rfl (fun _ _ _ => rfl) rfl (Nat.le_of_ble_eq_true rfl) rfl ?_
                                refine wn_incN (n := 1) (pc' := 172) (lv' := [(0, .ref (71)), (1, .int (nI (y9))), (2, .int (nI (t9))), (3, .int (nI ((nwI (fun x7 x8 => snW w y9 x7 x8 (nvW w)) i (nwO (fun x7 x8 => snW w y9 x7 x8 (nvW w)) (ntW w) i) k).1 + 1))), (4, .int (nI ((100 * i) + (i + 1 + k)))), (5, .int (nI (i))), (6, .int (nI (i + 1 + k + 1))), (7, .int (bI (snW w y9 i (i + 1 + k) (nvW w)))), (8, .int (nI ((nvW w))))]) rfl rfl rfl (Nat.le_of_ble_eq_true rfl) rfl (by decide) ?_
                                refine wn_jp (pc' := 45) rfl rfl ?_
                                refine wn_weak (lv' := [(0, .ref (71)), (1, .int (nI (y9))), (2, .int (nI (t9))), (3, .int (nI ((nwI (fun x7 x8 => snW w y9 x7 x8 (nvW w)) i (nwO (fun x7 x8 => snW w y9 x7 x8 (nvW w)) (ntW w) i) k).1 + 1))), (4, .int (nI ((100 * i) + (i + 1 + k)))), (5, .int (nI (i))), (6, .int (nI (i + 1 + k + 1)))]) (by simp) ?_
                                have z9 := ih_lp8 g38 (k + 1) (by omega) RT_g38 (by omega)
                                rw [show (nI ((nwI (fun x7 x8 => snW w y9 x7 x8 (nvW w)) i (nwO (fun x7 x8 => snW w y9 x7 x8 (nvW w)) (ntW w) i) (k + 1)).1)) = (nI ((nwI (fun x7 x8 => snW w y9 x7 x8 (nvW w)) i (nwO (fun x7 x8 => snW w y9 x7 x8 (nvW w)) (ntW w) i) k).1 + 1)) from (by exact (congrArg (fun q => nI q.1) (nwI_a (p := (fun x7 x8 => snW w y9 x7 x8 (nvW w))) c41 c42)).trans rfl)] at z9
                                rw [show ((nwI (fun x7 x8 => snW w y9 x7 x8 (nvW w)) i (nwO (fun x7 x8 => snW w y9 x7 x8 (nvW w)) (ntW w) i) (k + 1)).2) = (nI ((100 * i) + (i + 1 + k))) from (by exact (congrArg Prod.snd (nwI_a (p := (fun x7 x8 => snW w y9 x7 x8 (nvW w))) c41 c42)).trans rfl)] at z9
                                rw [show (nI (i + 1 + (k + 1))) = (nI (i + 1 + k + 1)) from (by rfl)] at z9
                                exact z9
                            · have c41 : (snW w y9 i (i + 1 + k) (nvW w)) := c41
                              refine wn_jp (pc' := 169) rfl rfl ?_
                              refine wn_incN (n := 1) (pc' := 172) (lv' := [(0, .ref (71)), (1, .int (nI (y9))), (2, .int (nI (t9))), (3, .int (nI ((nwI (fun x7 x8 => snW w y9 x7 x8 (nvW w)) i (nwO (fun x7 x8 => snW w y9 x7 x8 (nvW w)) (ntW w) i) k).1))), (4, .int ((nwI (fun x7 x8 => snW w y9 x7 x8 (nvW w)) i (nwO (fun x7 x8 => snW w y9 x7 x8 (nvW w)) (ntW w) i) k).2)), (5, .int (nI (i))), (6, .int (nI (i + 1 + k + 1))), (7, .int (bI (snW w y9 i (i + 1 + k) (nvW w)))), (8, .int (nI ((nvW w))))]) rfl rfl rfl (Nat.le_of_ble_eq_true rfl) rfl (by decide) ?_
                              refine wn_jp (pc' := 45) rfl rfl ?_
                              refine wn_weak (lv' := [(0, .ref (71)), (1, .int (nI (y9))), (2, .int (nI (t9))), (3, .int (nI ((nwI (fun x7 x8 => snW w y9 x7 x8 (nvW w)) i (nwO (fun x7 x8 => snW w y9 x7 x8 (nvW w)) (ntW w) i) k).1))), (4, .int ((nwI (fun x7 x8 => snW w y9 x7 x8 (nvW w)) i (nwO (fun x7 x8 => snW w y9 x7 x8 (nvW w)) (ntW w) i) k).2)), (5, .int (nI (i))), (6, .int (nI (i + 1 + k + 1)))]) (by simp) ?_
                              have z9 := ih_lp8 g38 (k + 1) (by omega) RT_g38 (by omega)
                              rw [show (nI ((nwI (fun x7 x8 => snW w y9 x7 x8 (nvW w)) i (nwO (fun x7 x8 => snW w y9 x7 x8 (nvW w)) (ntW w) i) (k + 1)).1)) = (nI ((nwI (fun x7 x8 => snW w y9 x7 x8 (nvW w)) i (nwO (fun x7 x8 => snW w y9 x7 x8 (nvW w)) (ntW w) i) k).1)) from (by exact (congrArg (fun q => nI q.1) (nwI_f (p := (fun x7 x8 => snW w y9 x7 x8 (nvW w))) c41)).trans rfl)] at z9
                              rw [show ((nwI (fun x7 x8 => snW w y9 x7 x8 (nvW w)) i (nwO (fun x7 x8 => snW w y9 x7 x8 (nvW w)) (ntW w) i) (k + 1)).2) = ((nwI (fun x7 x8 => snW w y9 x7 x8 (nvW w)) i (nwO (fun x7 x8 => snW w y9 x7 x8 (nvW w)) (ntW w) i) k).2) from (by exact (congrArg Prod.snd (nwI_f (p := (fun x7 x8 => snW w y9 x7 x8 (nvW w))) c41)).trans rfl)] at z9
                              rw [show (nI (i + 1 + (k + 1))) = (nI (i + 1 + k + 1)) from (by rfl)] at z9
                              exact z9
                          · have c40 : v < (nvW w) := c40
                            refine wn_ld (pc' := 97) (q := 7) (kin := 0) (v := .int (bI (snW w y9 i (i + 1 + k) v))) rfl (fun _ _ _ => rfl) rfl rfl ?_
                            refine wn_ifneB (t := 137) (f := 100) rfl rfl rfl (fun c43 => ?_) (fun c43 => ?_)
                            · have c43 : (snW w y9 i (i + 1 + k) v) := c43
                              refine wn_ld (pc' := 139) (q := 7) (kin := 0) (v := .int (bI (snW w y9 i (i + 1 + k) v))) rfl (fun _ _ _ => rfl) rfl rfl ?_
                              refine wn_ifeqB (t := 145) (f := 142) rfl rfl rfl (fun c44 => ?_) (fun c44 => ?_)
                              · have c44 : ¬ (snW w y9 i (i + 1 + k) v) := c44
                                exact absurd c43 c44
                              · have c44 : (snW w y9 i (i + 1 + k) v) := c44
                                refine wn_jp (pc' := 169) rfl rfl ?_
                                refine wn_incN (n := 1) (pc' := 172) (lv' := [(0, .ref (71)), (1, .int (nI (y9))), (2, .int (nI (t9))), (3, .int (nI ((nwI (fun x7 x8 => snW w y9 x7 x8 (nvW w)) i (nwO (fun x7 x8 => snW w y9 x7 x8 (nvW w)) (ntW w) i) k).1))), (4, .int ((nwI (fun x7 x8 => snW w y9 x7 x8 (nvW w)) i (nwO (fun x7 x8 => snW w y9 x7 x8 (nvW w)) (ntW w) i) k).2)), (5, .int (nI (i))), (6, .int (nI (i + 1 + k + 1))), (7, .int (bI (snW w y9 i (i + 1 + k) v))), (8, .int (nI (v)))]) rfl rfl rfl (Nat.le_of_ble_eq_true rfl) rfl (by decide) ?_
                                refine wn_jp (pc' := 45) rfl rfl ?_
                                refine wn_weak (lv' := [(0, .ref (71)), (1, .int (nI (y9))), (2, .int (nI (t9))), (3, .int (nI ((nwI (fun x7 x8 => snW w y9 x7 x8 (nvW w)) i (nwO (fun x7 x8 => snW w y9 x7 x8 (nvW w)) (ntW w) i) k).1))), (4, .int ((nwI (fun x7 x8 => snW w y9 x7 x8 (nvW w)) i (nwO (fun x7 x8 => snW w y9 x7 x8 (nvW w)) (ntW w) i) k).2)), (5, .int (nI (i))), (6, .int (nI (i + 1 + k + 1)))]) (by simp) ?_
                                have z9 := ih_lp8 g38 (k + 1) (by omega) RT_g38 (by omega)
                                rw [show (nI ((nwI (fun x7 x8 => snW w y9 x7 x8 (nvW w)) i (nwO (fun x7 x8 => snW w y9 x7 x8 (nvW w)) (ntW w) i) (k + 1)).1)) = (nI ((nwI (fun x7 x8 => snW w y9 x7 x8 (nvW w)) i (nwO (fun x7 x8 => snW w y9 x7 x8 (nvW w)) (ntW w) i) k).1)) from (by exact (congrArg (fun q => nI q.1) (nwI_f (p := (fun x7 x8 => snW w y9 x7 x8 (nvW w))) (snW_m c43 (by omega)))).trans rfl)] at z9
                                rw [show ((nwI (fun x7 x8 => snW w y9 x7 x8 (nvW w)) i (nwO (fun x7 x8 => snW w y9 x7 x8 (nvW w)) (ntW w) i) (k + 1)).2) = ((nwI (fun x7 x8 => snW w y9 x7 x8 (nvW w)) i (nwO (fun x7 x8 => snW w y9 x7 x8 (nvW w)) (ntW w) i) k).2) from (by exact (congrArg Prod.snd (nwI_f (p := (fun x7 x8 => snW w y9 x7 x8 (nvW w))) (snW_m c43 (by omega)))).trans rfl)] at z9
                                rw [show (nI (i + 1 + (k + 1))) = (nI (i + 1 + k + 1)) from (by rfl)] at z9
                                exact z9
                            · have c43 : ¬ (snW w y9 i (i + 1 + k) v) := c43
                              refine wn_ld (pc' := 101) (q := 0) (kin := 2) (v := .ref (71)) rfl (fun _ _ _ => rfl) rfl rfl ?_
                              refine wn_ld (pc' := 103) (q := 8) (kin := 0) (v := .int (nI (v))) rfl (fun _ _ _ => rfl) rfl rfl ?_
                              refine wn_ld (pc' := 105) (q := 5) (kin := 0) (v := .int (nI (i))) rfl (fun _ _ _ => rfl) rfl rfl ?_
                              refine wn_ld (pc' := 106) (q := 1) (kin := 0) (v := .int (nI (y9))) rfl (fun _ _ _ => rfl) rfl rfl ?_
                              refine wn_virS (pc' := 109) rfl rfl (by decide) rfl rfl hM_g38 (Nat.le_of_ble_eq_true rfl) (m_fitsOne _ _ w hWf RT_g38.2.2.2 v i y9 (by omega) (by omega) (by omega)) (fun r9 h45 e46 => ?_)
                              obtain ⟨rfl, RQ_h45⟩ := e46
                              have RT_h45 := RQ.tr RT_g38 RQ_h45
                              obtain ⟨th_h45, tp_h45, sz_h45, at9_h45, fr_h45, tk_h45, vl_h45, fk_h45, fp_h45, il_h45, up_h45, lo_h45, hM_h45, hW_h45⟩ := RQ_h45.mh
                              show Wn _ _ 109 _ [.int (bI (fitW w y9 v i))] h45 _
                              refine wn_ifeqB (t := 128) (f := 112) rfl rfl rfl (fun c47 => ?_) (fun c47 => ?_)
                              · have c47 : ¬ (fitW w y9 v i) := c47
                                refine wn_ic (pc' := 129) (w := nI 0) rfl rfl (by decide) ?_
                                refine wn_st (pc' := 131) (q := 7) (kin := 0) (lv' := [(0, .ref (71)), (1, .int (nI (y9))), (2, .int (nI (t9))), (3, .int (nI ((nwI (fun x7 x8 => snW w y9 x7 x8 (nvW w)) i (nwO (fun x7 x8 => snW w y9 x7 x8 (nvW w)) (ntW w) i) k).1))), (4, .int ((nwI (fun x7 x8 => snW w y9 x7 x8 (nvW w)) i (nwO (fun x7 x8 => snW w y9 x7 x8 (nvW w)) (ntW w) i) k).2)), (5, .int (nI (i))), (6, .int (nI (i + 1 + k))), (7, .int (nI (0))), (8, .int (nI (v)))]) rfl (fun _ _ _ => rfl) rfl (Nat.le_of_ble_eq_true rfl) rfl ?_
                                refine wn_incN (n := 1) (pc' := 134) (lv' := [(0, .ref (71)), (1, .int (nI (y9))), (2, .int (nI (t9))), (3, .int (nI ((nwI (fun x7 x8 => snW w y9 x7 x8 (nvW w)) i (nwO (fun x7 x8 => snW w y9 x7 x8 (nvW w)) (ntW w) i) k).1))), (4, .int ((nwI (fun x7 x8 => snW w y9 x7 x8 (nvW w)) i (nwO (fun x7 x8 => snW w y9 x7 x8 (nvW w)) (ntW w) i) k).2)), (5, .int (nI (i))), (6, .int (nI (i + 1 + k))), (7, .int (nI (0))), (8, .int (nI (v + 1)))]) rfl rfl rfl (Nat.le_of_ble_eq_true rfl) rfl (by decide) ?_
                                refine wn_jp (pc' := 84) rfl rfl ?_
                                refine wn_weak (lv' := [(0, .ref (71)), (1, .int (nI (y9))), (2, .int (nI (t9))), (3, .int (nI ((nwI (fun x7 x8 => snW w y9 x7 x8 (nvW w)) i (nwO (fun x7 x8 => snW w y9 x7 x8 (nvW w)) (ntW w) i) k).1))), (4, .int ((nwI (fun x7 x8 => snW w y9 x7 x8 (nvW w)) i (nwO (fun x7 x8 => snW w y9 x7 x8 (nvW w)) (ntW w) i) k).2)), (5, .int (nI (i))), (6, .int (nI (i + 1 + k))), (7, .int (nI (0))), (8, .int (nI (v + 1)))]) (by simp) ?_
                                have z9 := ih_lp39 h45 (v + 1) (by omega) RT_h45 (by omega)
                                rw [show (bI (snW w y9 i (i + 1 + k) (v + 1))) = (nI (0)) from (by exact (bI_f0 (fun q => (snW_s.mp q).elim c43 (fun q => c47 q.1))).symm)] at z9
                                exact z9
                              · have c47 : (fitW w y9 v i) := c47
                                refine wn_ld (pc' := 113) (q := 0) (kin := 2) (v := .ref (71)) rfl (fun _ _ _ => rfl) rfl rfl ?_
                                refine wn_ld (pc' := 115) (q := 8) (kin := 0) (v := .int (nI (v))) rfl (fun _ _ _ => rfl) rfl rfl ?_
                                refine wn_ld (pc' := 117) (q := 6) (kin := 0) (v := .int (nI (i + 1 + k))) rfl (fun _ _ _ => rfl) rfl rfl ?_
                                refine wn_ld (pc' := 118) (q := 1) (kin := 0) (v := .int (nI (y9))) rfl (fun _ _ _ => rfl) rfl rfl ?_
                                refine wn_virS (pc' := 121) rfl rfl (by decide) rfl rfl hM_h45 (Nat.le_of_ble_eq_true rfl) (m_fitsOne _ _ w hWf RQ_h45.2.2.2 v (i + 1 + k) y9 (by omega) (by omega) (by omega)) (fun r9 h48 e49 => ?_)
                                obtain ⟨rfl, RQ_h48⟩ := e49
                                have RT_h48 := RQ.tr RT_h45 RQ_h48
                                obtain ⟨th_h48, tp_h48, sz_h48, at9_h48, fr_h48, tk_h48, vl_h48, fk_h48, fp_h48, il_h48, up_h48, lo_h48, hM_h48, hW_h48⟩ := RQ_h48.mh
                                show Wn _ _ 121 _ [.int (bI (fitW w y9 v (i + 1 + k)))] h48 _
                                refine wn_ifeqB (t := 128) (f := 124) rfl rfl rfl (fun c50 => ?_) (fun c50 => ?_)
                                · have c50 : ¬ (fitW w y9 v (i + 1 + k)) := c50
                                  refine wn_ic (pc' := 129) (w := nI 0) rfl rfl (by decide) ?_
                                  refine wn_st (pc' := 131) (q := 7) (kin := 0) (lv' := [(0, .ref (71)), (1, .int (nI (y9))), (2, .int (nI (t9))), (3, .int (nI ((nwI (fun x7 x8 => snW w y9 x7 x8 (nvW w)) i (nwO (fun x7 x8 => snW w y9 x7 x8 (nvW w)) (ntW w) i) k).1))), (4, .int ((nwI (fun x7 x8 => snW w y9 x7 x8 (nvW w)) i (nwO (fun x7 x8 => snW w y9 x7 x8 (nvW w)) (ntW w) i) k).2)), (5, .int (nI (i))), (6, .int (nI (i + 1 + k))), (7, .int (nI (0))), (8, .int (nI (v)))]) rfl (fun _ _ _ => rfl) rfl (Nat.le_of_ble_eq_true rfl) rfl ?_
                                  refine wn_incN (n := 1) (pc' := 134) (lv' := [(0, .ref (71)), (1, .int (nI (y9))), (2, .int (nI (t9))), (3, .int (nI ((nwI (fun x7 x8 => snW w y9 x7 x8 (nvW w)) i (nwO (fun x7 x8 => snW w y9 x7 x8 (nvW w)) (ntW w) i) k).1))), (4, .int ((nwI (fun x7 x8 => snW w y9 x7 x8 (nvW w)) i (nwO (fun x7 x8 => snW w y9 x7 x8 (nvW w)) (ntW w) i) k).2)), (5, .int (nI (i))), (6, .int (nI (i + 1 + k))), (7, .int (nI (0))), (8, .int (nI (v + 1)))]) rfl rfl rfl (Nat.le_of_ble_eq_true rfl) rfl (by decide) ?_
                                  refine wn_jp (pc' := 84) rfl rfl ?_
                                  refine wn_weak (lv' := [(0, .ref (71)), (1, .int (nI (y9))), (2, .int (nI (t9))), (3, .int (nI ((nwI (fun x7 x8 => snW w y9 x7 x8 (nvW w)) i (nwO (fun x7 x8 => snW w y9 x7 x8 (nvW w)) (ntW w) i) k).1))), (4, .int ((nwI (fun x7 x8 => snW w y9 x7 x8 (nvW w)) i (nwO (fun x7 x8 => snW w y9 x7 x8 (nvW w)) (ntW w) i) k).2)), (5, .int (nI (i))), (6, .int (nI (i + 1 + k))), (7, .int (nI (0))), (8, .int (nI (v + 1)))]) (by simp) ?_
                                  have z9 := ih_lp39 h48 (v + 1) (by omega) RT_h48 (by omega)
                                  rw [show (bI (snW w y9 i (i + 1 + k) (v + 1))) = (nI (0)) from (by exact (bI_f0 (fun q => (snW_s.mp q).elim c43 (fun q => c50 q.2))).symm)] at z9
                                  exact z9
                                · have c50 : (fitW w y9 v (i + 1 + k)) := c50
                                  refine wn_ic (pc' := 125) (w := nI 1) rfl rfl (by decide) ?_
                                  refine wn_jp (pc' := 129) rfl rfl ?_
                                  refine wn_st (pc' := 131) (q := 7) (kin := 0) (lv' := [(0, .ref (71)), (1, .int (nI (y9))), (2, .int (nI (t9))), (3, .int (nI ((nwI (fun x7 x8 => snW w y9 x7 x8 (nvW w)) i (nwO (fun x7 x8 => snW w y9 x7 x8 (nvW w)) (ntW w) i) k).1))), (4, .int ((nwI (fun x7 x8 => snW w y9 x7 x8 (nvW w)) i (nwO (fun x7 x8 => snW w y9 x7 x8 (nvW w)) (ntW w) i) k).2)), (5, .int (nI (i))), (6, .int (nI (i + 1 + k))), (7, .int (nI (1))), (8, .int (nI (v)))]) rfl (fun _ _ _ => rfl) rfl (Nat.le_of_ble_eq_true rfl) rfl ?_
                                  refine wn_incN (n := 1) (pc' := 134) (lv' := [(0, .ref (71)), (1, .int (nI (y9))), (2, .int (nI (t9))), (3, .int (nI ((nwI (fun x7 x8 => snW w y9 x7 x8 (nvW w)) i (nwO (fun x7 x8 => snW w y9 x7 x8 (nvW w)) (ntW w) i) k).1))), (4, .int ((nwI (fun x7 x8 => snW w y9 x7 x8 (nvW w)) i (nwO (fun x7 x8 => snW w y9 x7 x8 (nvW w)) (ntW w) i) k).2)), (5, .int (nI (i))), (6, .int (nI (i + 1 + k))), (7, .int (nI (1))), (8, .int (nI (v + 1)))]) rfl rfl rfl (Nat.le_of_ble_eq_true rfl) rfl (by decide) ?_
                                  refine wn_jp (pc' := 84) rfl rfl ?_
                                  refine wn_weak (lv' := [(0, .ref (71)), (1, .int (nI (y9))), (2, .int (nI (t9))), (3, .int (nI ((nwI (fun x7 x8 => snW w y9 x7 x8 (nvW w)) i (nwO (fun x7 x8 => snW w y9 x7 x8 (nvW w)) (ntW w) i) k).1))), (4, .int ((nwI (fun x7 x8 => snW w y9 x7 x8 (nvW w)) i (nwO (fun x7 x8 => snW w y9 x7 x8 (nvW w)) (ntW w) i) k).2)), (5, .int (nI (i))), (6, .int (nI (i + 1 + k))), (7, .int (nI (1))), (8, .int (nI (v + 1)))]) (by simp) ?_
                                  have z9 := ih_lp39 h48 (v + 1) (by omega) RT_h48 (by omega)
                                  rw [show (bI (snW w y9 i (i + 1 + k) (v + 1))) = (nI (1)) from (by exact (bI_t1 (snW_s.mpr (Or.inr ⟨c47, c50⟩))).symm)] at z9
                                  exact z9
                      refine wn_weak (lv' := [(0, .ref (71)), (1, .int (nI (y9))), (2, .int (nI (t9))), (3, .int (nI ((nwI (fun x7 x8 => snW w y9 x7 x8 (nvW w)) i (nwO (fun x7 x8 => snW w y9 x7 x8 (nvW w)) (ntW w) i) k).1))), (4, .int ((nwI (fun x7 x8 => snW w y9 x7 x8 (nvW w)) i (nwO (fun x7 x8 => snW w y9 x7 x8 (nvW w)) (ntW w) i) k).2)), (5, .int (nI (i))), (6, .int (nI (i + 1 + k))), (7, .int (nI (1))), (8, .int (nI (0)))]) (by simp) ?_
                      have z9 := lp39 ((nvW w) + 1) g7 0 (by omega) RT_g7 (by omega)
                      rw [show (bI (snW w y9 i (i + 1 + k) 0)) = (nI (1)) from (by exact (bI_t1 (Or.inl (Or.inr (Classical.not_not.mp c24)))).symm)] at z9
                      exact z9
            refine wn_weak (lv' := [(0, .ref (71)), (1, .int (nI (y9))), (2, .int (nI (t9))), (3, .int (nI ((nwO (fun x7 x8 => snW w y9 x7 x8 (nvW w)) (ntW w) i).1))), (4, .int ((nwO (fun x7 x8 => snW w y9 x7 x8 (nvW w)) (ntW w) i).2)), (5, .int (nI (i))), (6, .int (nI (i + 1)))]) (by simp) ?_
            have z9 := lp8 ((ntW w) + 1) g3 0 (by omega) RT_g3 (by omega)
            rw [show (nI ((nwI (fun x7 x8 => snW w y9 x7 x8 (nvW w)) i (nwO (fun x7 x8 => snW w y9 x7 x8 (nvW w)) (ntW w) i) 0).1)) = (nI ((nwO (fun x7 x8 => snW w y9 x7 x8 (nvW w)) (ntW w) i).1)) from (by rfl)] at z9
            rw [show ((nwI (fun x7 x8 => snW w y9 x7 x8 (nvW w)) i (nwO (fun x7 x8 => snW w y9 x7 x8 (nvW w)) (ntW w) i) 0).2) = ((nwO (fun x7 x8 => snW w y9 x7 x8 (nvW w)) (ntW w) i).2) from (by rfl)] at z9
            rw [show (nI (i + 1 + 0)) = (nI (i + 1)) from (by rfl)] at z9
            exact z9
      refine wn_weak (lv' := [(0, .ref (71)), (1, .int (nI (y9))), (2, .int (nI (t9))), (3, .int (nI (0))), (4, .int (-1)), (5, .int (nI (0)))]) (by simp) ?_
      have z9 := lp4 ((ntW w) + 1) h 0 (by omega) (RQ.rfl' HQ) (by omega)
      rw [show (nI ((nwO (fun x7 x8 => snW w y9 x7 x8 (nvW w)) (ntW w) 0).1)) = (nI (0)) from (by rfl)] at z9
      rw [show ((nwO (fun x7 x8 => snW w y9 x7 x8 (nvW w)) (ntW w) 0).2) = (-1) from (by rfl)] at z9
      exact z9
    · have c2 : ¬ (iin t 2) := c2
      refine wn_bp (pc' := 19) (w := -2) rfl rfl (by decide) ?_
      try simp only [Int32.lt_iff_toInt_lt, Int32.le_iff_toInt_le, i2l_int, Int32.toInt_zero, iin] at c1
      try simp only [Int32.lt_iff_toInt_lt, Int32.le_iff_toInt_le, i2l_int, Int32.toInt_zero, iin] at c2
      refine wn_iret rfl rfl rfl ⟨congrArg (fun z => some (Value.int z)) ?_, (RQ.rfl' HQ)⟩
      unfold nowhereA
      rw [qI_f (by simp only [iin]; omega)]

theorem m_mostlyOf (d : Nat) (h : aH) (w : Nat → Int32) (hWf : WfW w) (HM : MH h w) (v i : Nat) (hv : v < nvW w) (hi : i < ntW w) : Rn (d + 2) 222 [.ref (71), .int (nI (v)), .int (nI (i))] h (some (.int (oI (moW w v i)))) h 0 0 := by
  obtain ⟨⟨e1, e2⟩, ⟨e3, e4⟩, ⟨e5, e6⟩⟩ := Wf_n hWf
  obtain ⟨⟨e7, e8⟩, ⟨e9, e10⟩⟩ := Wf_m hWf
  obtain ⟨th, tp, sz, at9, fr, tk, vl, fk, fp, il, up, lo, hM, hW⟩ := id HM
  refine Rn_of (by decide) (Nat.le_of_ble_eq_true rfl) ?_
  show Wn _ _ 0 [(0, .ref (71)), (1, .int (nI (v))), (2, .int (nI (i)))] [] _ _
  refine wn_ic (pc' := 1) (w := -1) rfl rfl (by decide) ?_
  refine wn_st (pc' := 2) (q := 3) (kin := 0) (lv' := [(0, .ref (71)), (1, .int (nI (v))), (2, .int (nI (i))), (3, .int (-1))]) rfl (fun _ _ _ => rfl) rfl (Nat.le_of_ble_eq_true rfl) rfl ?_
  refine wn_ic (pc' := 3) (w := nI 4) rfl rfl (by decide) ?_
  refine wn_st (pc' := 5) (q := 4) (kin := 0) (lv' := [(0, .ref (71)), (1, .int (nI (v))), (2, .int (nI (i))), (3, .int (-1)), (4, .int (nI (4)))]) rfl (fun _ _ _ => rfl) rfl (Nat.le_of_ble_eq_true rfl) rfl ?_
  have lp1 : ∀ (n_lp1 : Nat) (k : Nat) (be : Int32), 5 + 1 ≤ (5 - k) + n_lp1 → k ≤ 5 → moI (nsF w v i) k be → Wn (Rn (d + 1)) 222 5 [(0, .ref (71)), (1, .int (nI (v))), (2, .int (nI (i))), (3, .int (be)), (4, .int (mI (k)))] [] (h) (fun r9 h9 => r9 = (some (.int (oI (moW w v i)))) ∧ h9 = h) := by
    intro n_lp1
    induction n_lp1 with
    | zero => intro k be hm_lp1 hk hB; exfalso; omega
    | succ n_lp1 ih_lp1 =>
      intro k be hm_lp1 hk hB
      refine wn_ld (pc' := 7) (q := 4) (kin := 0) (v := .int (mI (k))) rfl (fun _ _ _ => rfl) rfl rfl ?_
      refine wn_ifc (t := 53) (f := 10) rfl rfl rfl (fun c2 => ?_) (fun c2 => ?_)
      · have c2 : ((mI (k))) < 0 := c2
        refine wn_ld (pc' := 54) (q := 3) (kin := 0) (v := .int (be)) rfl (fun _ _ _ => rfl) rfl rfl ?_
        obtain rfl := mI_lt (by omega) c2
        exact wn_iret rfl rfl rfl ⟨congrArg (fun z => some (Value.int z)) (mo_e hB), rfl⟩
      · have c2 : 0 ≤ ((mI (k))) := c2
        obtain ⟨k, rfl⟩ := mI_ge (by omega) c2
        rw [mI_s]
        rcases hB with ⟨rfl, hz⟩ | ⟨b, rfl, hb, h0⟩
        · refine wn_ld (pc' := 11) (q := 0) (kin := 2) (v := .ref (71)) rfl (fun _ _ _ => rfl) rfl rfl ?_
          refine wn_ld (pc' := 12) (q := 1) (kin := 0) (v := .int (nI (v))) rfl (fun _ _ _ => rfl) rfl rfl ?_
          refine wn_ld (pc' := 13) (q := 2) (kin := 0) (v := .int (nI (i))) rfl (fun _ _ _ => rfl) rfl rfl ?_
          refine wn_ld (pc' := 15) (q := 4) (kin := 0) (v := .int (nI (k))) rfl (fun _ _ _ => rfl) rfl rfl ?_
          have := nsF_b hWf (show v < nvW w by omega) (show i < ntW w by omega) (show k < 5 by omega)
          refine wn_virI (pc' := 18) rfl rfl (by decide) rfl rfl hM (Nat.le_of_ble_eq_true rfl) (m_notesOf _ _ w HM v i k (by omega)) ?_
          rw [show 1476 + (v * 10 + i) * 5 + k = 1476 + ((v * 10 + i) * 5 + k) by omega, wf_ns hWf (show (v * 10 + i) * 5 + k < 1200 by omega)]
          show Wn _ _ _ _ (.int (nI (nsF w v i k)) :: _) _ _
          refine wn_ifN (t := 47) (f := 21) rfl rfl rfl (by omega) (fun c3 => ?_) (fun c3 => ?_)
          · have c3 : (nsF w v i k) ≤ 0 := c3
            refine wn_decN (pc' := 50) (lv' := [(0, .ref (71)), (1, .int (nI (v))), (2, .int (nI (i))), (3, .int (-1)), (4, .int (mI (k)))]) rfl rfl rfl (Nat.le_of_ble_eq_true rfl) rfl ?_
            refine wn_jp (pc' := 5) rfl rfl ?_
            refine wn_weak (lv' := [(0, .ref (71)), (1, .int (nI (v))), (2, .int (nI (i))), (3, .int (-1)), (4, .int (mI (k)))]) (by simp) ?_
            have z9 := ih_lp1 k ((-1)) (by omega) (by omega) (mo_0 hz (by omega))
            exact z9
          · have c3 : 0 < (nsF w v i k) := c3
            refine wn_ld (pc' := 22) (q := 3) (kin := 0) (v := .int (-1)) rfl (fun _ _ _ => rfl) rfl rfl ?_
            refine wn_ic (pc' := 23) (w := -1) rfl rfl (by decide) ?_
            refine wn_icmp (t := 44) (f := 26) rfl rfl rfl (fun c4 => ?_) (fun c4 => ?_)
            · have c4 : ((-1) : Int32) = ((-1)) := c4
              refine wn_ld (pc' := 46) (q := 4) (kin := 0) (v := .int (nI (k))) rfl (fun _ _ _ => rfl) rfl rfl ?_
              refine wn_st (pc' := 47) (q := 3) (kin := 0) (lv' := [(0, .ref (71)), (1, .int (nI (v))), (2, .int (nI (i))), (3, .int (nI (k))), (4, .int (nI (k)))]) rfl (fun _ _ _ => rfl) rfl (Nat.le_of_ble_eq_true rfl) rfl ?_
              refine wn_decN (pc' := 50) (lv' := [(0, .ref (71)), (1, .int (nI (v))), (2, .int (nI (i))), (3, .int (nI (k))), (4, .int (mI (k)))]) rfl rfl rfl (Nat.le_of_ble_eq_true rfl) rfl ?_
              refine wn_jp (pc' := 5) rfl rfl ?_
              refine wn_weak (lv' := [(0, .ref (71)), (1, .int (nI (v))), (2, .int (nI (i))), (3, .int (nI (k))), (4, .int (mI (k)))]) (by simp) ?_
              have z9 := ih_lp1 k ((nI (k))) (by omega) (by omega) (mo_1 (by omega) hz (by omega))
              exact z9
            · have c4 : ¬ ((-1) : Int32) = ((-1)) := c4
              exact absurd rfl c4
        · have hb2 := hb.2.1
          refine wn_ld (pc' := 11) (q := 0) (kin := 2) (v := .ref (71)) rfl (fun _ _ _ => rfl) rfl rfl ?_
          refine wn_ld (pc' := 12) (q := 1) (kin := 0) (v := .int (nI (v))) rfl (fun _ _ _ => rfl) rfl rfl ?_
          refine wn_ld (pc' := 13) (q := 2) (kin := 0) (v := .int (nI (i))) rfl (fun _ _ _ => rfl) rfl rfl ?_
          refine wn_ld (pc' := 15) (q := 4) (kin := 0) (v := .int (nI (k))) rfl (fun _ _ _ => rfl) rfl rfl ?_
          have := nsF_b hWf (show v < nvW w by omega) (show i < ntW w by omega) (show k < 5 by omega)
          refine wn_virI (pc' := 18) rfl rfl (by decide) rfl rfl hM (Nat.le_of_ble_eq_true rfl) (m_notesOf _ _ w HM v i k (by omega)) ?_
          rw [show 1476 + (v * 10 + i) * 5 + k = 1476 + ((v * 10 + i) * 5 + k) by omega, wf_ns hWf (show (v * 10 + i) * 5 + k < 1200 by omega)]
          show Wn _ _ _ _ (.int (nI (nsF w v i k)) :: _) _ _
          refine wn_ifN (t := 47) (f := 21) rfl rfl rfl (by omega) (fun c5 => ?_) (fun c5 => ?_)
          · have c5 : (nsF w v i k) ≤ 0 := c5
            refine wn_decN (pc' := 50) (lv' := [(0, .ref (71)), (1, .int (nI (v))), (2, .int (nI (i))), (3, .int (nI (b))), (4, .int (mI (k)))]) rfl rfl rfl (Nat.le_of_ble_eq_true rfl) rfl ?_
            refine wn_jp (pc' := 5) rfl rfl ?_
            refine wn_weak (lv' := [(0, .ref (71)), (1, .int (nI (v))), (2, .int (nI (i))), (3, .int (nI (b))), (4, .int (mI (k)))]) (by simp) ?_
            have z9 := ih_lp1 k ((nI (b))) (by omega) (by omega) (mo_f hb h0 (by omega))
            exact z9
          · have c5 : 0 < (nsF w v i k) := c5
            refine wn_ld (pc' := 22) (q := 3) (kin := 0) (v := .int (nI (b))) rfl (fun _ _ _ => rfl) rfl rfl ?_
            refine wn_ic (pc' := 23) (w := -1) rfl rfl (by decide) ?_
            refine wn_icmp (t := 44) (f := 26) rfl rfl rfl (fun c6 => ?_) (fun c6 => ?_)
            · have c6 : ((nI (b))) = ((-1)) := c6
              exact absurd c6 (nI_m1 (by omega))
            · have c6 : ¬ ((nI (b))) = ((-1)) := c6
              refine wn_ld (pc' := 27) (q := 0) (kin := 2) (v := .ref (71)) rfl (fun _ _ _ => rfl) rfl rfl ?_
              refine wn_ld (pc' := 28) (q := 1) (kin := 0) (v := .int (nI (v))) rfl (fun _ _ _ => rfl) rfl rfl ?_
              refine wn_ld (pc' := 29) (q := 2) (kin := 0) (v := .int (nI (i))) rfl (fun _ _ _ => rfl) rfl rfl ?_
              refine wn_ld (pc' := 31) (q := 4) (kin := 0) (v := .int (nI (k))) rfl (fun _ _ _ => rfl) rfl rfl ?_
              have := nsF_b hWf (show v < nvW w by omega) (show i < ntW w by omega) (show k < 5 by omega)
              refine wn_virI (pc' := 34) rfl rfl (by decide) rfl rfl hM (Nat.le_of_ble_eq_true rfl) (m_notesOf _ _ w HM v i k (by omega)) ?_
              rw [show 1476 + (v * 10 + i) * 5 + k = 1476 + ((v * 10 + i) * 5 + k) by omega, wf_ns hWf (show (v * 10 + i) * 5 + k < 1200 by omega)]
              show Wn _ _ _ _ (.int (nI (nsF w v i k)) :: _) _ _
              refine wn_ld (pc' := 35) (q := 0) (kin := 2) (v := .ref (71)) rfl (fun _ _ _ => rfl) rfl rfl ?_
              refine wn_ld (pc' := 36) (q := 1) (kin := 0) (v := .int (nI (v))) rfl (fun _ _ _ => rfl) rfl rfl ?_
              refine wn_ld (pc' := 37) (q := 2) (kin := 0) (v := .int (nI (i))) rfl (fun _ _ _ => rfl) rfl rfl ?_
              refine wn_ld (pc' := 38) (q := 3) (kin := 0) (v := .int (nI (b))) rfl (fun _ _ _ => rfl) rfl rfl ?_
              have := nsF_b hWf (show v < nvW w by omega) (show i < ntW w by omega) (show b < 5 by omega)
              refine wn_virI (pc' := 41) rfl rfl (by decide) rfl rfl hM (Nat.le_of_ble_eq_true rfl) (m_notesOf _ _ w HM v i b (by omega)) ?_
              rw [show 1476 + (v * 10 + i) * 5 + b = 1476 + ((v * 10 + i) * 5 + b) by omega, wf_ns hWf (show (v * 10 + i) * 5 + b < 1200 by omega)]
              show Wn _ _ _ _ (.int (nI (nsF w v i b)) :: _) _ _
              refine wn_icmpN (t := 47) (f := 44) rfl rfl rfl (by omega) (by omega) (fun c7 => ?_) (fun c7 => ?_)
              · have c7 : (nsF w v i k) < (nsF w v i b) := c7
                refine wn_decN (pc' := 50) (lv' := [(0, .ref (71)), (1, .int (nI (v))), (2, .int (nI (i))), (3, .int (nI (b))), (4, .int (mI (k)))]) rfl rfl rfl (Nat.le_of_ble_eq_true rfl) rfl ?_
                refine wn_jp (pc' := 5) rfl rfl ?_
                refine wn_weak (lv' := [(0, .ref (71)), (1, .int (nI (v))), (2, .int (nI (i))), (3, .int (nI (b))), (4, .int (mI (k)))]) (by simp) ?_
                have z9 := ih_lp1 k ((nI (b))) (by omega) (by omega) (mo_f hb h0 (by omega))
                exact z9
              · have c7 : (nsF w v i b) ≤ (nsF w v i k) := c7
                refine wn_ld (pc' := 46) (q := 4) (kin := 0) (v := .int (nI (k))) rfl (fun _ _ _ => rfl) rfl rfl ?_
                refine wn_st (pc' := 47) (q := 3) (kin := 0) (lv' := [(0, .ref (71)), (1, .int (nI (v))), (2, .int (nI (i))), (3, .int (nI (k))), (4, .int (nI (k)))]) rfl (fun _ _ _ => rfl) rfl (Nat.le_of_ble_eq_true rfl) rfl ?_
                refine wn_decN (pc' := 50) (lv' := [(0, .ref (71)), (1, .int (nI (v))), (2, .int (nI (i))), (3, .int (nI (k))), (4, .int (mI (k)))]) rfl rfl rfl (Nat.le_of_ble_eq_true rfl) rfl ?_
                refine wn_jp (pc' := 5) rfl rfl ?_
                refine wn_weak (lv' := [(0, .ref (71)), (1, .int (nI (v))), (2, .int (nI (i))), (3, .int (nI (k))), (4, .int (mI (k)))]) (by simp) ?_
                have z9 := ih_lp1 k ((nI (k))) (by omega) (by omega) (mo_t hb h0 (by omega))
                exact z9
  refine wn_weak (lv' := [(0, .ref (71)), (1, .int (nI (v))), (2, .int (nI (i))), (3, .int (-1)), (4, .int (nI (4)))]) (by simp) ?_
  have z9 := lp1 (5 + 1) 5 (-1) (by omega) (by omega) (Or.inl ⟨rfl, fun a h1 h2 => by omega⟩)
  rw [show (mI (5)) = (nI (4)) from (by decide)] at z9
  exact z9

noncomputable def mostlyA (w : Nat → Int32) (v i : Int32) : Int32 := qI (iin v (nvW w) ∧ iin i (ntW w)) (oI (moW w v.toNatClampNeg i.toNatClampNeg)) (-2)
theorem m_mostly (d : Nat) (h : aH) (w : Nat → Int32) (hWf : WfW w) (HQ : MQs h w) (v i : Int32) : Sp (Rn (d + 3)) 223 [.ref (71), .int (v), .int (i)] h (fun r9 h9 => r9 = some (.int (mostlyA w v i)) ∧ RQ h h9 w) := by
  obtain ⟨⟨e1, e2⟩, ⟨e3, e4⟩, ⟨e5, e6⟩⟩ := Wf_n hWf
  obtain ⟨⟨e7, e8⟩, ⟨e9, e10⟩⟩ := Wf_m hWf
  have p2b := stN_le hWf
  obtain ⟨th, tp, sz, at9, fr, tk, vl, fk, fp, il, up, lo, sa9, tn, q0, q1, q2, q3, q4⟩ := id HQ
  refine Sp_of (by decide) (Nat.le_of_ble_eq_true rfl) ?_
  show Wn _ _ 0 [(0, .ref (71)), (1, .int (v)), (2, .int (i))] [] _ _
  refine wn_ld (pc' := 1) (q := 0) (kin := 2) (v := .ref (71)) rfl (fun _ _ _ => rfl) rfl rfl ?_
  refine wn_ld (pc' := 2) (q := 1) (kin := 0) (v := .int (v)) rfl (fun _ _ _ => rfl) rfl rfl ?_
  refine wn_virI (pc' := 5) rfl rfl (by decide) rfl rfl q0 (Nat.le_of_ble_eq_true rfl) (m_isVillage _ _ w HQ.mh _ e1 (by omega) _) ?_
  refine wn_ifeqB (t := 25) (f := 8) rfl rfl rfl (fun c1 => ?_) (fun c1 => ?_)
  · have c1 : ¬ (iin v (nvW w)) := c1
    refine wn_bp (pc' := 27) (w := -2) rfl rfl (by decide) ?_
    try simp only [Int32.lt_iff_toInt_lt, Int32.le_iff_toInt_le, i2l_int, Int32.toInt_zero, iin] at c1
    refine wn_iret rfl rfl rfl ⟨congrArg (fun z => some (Value.int z)) ?_, (RQ.rfl' HQ)⟩
    unfold mostlyA
    rw [qI_f (by simp only [iin]; omega)]
  · have c1 : (iin v (nvW w)) := c1
    obtain ⟨v9, hv9, rfl⟩ := iin_of c1
    have ti_v := nI_toInt (n := v9) (show v9 < 2 ^ 31 by omega)
    have cl_v := nI_clamp (n := v9) (show v9 < 2 ^ 31 by omega)
    refine wn_ld (pc' := 9) (q := 0) (kin := 2) (v := .ref (71)) rfl (fun _ _ _ => rfl) rfl rfl ?_
    refine wn_ld (pc' := 10) (q := 2) (kin := 0) (v := .int (i)) rfl (fun _ _ _ => rfl) rfl rfl ?_
    refine wn_virI (pc' := 13) rfl rfl (by decide) rfl rfl q0 (Nat.le_of_ble_eq_true rfl) (m_isItem _ _ w HQ.mh _ e5 (by omega) _) ?_
    refine wn_ifeqB (t := 25) (f := 16) rfl rfl rfl (fun c2 => ?_) (fun c2 => ?_)
    · have c2 : ¬ (iin i (ntW w)) := c2
      refine wn_bp (pc' := 27) (w := -2) rfl rfl (by decide) ?_
      try simp only [Int32.lt_iff_toInt_lt, Int32.le_iff_toInt_le, i2l_int, Int32.toInt_zero, iin] at c1
      try simp only [Int32.lt_iff_toInt_lt, Int32.le_iff_toInt_le, i2l_int, Int32.toInt_zero, iin] at c2
      refine wn_iret rfl rfl rfl ⟨congrArg (fun z => some (Value.int z)) ?_, (RQ.rfl' HQ)⟩
      unfold mostlyA
      rw [qI_f (by simp only [iin]; omega)]
    · have c2 : (iin i (ntW w)) := c2
      obtain ⟨i9, hi9, rfl⟩ := iin_of c2
      have ti_i := nI_toInt (n := i9) (show i9 < 2 ^ 31 by omega)
      have cl_i := nI_clamp (n := i9) (show i9 < 2 ^ 31 by omega)
      refine wn_ld (pc' := 17) (q := 0) (kin := 2) (v := .ref (71)) rfl (fun _ _ _ => rfl) rfl rfl ?_
      refine wn_ld (pc' := 18) (q := 1) (kin := 0) (v := .int (nI (v9))) rfl (fun _ _ _ => rfl) rfl rfl ?_
      refine wn_ld (pc' := 19) (q := 2) (kin := 0) (v := .int (nI (i9))) rfl (fun _ _ _ => rfl) rfl rfl ?_
      refine wn_virI (pc' := 22) rfl rfl (by decide) rfl rfl q0 (Nat.le_of_ble_eq_true rfl) (m_mostlyOf _ _ w hWf HQ.mh v9 i9 (by omega) (by omega)) ?_
      refine wn_jp (pc' := 27) rfl rfl ?_
      try simp only [Int32.lt_iff_toInt_lt, Int32.le_iff_toInt_le, i2l_int, Int32.toInt_zero, iin] at c1
      try simp only [Int32.lt_iff_toInt_lt, Int32.le_iff_toInt_le, i2l_int, Int32.toInt_zero, iin] at c2
      refine wn_iret rfl rfl rfl ⟨congrArg (fun z => some (Value.int z)) ?_, (RQ.rfl' HQ)⟩
      unfold mostlyA
      rw [qI_t (by simp only [iin]; omega)]
      first | rfl | (simp only [cl_v, cl_i]; done) | (simp only [cl_v, cl_i]; rfl)

noncomputable def offA (w : Nat → Int32) (i y : Int32) : Int32 := qI (iin i (ntW w) ∧ iin y 61) (bitP (fun v => (¬ (oI (moW w v i.toNatClampNeg) = -1)) ∧ (¬ (oI (moW w v i.toNatClampNeg) = nI (sdW w y.toNatClampNeg v i.toNatClampNeg)))) (nvW w)) (-2)
theorem m_off (d : Nat) (h : aH) (w : Nat → Int32) (hWf : WfW w) (HQ : MQs h w) (i y : Int32) : Sp (Rn (d + 9)) 224 [.ref (71), .int (i), .int (y)] h (fun r9 h9 => r9 = some (.int (offA w i y)) ∧ RQ h h9 w) := by
  obtain ⟨⟨e1, e2⟩, ⟨e3, e4⟩, ⟨e5, e6⟩⟩ := Wf_n hWf
  obtain ⟨⟨e7, e8⟩, ⟨e9, e10⟩⟩ := Wf_m hWf
  have p2b := stN_le hWf
  obtain ⟨th, tp, sz, at9, fr, tk, vl, fk, fp, il, up, lo, sa9, tn, q0, q1, q2, q3, q4⟩ := id HQ
  refine Sp_of (by decide) (Nat.le_of_ble_eq_true rfl) ?_
  show Wn _ _ 0 [(0, .ref (71)), (1, .int (i)), (2, .int (y))] [] _ _
  refine wn_ld (pc' := 1) (q := 0) (kin := 2) (v := .ref (71)) rfl (fun _ _ _ => rfl) rfl rfl ?_
  refine wn_ld (pc' := 2) (q := 1) (kin := 0) (v := .int (i)) rfl (fun _ _ _ => rfl) rfl rfl ?_
  refine wn_virI (pc' := 5) rfl rfl (by decide) rfl rfl q0 (Nat.le_of_ble_eq_true rfl) (m_isItem _ _ w HQ.mh _ e5 (by omega) _) ?_
  refine wn_ifeqB (t := 15) (f := 8) rfl rfl rfl (fun c1 => ?_) (fun c1 => ?_)
  · have c1 : ¬ (iin i (ntW w)) := c1
    refine wn_bp (pc' := 17) (w := -2) rfl rfl (by decide) ?_
    try simp only [Int32.lt_iff_toInt_lt, Int32.le_iff_toInt_le, i2l_int, Int32.toInt_zero, iin] at c1
    refine wn_iret rfl rfl rfl ⟨congrArg (fun z => some (Value.int z)) ?_, (RQ.rfl' HQ)⟩
    unfold offA
    rw [qI_f (by simp only [iin]; omega)]
  · have c1 : (iin i (ntW w)) := c1
    obtain ⟨i9, hi9, rfl⟩ := iin_of c1
    have ti_i := nI_toInt (n := i9) (show i9 < 2 ^ 31 by omega)
    have cl_i := nI_clamp (n := i9) (show i9 < 2 ^ 31 by omega)
    refine wn_ld (pc' := 9) (q := 2) (kin := 0) (v := .int (y)) rfl (fun _ _ _ => rfl) rfl rfl ?_
    refine wn_staI (pc' := 12) rfl rfl (by decide) rfl rfl (Nat.le_of_ble_eq_true rfl) (m_isYear _ _ _) ?_
    refine wn_ifneB (t := 18) (f := 15) rfl rfl rfl (fun c2 => ?_) (fun c2 => ?_)
    · have c2 : (iin y 61) := c2
      obtain ⟨y9, hy9, rfl⟩ := iin_of c2
      have ti_y := nI_toInt (n := y9) (show y9 < 2 ^ 31 by omega)
      have cl_y := nI_clamp (n := y9) (show y9 < 2 ^ 31 by omega)
      refine wn_ic (pc' := 19) (w := nI 0) rfl rfl (by decide) ?_
      refine wn_st (pc' := 20) (q := 3) (kin := 0) (lv' := [(0, .ref (71)), (1, .int (nI (i9))), (2, .int (nI (y9))), (3, .int (nI (0)))]) rfl (fun _ _ _ => rfl) rfl (Nat.le_of_ble_eq_true rfl) rfl ?_
      refine wn_ic (pc' := 21) (w := nI 0) rfl rfl (by decide) ?_
      refine wn_st (pc' := 23) (q := 4) (kin := 0) (lv' := [(0, .ref (71)), (1, .int (nI (i9))), (2, .int (nI (y9))), (3, .int (nI (0))), (4, .int (nI (0)))]) rfl (fun _ _ _ => rfl) rfl (Nat.le_of_ble_eq_true rfl) rfl ?_
      have lp4 : ∀ (n_lp4 : Nat) (g3 : aH) (v : Nat), (nvW w) + 1 ≤ v + n_lp4 → RQ h g3 w → v ≤ nvW w → Wn (Rn (d + 8)) 224 23 [(0, .ref (71)), (1, .int (nI (i9))), (2, .int (nI (y9))), (3, .int (bitP (fun x7 => (¬ (oI (moW w x7 i9) = -1)) ∧ (¬ (oI (moW w x7 i9) = nI (sdW w y9 x7 i9)))) v)), (4, .int (nI (v)))] [] (g3) (fun r9 h9 => r9 = some (.int (offA w (nI i9) (nI y9))) ∧ RQ h h9 w) := by
        intro n_lp4
        induction n_lp4 with
        | zero => intro g3 v hm_lp4 RT_g3 hk_v; exfalso; omega
        | succ n_lp4 ih_lp4 =>
          intro g3 v hm_lp4 RT_g3 hk_v
          obtain ⟨th_g3, tp_g3, sz_g3, at9_g3, fr_g3, tk_g3, vl_g3, fk_g3, fp_g3, il_g3, up_g3, lo_g3, hM_g3, hW_g3⟩ := RT_g3.mh
          refine wn_ld (pc' := 25) (q := 4) (kin := 0) (v := .int (nI (v))) rfl (fun _ _ _ => rfl) rfl rfl ?_
          refine wn_ld (pc' := 26) (q := 0) (kin := 2) (v := .ref (71)) rfl (fun _ _ _ => rfl) rfl rfl ?_
          refine wn_get (pc' := 29) (v := .ref (72)) rfl rfl hM_g3 rfl ?_
          refine wn_ic (pc' := 30) (w := nI 1) rfl rfl (by decide) ?_
          refine wn_ialdv (pc' := 31) (j := 1) (v := (nI (nvW w))) rfl rfl hW_g3 rfl (by omega) (by decide) (e1) ?_
          refine wn_icmpN (t := 80) (f := 34) rfl rfl rfl (by omega) (by omega) (fun c5 => ?_) (fun c5 => ?_)
          · have c5 : (nvW w) ≤ v := c5
            obtain rfl : v = nvW w := by omega
            refine wn_ld (pc' := 81) (q := 3) (kin := 0) (v := .int (bitP (fun x7 => (¬ (oI (moW w x7 i9) = -1)) ∧ (¬ (oI (moW w x7 i9) = nI (sdW w y9 x7 i9)))) (nvW w))) rfl (fun _ _ _ => rfl) rfl rfl ?_
            try simp only [Int32.lt_iff_toInt_lt, Int32.le_iff_toInt_le, i2l_int, Int32.toInt_zero, iin] at c1
            try simp only [Int32.lt_iff_toInt_lt, Int32.le_iff_toInt_le, i2l_int, Int32.toInt_zero, iin] at c2
            refine wn_iret rfl rfl rfl ⟨congrArg (fun z => some (Value.int z)) ?_, RT_g3⟩
            unfold offA
            rw [qI_t (by simp only [iin]; omega)]
            first | rfl | (simp only [cl_i, cl_y]; done) | (simp only [cl_i, cl_y]; rfl)
          · have c5 : v < (nvW w) := c5
            refine wn_ld (pc' := 35) (q := 3) (kin := 0) (v := .int (bitP (fun x7 => (¬ (oI (moW w x7 i9) = -1)) ∧ (¬ (oI (moW w x7 i9) = nI (sdW w y9 x7 i9)))) v)) rfl (fun _ _ _ => rfl) rfl rfl ?_
            refine wn_ld (pc' := 36) (q := 0) (kin := 2) (v := .ref (71)) rfl (fun _ _ _ => rfl) rfl rfl ?_
            refine wn_ld (pc' := 38) (q := 4) (kin := 0) (v := .int (nI (v))) rfl (fun _ _ _ => rfl) rfl rfl ?_
            refine wn_ld (pc' := 39) (q := 1) (kin := 0) (v := .int (nI (i9))) rfl (fun _ _ _ => rfl) rfl rfl ?_
            refine wn_virI (pc' := 42) rfl rfl (by decide) rfl rfl hM_g3 (Nat.le_of_ble_eq_true rfl) (m_mostlyOf _ _ w hWf RT_g3.mh v i9 (by omega) (by omega)) ?_
            refine wn_ic (pc' := 43) (w := -1) rfl rfl (by decide) ?_
            refine wn_icmp (t := 71) (f := 46) rfl rfl rfl (fun c6 => ?_) (fun c6 => ?_)
            · have c6 : ((oI (moW w v i9))) = ((-1)) := c6
              refine wn_ic (pc' := 72) (w := nI 0) rfl rfl (by decide) ?_
              refine wn_pu (pc' := 73) (st' := [.int ((bitP (fun x7 => (¬ (oI (moW w x7 i9) = -1)) ∧ (¬ (oI (moW w x7 i9) = nI (sdW w y9 x7 i9)))) v) ||| (nI (0)))]) rfl (fun _ _ _ => rfl) rfl rfl ?_
              refine wn_st (pc' := 74) (q := 3) (kin := 0) (lv' := [(0, .ref (71)), (1, .int (nI (i9))), (2, .int (nI (y9))), (3, .int ((bitP (fun x7 => (¬ (oI (moW w x7 i9) = -1)) ∧ (¬ (oI (moW w x7 i9) = nI (sdW w y9 x7 i9)))) v) ||| (nI (0)))), (4, .int (nI (v)))]) rfl (fun _ _ _ => rfl) rfl (Nat.le_of_ble_eq_true rfl) rfl ?_
              refine wn_incN (n := 1) (pc' := 77) (lv' := [(0, .ref (71)), (1, .int (nI (i9))), (2, .int (nI (y9))), (3, .int ((bitP (fun x7 => (¬ (oI (moW w x7 i9) = -1)) ∧ (¬ (oI (moW w x7 i9) = nI (sdW w y9 x7 i9)))) v) ||| (nI (0)))), (4, .int (nI (v + 1)))]) rfl rfl rfl (Nat.le_of_ble_eq_true rfl) rfl (by decide) ?_
              refine wn_jp (pc' := 23) rfl rfl ?_
              refine wn_weak (lv' := [(0, .ref (71)), (1, .int (nI (i9))), (2, .int (nI (y9))), (3, .int ((bitP (fun x7 => (¬ (oI (moW w x7 i9) = -1)) ∧ (¬ (oI (moW w x7 i9) = nI (sdW w y9 x7 i9)))) v) ||| (nI (0)))), (4, .int (nI (v + 1)))]) (by simp) ?_
              have z9 := ih_lp4 g3 (v + 1) (by omega) RT_g3 (by omega)
              rw [show (bitP (fun x7 => (¬ (oI (moW w x7 i9) = -1)) ∧ (¬ (oI (moW w x7 i9) = nI (sdW w y9 x7 i9)))) (v + 1)) = ((bitP (fun x7 => (¬ (oI (moW w x7 i9) = -1)) ∧ (¬ (oI (moW w x7 i9) = nI (sdW w y9 x7 i9)))) v) ||| (nI (0))) from (by exact bitP_f0 (p := fun x7 => (¬ (oI (moW w x7 i9) = -1)) ∧ (¬ (oI (moW w x7 i9) = nI (sdW w y9 x7 i9)))) (fun q8 => (fun q9 => q9 c6) q8.1))] at z9
              exact z9
            · have c6 : ¬ ((oI (moW w v i9))) = ((-1)) := c6
              refine wn_ld (pc' := 47) (q := 0) (kin := 2) (v := .ref (71)) rfl (fun _ _ _ => rfl) rfl rfl ?_
              refine wn_ld (pc' := 49) (q := 4) (kin := 0) (v := .int (nI (v))) rfl (fun _ _ _ => rfl) rfl rfl ?_
              refine wn_ld (pc' := 50) (q := 1) (kin := 0) (v := .int (nI (i9))) rfl (fun _ _ _ => rfl) rfl rfl ?_
              refine wn_virI (pc' := 53) rfl rfl (by decide) rfl rfl hM_g3 (Nat.le_of_ble_eq_true rfl) (m_mostlyOf _ _ w hWf RT_g3.mh v i9 (by omega) (by omega)) ?_
              refine wn_ld (pc' := 54) (q := 0) (kin := 2) (v := .ref (71)) rfl (fun _ _ _ => rfl) rfl rfl ?_
              refine wn_ld (pc' := 56) (q := 4) (kin := 0) (v := .int (nI (v))) rfl (fun _ _ _ => rfl) rfl rfl ?_
              refine wn_ld (pc' := 57) (q := 1) (kin := 0) (v := .int (nI (i9))) rfl (fun _ _ _ => rfl) rfl rfl ?_
              refine wn_ld (pc' := 58) (q := 2) (kin := 0) (v := .int (nI (y9))) rfl (fun _ _ _ => rfl) rfl rfl ?_
              have := sdW_5 hWf (y := y9) (show v < nvW w by omega) (show i9 < ntW w by omega)
              refine wn_virS (pc' := 61) rfl rfl (by decide) rfl rfl hM_g3 (Nat.le_of_ble_eq_true rfl) (m_saidIn _ _ w hWf RT_g3.2.2.2 v i9 y9 (by omega) (by omega) (by omega)) (fun r9 h7 e8 => ?_)
              obtain ⟨rfl, RQ_h7⟩ := e8
              have RT_h7 := RQ.tr RT_g3 RQ_h7
              obtain ⟨th_h7, tp_h7, sz_h7, at9_h7, fr_h7, tk_h7, vl_h7, fk_h7, fp_h7, il_h7, up_h7, lo_h7, hM_h7, hW_h7⟩ := RQ_h7.mh
              show Wn _ _ 61 _ [.int (nI (sdW w y9 v i9)), .int (oI (moW w v i9)), .int (bitP (fun x7 => (¬ (oI (moW w x7 i9) = -1)) ∧ (¬ (oI (moW w x7 i9) = nI (sdW w y9 x7 i9)))) v)] h7 _
              refine wn_icmp (t := 71) (f := 64) rfl rfl rfl (fun c9 => ?_) (fun c9 => ?_)
              · have c9 : ((oI (moW w v i9))) = ((nI (sdW w y9 v i9))) := c9
                refine wn_ic (pc' := 72) (w := nI 0) rfl rfl (by decide) ?_
                refine wn_pu (pc' := 73) (st' := [.int ((bitP (fun x7 => (¬ (oI (moW w x7 i9) = -1)) ∧ (¬ (oI (moW w x7 i9) = nI (sdW w y9 x7 i9)))) v) ||| (nI (0)))]) rfl (fun _ _ _ => rfl) rfl rfl ?_
                refine wn_st (pc' := 74) (q := 3) (kin := 0) (lv' := [(0, .ref (71)), (1, .int (nI (i9))), (2, .int (nI (y9))), (3, .int ((bitP (fun x7 => (¬ (oI (moW w x7 i9) = -1)) ∧ (¬ (oI (moW w x7 i9) = nI (sdW w y9 x7 i9)))) v) ||| (nI (0)))), (4, .int (nI (v)))]) rfl (fun _ _ _ => rfl) rfl (Nat.le_of_ble_eq_true rfl) rfl ?_
                refine wn_incN (n := 1) (pc' := 77) (lv' := [(0, .ref (71)), (1, .int (nI (i9))), (2, .int (nI (y9))), (3, .int ((bitP (fun x7 => (¬ (oI (moW w x7 i9) = -1)) ∧ (¬ (oI (moW w x7 i9) = nI (sdW w y9 x7 i9)))) v) ||| (nI (0)))), (4, .int (nI (v + 1)))]) rfl rfl rfl (Nat.le_of_ble_eq_true rfl) rfl (by decide) ?_
                refine wn_jp (pc' := 23) rfl rfl ?_
                refine wn_weak (lv' := [(0, .ref (71)), (1, .int (nI (i9))), (2, .int (nI (y9))), (3, .int ((bitP (fun x7 => (¬ (oI (moW w x7 i9) = -1)) ∧ (¬ (oI (moW w x7 i9) = nI (sdW w y9 x7 i9)))) v) ||| (nI (0)))), (4, .int (nI (v + 1)))]) (by simp) ?_
                have z9 := ih_lp4 h7 (v + 1) (by omega) RT_h7 (by omega)
                rw [show (bitP (fun x7 => (¬ (oI (moW w x7 i9) = -1)) ∧ (¬ (oI (moW w x7 i9) = nI (sdW w y9 x7 i9)))) (v + 1)) = ((bitP (fun x7 => (¬ (oI (moW w x7 i9) = -1)) ∧ (¬ (oI (moW w x7 i9) = nI (sdW w y9 x7 i9)))) v) ||| (nI (0))) from (by exact bitP_f0 (p := fun x7 => (¬ (oI (moW w x7 i9) = -1)) ∧ (¬ (oI (moW w x7 i9) = nI (sdW w y9 x7 i9)))) (fun q8 => (fun q9 => q9 c9) q8.2))] at z9
                exact z9
              · have c9 : ¬ ((oI (moW w v i9))) = ((nI (sdW w y9 v i9))) := c9
                refine wn_ic (pc' := 65) (w := nI 1) rfl rfl (by decide) ?_
                refine wn_ld (pc' := 67) (q := 4) (kin := 0) (v := .int (nI (v))) rfl (fun _ _ _ => rfl) rfl rfl ?_
                refine wn_pu (pc' := 68) (st' := [.int ((nI (1)) <<< ((nI (v)) &&& 31)), .int (bitP (fun x7 => (¬ (oI (moW w x7 i9) = -1)) ∧ (¬ (oI (moW w x7 i9) = nI (sdW w y9 x7 i9)))) v)]) rfl (fun _ _ _ => rfl) rfl rfl ?_
                refine wn_jp (pc' := 72) rfl rfl ?_
                refine wn_pu (pc' := 73) (st' := [.int ((bitP (fun x7 => (¬ (oI (moW w x7 i9) = -1)) ∧ (¬ (oI (moW w x7 i9) = nI (sdW w y9 x7 i9)))) v) ||| ((nI (1)) <<< ((nI (v)) &&& 31)))]) rfl (fun _ _ _ => rfl) rfl rfl ?_
                refine wn_st (pc' := 74) (q := 3) (kin := 0) (lv' := [(0, .ref (71)), (1, .int (nI (i9))), (2, .int (nI (y9))), (3, .int ((bitP (fun x7 => (¬ (oI (moW w x7 i9) = -1)) ∧ (¬ (oI (moW w x7 i9) = nI (sdW w y9 x7 i9)))) v) ||| ((nI (1)) <<< ((nI (v)) &&& 31)))), (4, .int (nI (v)))]) rfl (fun _ _ _ => rfl) rfl (Nat.le_of_ble_eq_true rfl) rfl ?_
                refine wn_incN (n := 1) (pc' := 77) (lv' := [(0, .ref (71)), (1, .int (nI (i9))), (2, .int (nI (y9))), (3, .int ((bitP (fun x7 => (¬ (oI (moW w x7 i9) = -1)) ∧ (¬ (oI (moW w x7 i9) = nI (sdW w y9 x7 i9)))) v) ||| ((nI (1)) <<< ((nI (v)) &&& 31)))), (4, .int (nI (v + 1)))]) rfl rfl rfl (Nat.le_of_ble_eq_true rfl) rfl (by decide) ?_
                refine wn_jp (pc' := 23) rfl rfl ?_
                refine wn_weak (lv' := [(0, .ref (71)), (1, .int (nI (i9))), (2, .int (nI (y9))), (3, .int ((bitP (fun x7 => (¬ (oI (moW w x7 i9) = -1)) ∧ (¬ (oI (moW w x7 i9) = nI (sdW w y9 x7 i9)))) v) ||| ((nI (1)) <<< ((nI (v)) &&& 31)))), (4, .int (nI (v + 1)))]) (by simp) ?_
                have z9 := ih_lp4 h7 (v + 1) (by omega) RT_h7 (by omega)
                rw [show (bitP (fun x7 => (¬ (oI (moW w x7 i9) = -1)) ∧ (¬ (oI (moW w x7 i9) = nI (sdW w y9 x7 i9)))) (v + 1)) = ((bitP (fun x7 => (¬ (oI (moW w x7 i9) = -1)) ∧ (¬ (oI (moW w x7 i9) = nI (sdW w y9 x7 i9)))) v) ||| ((nI (1)) <<< ((nI (v)) &&& 31))) from (by exact bitP_t (p := fun x7 => (¬ (oI (moW w x7 i9) = -1)) ∧ (¬ (oI (moW w x7 i9) = nI (sdW w y9 x7 i9)))) ⟨c6, c9⟩)] at z9
                exact z9
      refine wn_weak (lv' := [(0, .ref (71)), (1, .int (nI (i9))), (2, .int (nI (y9))), (3, .int (nI (0))), (4, .int (nI (0)))]) (by simp) ?_
      have z9 := lp4 ((nvW w) + 1) h 0 (by omega) (RQ.rfl' HQ) (by omega)
      rw [show (bitP (fun x7 => (¬ (oI (moW w x7 i9) = -1)) ∧ (¬ (oI (moW w x7 i9) = nI (sdW w y9 x7 i9)))) 0) = (nI (0)) from (by rfl)] at z9
      exact z9
    · have c2 : ¬ (iin y 61) := c2
      refine wn_bp (pc' := 17) (w := -2) rfl rfl (by decide) ?_
      try simp only [Int32.lt_iff_toInt_lt, Int32.le_iff_toInt_le, i2l_int, Int32.toInt_zero, iin] at c1
      try simp only [Int32.lt_iff_toInt_lt, Int32.le_iff_toInt_le, i2l_int, Int32.toInt_zero, iin] at c2
      refine wn_iret rfl rfl rfl ⟨congrArg (fun z => some (Value.int z)) ?_, (RQ.rfl' HQ)⟩
      unfold offA
      rw [qI_f (by simp only [iin]; omega)]

theorem m_leansIn (d : Nat) (h : aH) (w : Nat → Int32) (hWf : WfW w) (HM : MH h w) (a : Int32) (i : Nat) (hi : i < ntW w) : Rn (d + 3) 232 [.ref (71), .int (a), .int (nI (i))] h (some (.int (bI (lsW w a i)))) h 0 0 := by
  obtain ⟨⟨e1, e2⟩, ⟨e3, e4⟩, ⟨e5, e6⟩⟩ := Wf_n hWf
  obtain ⟨⟨e7, e8⟩, ⟨e9, e10⟩⟩ := Wf_m hWf
  obtain ⟨th, tp, sz, at9, fr, tk, vl, fk, fp, il, up, lo, hM, hW⟩ := id HM
  refine Rn_of (by decide) (Nat.le_of_ble_eq_true rfl) ?_
  show Wn _ _ 0 [(0, .ref (71)), (1, .int (a)), (2, .int (nI (i)))] [] _ _
  refine wn_ic (pc' := 1) (w := nI 0) rfl rfl (by decide) ?_
  refine wn_st (pc' := 2) (q := 3) (kin := 0) (lv' := [(0, .ref (71)), (1, .int (a)), (2, .int (nI (i))), (3, .int (nI (0)))]) rfl (fun _ _ _ => rfl) rfl (Nat.le_of_ble_eq_true rfl) rfl ?_
  refine wn_ic (pc' := 3) (w := nI 0) rfl rfl (by decide) ?_
  refine wn_st (pc' := 5) (q := 4) (kin := 0) (lv' := [(0, .ref (71)), (1, .int (a)), (2, .int (nI (i))), (3, .int (nI (0))), (4, .int (nI (0)))]) rfl (fun _ _ _ => rfl) rfl (Nat.le_of_ble_eq_true rfl) rfl ?_
  have lp1 : ∀ (n_lp1 : Nat) (r : Nat), (nrW w) + 1 ≤ r + n_lp1 → r ≤ nrW w → lsA w a i r → Wn (Rn (d + 2)) 232 5 [(0, .ref (71)), (1, .int (a)), (2, .int (nI (i))), (3, .int (bI (lsE w a i r))), (4, .int (nI (r)))] [] (h) (fun r9 h9 => r9 = (some (.int (bI (lsW w a i)))) ∧ h9 = h) := by
    intro n_lp1
    induction n_lp1 with
    | zero => intro r hm_lp1 hr hA; exfalso; omega
    | succ n_lp1 ih_lp1 =>
      intro r hm_lp1 hr hA
      refine wn_ld (pc' := 7) (q := 4) (kin := 0) (v := .int (nI (r))) rfl (fun _ _ _ => rfl) rfl rfl ?_
      refine wn_ld (pc' := 8) (q := 0) (kin := 2) (v := .ref (71)) rfl (fun _ _ _ => rfl) rfl rfl ?_
      refine wn_get (pc' := 11) (v := .ref (72)) rfl rfl hM rfl ?_
      refine wn_ic (pc' := 12) (w := nI 2) rfl rfl (by decide) ?_
      refine wn_ialdv (pc' := 13) (j := 2) (v := (nI (nrW w))) rfl rfl hW rfl (by omega) (by decide) (e3) ?_
      refine wn_icmpN (t := 189) (f := 16) rfl rfl rfl (by omega) (by omega) (fun c2 => ?_) (fun c2 => ?_)
      · have c2 : (nrW w) ≤ r := c2
        obtain rfl : r = nrW w := by omega
        refine wn_ld (pc' := 190) (q := 3) (kin := 0) (v := .int (bI (lsE w a i (nrW w)))) rfl (fun _ _ _ => rfl) rfl rfl ?_
        exact wn_iret rfl rfl (nar_bI _) ⟨congrArg (fun z => some (Value.int z)) (bI_c (show lsE w a i (nrW w) ↔ lsW w a i from ⟨fun q => ⟨hA, q⟩, fun q => q.2⟩)), rfl⟩
      · have c2 : r < (nrW w) := c2
        refine wn_ld (pc' := 17) (q := 0) (kin := 2) (v := .ref (71)) rfl (fun _ _ _ => rfl) rfl rfl ?_
        refine wn_ld (pc' := 19) (q := 4) (kin := 0) (v := .int (nI (r))) rfl (fun _ _ _ => rfl) rfl rfl ?_
        refine wn_ic (pc' := 20) (w := nI 0) rfl rfl (by decide) ?_
        have := wf_rdb hWf (show r < nrW w by omega)
        refine wn_virI (pc' := 23) rfl rfl (by decide) rfl rfl hM (Nat.le_of_ble_eq_true rfl) (m_ofRoad _ _ w HM r 0 (by omega)) ?_
        rw [show 56 + 3 * r + 0 = 56 + 3 * r by omega]
        rw [wf_rda hWf (show r < nrW w by omega)]
        refine wn_st (pc' := 25) (q := 5) (kin := 0) (lv' := [(0, .ref (71)), (1, .int (a)), (2, .int (nI (i))), (3, .int (bI (lsE w a i r))), (4, .int (nI (r))), (5, .int (nI (rdA w r)))]) rfl (fun _ _ _ => rfl) rfl (Nat.le_of_ble_eq_true rfl) rfl ?_
        refine wn_ld (pc' := 26) (q := 0) (kin := 2) (v := .ref (71)) rfl (fun _ _ _ => rfl) rfl rfl ?_
        refine wn_ld (pc' := 28) (q := 4) (kin := 0) (v := .int (nI (r))) rfl (fun _ _ _ => rfl) rfl rfl ?_
        refine wn_ic (pc' := 29) (w := nI 1) rfl rfl (by decide) ?_
        have := wf_rdb hWf (show r < nrW w by omega)
        refine wn_virI (pc' := 32) rfl rfl (by decide) rfl rfl hM (Nat.le_of_ble_eq_true rfl) (m_ofRoad _ _ w HM r 1 (by omega)) ?_
        rw [show 56 + 3 * r + 1 = 57 + 3 * r by omega]
        rw [wf_rdB hWf (show r < nrW w by omega)]
        refine wn_st (pc' := 34) (q := 6) (kin := 0) (lv' := [(0, .ref (71)), (1, .int (a)), (2, .int (nI (i))), (3, .int (bI (lsE w a i r))), (4, .int (nI (r))), (5, .int (nI (rdA w r))), (6, .int (nI (rdB w r)))]) rfl (fun _ _ _ => rfl) rfl (Nat.le_of_ble_eq_true rfl) rfl ?_
        refine wn_ld (pc' := 35) (q := 0) (kin := 2) (v := .ref (71)) rfl (fun _ _ _ => rfl) rfl rfl ?_
        refine wn_ld (pc' := 37) (q := 5) (kin := 0) (v := .int (nI (rdA w r))) rfl (fun _ _ _ => rfl) rfl rfl ?_
        refine wn_ic (pc' := 38) (w := nI 1) rfl rfl (by decide) ?_
        refine wn_virI (pc' := 41) rfl rfl (by decide) rfl rfl hM (Nat.le_of_ble_eq_true rfl) (m_ofVillage _ _ w HM (rdA w r) 1 (by omega)) ?_
        rw [show 8 + 2 * (rdA w r) + 1 = 9 + 2 * (rdA w r) by omega]
        refine wn_ic (pc' := 42) (w := -1) rfl rfl (by decide) ?_
        refine wn_icmp (t := 82) (f := 45) rfl rfl rfl (fun c3 => ?_) (fun c3 => ?_)
        · have c3 : ((w (9 + 2 * (rdA w r)))) = ((-1)) := c3
          refine wn_ic (pc' := 83) (w := nI 0) rfl rfl (by decide) ?_
          refine wn_st (pc' := 85) (q := 7) (kin := 0) (lv' := [(0, .ref (71)), (1, .int (a)), (2, .int (nI (i))), (3, .int (bI (lsE w a i r))), (4, .int (nI (r))), (5, .int (nI (rdA w r))), (6, .int (nI (rdB w r))), (7, .int (nI (0)))]) rfl (fun _ _ _ => rfl) rfl (Nat.le_of_ble_eq_true rfl) rfl ?_
          refine wn_ld (pc' := 87) (q := 7) (kin := 0) (v := .int (nI (0))) rfl (fun _ _ _ => rfl) rfl rfl ?_
          refine wn_ifN (t := 93) (f := 90) rfl rfl rfl (by omega) (fun c4 => ?_) (fun c4 => ?_)
          · have c4 : ¬ 0 = 0 := c4
            exact absurd c4 (by decide)
          · have c4 : 0 = 0 := c4
            refine wn_jp (pc' := 183) rfl rfl ?_
            refine wn_incN (n := 1) (pc' := 186) (lv' := [(0, .ref (71)), (1, .int (a)), (2, .int (nI (i))), (3, .int (bI (lsE w a i r))), (4, .int (nI (r + 1))), (5, .int (nI (rdA w r))), (6, .int (nI (rdB w r))), (7, .int (nI (0)))]) rfl rfl rfl (Nat.le_of_ble_eq_true rfl) rfl (by decide) ?_
            refine wn_jp (pc' := 5) rfl rfl ?_
            refine wn_weak (lv' := [(0, .ref (71)), (1, .int (a)), (2, .int (nI (i))), (3, .int (bI (lsE w a i r))), (4, .int (nI (r + 1)))]) (by simp) ?_
            have z9 := ih_lp1 (r + 1) (by omega) (by omega) (lsA_s hA (fun q => absurd q (show ¬ cwW w i r from (show ¬ ((¬ (w (9 + 2 * rdA w r) = -1)) ∧ (¬ (w (9 + 2 * rdB w r) = -1)) ∧ (¬ (oI (moW w (rdA w r) i) = -1)) ∧ (¬ (oI (moW w (rdB w r) i) = -1))) from (fun q8 => (fun q9 => q9 c3) q8.1)))))
            rw [show (bI (lsE w a i (r + 1))) = (bI (lsE w a i r)) from (by exact lsE_f (show ¬ cwW w i r from (show ¬ ((¬ (w (9 + 2 * rdA w r) = -1)) ∧ (¬ (w (9 + 2 * rdB w r) = -1)) ∧ (¬ (oI (moW w (rdA w r) i) = -1)) ∧ (¬ (oI (moW w (rdB w r) i) = -1))) from (fun q8 => (fun q9 => q9 c3) q8.1))))] at z9
            exact z9
        · have c3 : ¬ ((w (9 + 2 * (rdA w r)))) = ((-1)) := c3
          refine wn_ld (pc' := 46) (q := 0) (kin := 2) (v := .ref (71)) rfl (fun _ _ _ => rfl) rfl rfl ?_
          refine wn_ld (pc' := 48) (q := 6) (kin := 0) (v := .int (nI (rdB w r))) rfl (fun _ _ _ => rfl) rfl rfl ?_
          refine wn_ic (pc' := 49) (w := nI 1) rfl rfl (by decide) ?_
          refine wn_virI (pc' := 52) rfl rfl (by decide) rfl rfl hM (Nat.le_of_ble_eq_true rfl) (m_ofVillage _ _ w HM (rdB w r) 1 (by omega)) ?_
          rw [show 8 + 2 * (rdB w r) + 1 = 9 + 2 * (rdB w r) by omega]
          refine wn_ic (pc' := 53) (w := -1) rfl rfl (by decide) ?_
          refine wn_icmp (t := 82) (f := 56) rfl rfl rfl (fun c5 => ?_) (fun c5 => ?_)
          · have c5 : ((w (9 + 2 * (rdB w r)))) = ((-1)) := c5
            refine wn_ic (pc' := 83) (w := nI 0) rfl rfl (by decide) ?_
            refine wn_st (pc' := 85) (q := 7) (kin := 0) (lv' := [(0, .ref (71)), (1, .int (a)), (2, .int (nI (i))), (3, .int (bI (lsE w a i r))), (4, .int (nI (r))), (5, .int (nI (rdA w r))), (6, .int (nI (rdB w r))), (7, .int (nI (0)))]) rfl (fun _ _ _ => rfl) rfl (Nat.le_of_ble_eq_true rfl) rfl ?_
            refine wn_ld (pc' := 87) (q := 7) (kin := 0) (v := .int (nI (0))) rfl (fun _ _ _ => rfl) rfl rfl ?_
            refine wn_ifN (t := 93) (f := 90) rfl rfl rfl (by omega) (fun c6 => ?_) (fun c6 => ?_)
            · have c6 : ¬ 0 = 0 := c6
              exact absurd c6 (by decide)
            · have c6 : 0 = 0 := c6
              refine wn_jp (pc' := 183) rfl rfl ?_
              refine wn_incN (n := 1) (pc' := 186) (lv' := [(0, .ref (71)), (1, .int (a)), (2, .int (nI (i))), (3, .int (bI (lsE w a i r))), (4, .int (nI (r + 1))), (5, .int (nI (rdA w r))), (6, .int (nI (rdB w r))), (7, .int (nI (0)))]) rfl rfl rfl (Nat.le_of_ble_eq_true rfl) rfl (by decide) ?_
              refine wn_jp (pc' := 5) rfl rfl ?_
              refine wn_weak (lv' := [(0, .ref (71)), (1, .int (a)), (2, .int (nI (i))), (3, .int (bI (lsE w a i r))), (4, .int (nI (r + 1)))]) (by simp) ?_
              have z9 := ih_lp1 (r + 1) (by omega) (by omega) (lsA_s hA (fun q => absurd q (show ¬ cwW w i r from (show ¬ ((¬ (w (9 + 2 * rdA w r) = -1)) ∧ (¬ (w (9 + 2 * rdB w r) = -1)) ∧ (¬ (oI (moW w (rdA w r) i) = -1)) ∧ (¬ (oI (moW w (rdB w r) i) = -1))) from (fun q8 => (fun q9 => q9 c5) q8.2.1)))))
              rw [show (bI (lsE w a i (r + 1))) = (bI (lsE w a i r)) from (by exact lsE_f (show ¬ cwW w i r from (show ¬ ((¬ (w (9 + 2 * rdA w r) = -1)) ∧ (¬ (w (9 + 2 * rdB w r) = -1)) ∧ (¬ (oI (moW w (rdA w r) i) = -1)) ∧ (¬ (oI (moW w (rdB w r) i) = -1))) from (fun q8 => (fun q9 => q9 c5) q8.2.1))))] at z9
              exact z9
          · have c5 : ¬ ((w (9 + 2 * (rdB w r)))) = ((-1)) := c5
            refine wn_ld (pc' := 57) (q := 0) (kin := 2) (v := .ref (71)) rfl (fun _ _ _ => rfl) rfl rfl ?_
            refine wn_ld (pc' := 59) (q := 5) (kin := 0) (v := .int (nI (rdA w r))) rfl (fun _ _ _ => rfl) rfl rfl ?_
            refine wn_ld (pc' := 60) (q := 2) (kin := 0) (v := .int (nI (i))) rfl (fun _ _ _ => rfl) rfl rfl ?_
            refine wn_virI (pc' := 63) rfl rfl (by decide) rfl rfl hM (Nat.le_of_ble_eq_true rfl) (m_mostlyOf _ _ w hWf HM (rdA w r) i (by omega) (by omega)) ?_
            refine wn_ic (pc' := 64) (w := -1) rfl rfl (by decide) ?_
            refine wn_icmp (t := 82) (f := 67) rfl rfl rfl (fun c7 => ?_) (fun c7 => ?_)
            · have c7 : ((oI (moW w (rdA w r) i))) = ((-1)) := c7
              refine wn_ic (pc' := 83) (w := nI 0) rfl rfl (by decide) ?_
              refine wn_st (pc' := 85) (q := 7) (kin := 0) (lv' := [(0, .ref (71)), (1, .int (a)), (2, .int (nI (i))), (3, .int (bI (lsE w a i r))), (4, .int (nI (r))), (5, .int (nI (rdA w r))), (6, .int (nI (rdB w r))), (7, .int (nI (0)))]) rfl (fun _ _ _ => rfl) rfl (Nat.le_of_ble_eq_true rfl) rfl ?_
              refine wn_ld (pc' := 87) (q := 7) (kin := 0) (v := .int (nI (0))) rfl (fun _ _ _ => rfl) rfl rfl ?_
              refine wn_ifN (t := 93) (f := 90) rfl rfl rfl (by omega) (fun c8 => ?_) (fun c8 => ?_)
              · have c8 : ¬ 0 = 0 := c8
                exact absurd c8 (by decide)
              · have c8 : 0 = 0 := c8
                refine wn_jp (pc' := 183) rfl rfl ?_
                refine wn_incN (n := 1) (pc' := 186) (lv' := [(0, .ref (71)), (1, .int (a)), (2, .int (nI (i))), (3, .int (bI (lsE w a i r))), (4, .int (nI (r + 1))), (5, .int (nI (rdA w r))), (6, .int (nI (rdB w r))), (7, .int (nI (0)))]) rfl rfl rfl (Nat.le_of_ble_eq_true rfl) rfl (by decide) ?_
                refine wn_jp (pc' := 5) rfl rfl ?_
                refine wn_weak (lv' := [(0, .ref (71)), (1, .int (a)), (2, .int (nI (i))), (3, .int (bI (lsE w a i r))), (4, .int (nI (r + 1)))]) (by simp) ?_
                have z9 := ih_lp1 (r + 1) (by omega) (by omega) (lsA_s hA (fun q => absurd q (show ¬ cwW w i r from (show ¬ ((¬ (w (9 + 2 * rdA w r) = -1)) ∧ (¬ (w (9 + 2 * rdB w r) = -1)) ∧ (¬ (oI (moW w (rdA w r) i) = -1)) ∧ (¬ (oI (moW w (rdB w r) i) = -1))) from (fun q8 => (fun q9 => q9 c7) q8.2.2.1)))))
                rw [show (bI (lsE w a i (r + 1))) = (bI (lsE w a i r)) from (by exact lsE_f (show ¬ cwW w i r from (show ¬ ((¬ (w (9 + 2 * rdA w r) = -1)) ∧ (¬ (w (9 + 2 * rdB w r) = -1)) ∧ (¬ (oI (moW w (rdA w r) i) = -1)) ∧ (¬ (oI (moW w (rdB w r) i) = -1))) from (fun q8 => (fun q9 => q9 c7) q8.2.2.1))))] at z9
                exact z9
            · have c7 : ¬ ((oI (moW w (rdA w r) i))) = ((-1)) := c7
              refine wn_ld (pc' := 68) (q := 0) (kin := 2) (v := .ref (71)) rfl (fun _ _ _ => rfl) rfl rfl ?_
              refine wn_ld (pc' := 70) (q := 6) (kin := 0) (v := .int (nI (rdB w r))) rfl (fun _ _ _ => rfl) rfl rfl ?_
              refine wn_ld (pc' := 71) (q := 2) (kin := 0) (v := .int (nI (i))) rfl (fun _ _ _ => rfl) rfl rfl ?_
              refine wn_virI (pc' := 74) rfl rfl (by decide) rfl rfl hM (Nat.le_of_ble_eq_true rfl) (m_mostlyOf _ _ w hWf HM (rdB w r) i (by omega) (by omega)) ?_
              refine wn_ic (pc' := 75) (w := -1) rfl rfl (by decide) ?_
              refine wn_icmp (t := 82) (f := 78) rfl rfl rfl (fun c9 => ?_) (fun c9 => ?_)
              · have c9 : ((oI (moW w (rdB w r) i))) = ((-1)) := c9
                refine wn_ic (pc' := 83) (w := nI 0) rfl rfl (by decide) ?_
                refine wn_st (pc' := 85) (q := 7) (kin := 0) (lv' := [(0, .ref (71)), (1, .int (a)), (2, .int (nI (i))), (3, .int (bI (lsE w a i r))), (4, .int (nI (r))), (5, .int (nI (rdA w r))), (6, .int (nI (rdB w r))), (7, .int (nI (0)))]) rfl (fun _ _ _ => rfl) rfl (Nat.le_of_ble_eq_true rfl) rfl ?_
                refine wn_ld (pc' := 87) (q := 7) (kin := 0) (v := .int (nI (0))) rfl (fun _ _ _ => rfl) rfl rfl ?_
                refine wn_ifN (t := 93) (f := 90) rfl rfl rfl (by omega) (fun c10 => ?_) (fun c10 => ?_)
                · have c10 : ¬ 0 = 0 := c10
                  exact absurd c10 (by decide)
                · have c10 : 0 = 0 := c10
                  refine wn_jp (pc' := 183) rfl rfl ?_
                  refine wn_incN (n := 1) (pc' := 186) (lv' := [(0, .ref (71)), (1, .int (a)), (2, .int (nI (i))), (3, .int (bI (lsE w a i r))), (4, .int (nI (r + 1))), (5, .int (nI (rdA w r))), (6, .int (nI (rdB w r))), (7, .int (nI (0)))]) rfl rfl rfl (Nat.le_of_ble_eq_true rfl) rfl (by decide) ?_
                  refine wn_jp (pc' := 5) rfl rfl ?_
                  refine wn_weak (lv' := [(0, .ref (71)), (1, .int (a)), (2, .int (nI (i))), (3, .int (bI (lsE w a i r))), (4, .int (nI (r + 1)))]) (by simp) ?_
                  have z9 := ih_lp1 (r + 1) (by omega) (by omega) (lsA_s hA (fun q => absurd q (show ¬ cwW w i r from (show ¬ ((¬ (w (9 + 2 * rdA w r) = -1)) ∧ (¬ (w (9 + 2 * rdB w r) = -1)) ∧ (¬ (oI (moW w (rdA w r) i) = -1)) ∧ (¬ (oI (moW w (rdB w r) i) = -1))) from (fun q8 => (fun q9 => q9 c9) q8.2.2.2)))))
                  rw [show (bI (lsE w a i (r + 1))) = (bI (lsE w a i r)) from (by exact lsE_f (show ¬ cwW w i r from (show ¬ ((¬ (w (9 + 2 * rdA w r) = -1)) ∧ (¬ (w (9 + 2 * rdB w r) = -1)) ∧ (¬ (oI (moW w (rdA w r) i) = -1)) ∧ (¬ (oI (moW w (rdB w r) i) = -1))) from (fun q8 => (fun q9 => q9 c9) q8.2.2.2))))] at z9
                  exact z9
              · have c9 : ¬ ((oI (moW w (rdB w r) i))) = ((-1)) := c9
                refine wn_ic (pc' := 79) (w := nI 1) rfl rfl (by decide) ?_
                refine wn_jp (pc' := 83) rfl rfl ?_
                refine wn_st (pc' := 85) (q := 7) (kin := 0) (lv' := [(0, .ref (71)), (1, .int (a)), (2, .int (nI (i))), (3, .int (bI (lsE w a i r))), (4, .int (nI (r))), (5, .int (nI (rdA w r))), (6, .int (nI (rdB w r))), (7, .int (nI (1)))]) rfl (fun _ _ _ => rfl) rfl (Nat.le_of_ble_eq_true rfl) rfl ?_
                refine wn_ld (pc' := 87) (q := 7) (kin := 0) (v := .int (nI (1))) rfl (fun _ _ _ => rfl) rfl rfl ?_
                refine wn_ifN (t := 93) (f := 90) rfl rfl rfl (by omega) (fun c11 => ?_) (fun c11 => ?_)
                · have c11 : ¬ 1 = 0 := c11
                  refine wn_ld (pc' := 94) (q := 0) (kin := 2) (v := .ref (71)) rfl (fun _ _ _ => rfl) rfl rfl ?_
                  refine wn_ld (pc' := 96) (q := 5) (kin := 0) (v := .int (nI (rdA w r))) rfl (fun _ _ _ => rfl) rfl rfl ?_
                  refine wn_ic (pc' := 97) (w := nI 1) rfl rfl (by decide) ?_
                  refine wn_virI (pc' := 100) rfl rfl (by decide) rfl rfl hM (Nat.le_of_ble_eq_true rfl) (m_ofVillage _ _ w HM (rdA w r) 1 (by omega)) ?_
                  rw [show 8 + 2 * (rdA w r) + 1 = 9 + 2 * (rdA w r) by omega]
                  refine wn_ld (pc' := 101) (q := 1) (kin := 0) (v := .int (a)) rfl (fun _ _ _ => rfl) rfl rfl ?_
                  refine wn_icmp (t := 108) (f := 104) rfl rfl rfl (fun c12 => ?_) (fun c12 => ?_)
                  · have c12 : ¬ ((w (9 + 2 * (rdA w r)))) = ((a)) := c12
                    refine wn_ic (pc' := 109) (w := nI 0) rfl rfl (by decide) ?_
                    refine wn_ld (pc' := 110) (q := 0) (kin := 2) (v := .ref (71)) rfl (fun _ _ _ => rfl) rfl rfl ?_
                    refine wn_ld (pc' := 112) (q := 6) (kin := 0) (v := .int (nI (rdB w r))) rfl (fun _ _ _ => rfl) rfl rfl ?_
                    refine wn_ic (pc' := 113) (w := nI 1) rfl rfl (by decide) ?_
                    refine wn_virI (pc' := 116) rfl rfl (by decide) rfl rfl hM (Nat.le_of_ble_eq_true rfl) (m_ofVillage _ _ w HM (rdB w r) 1 (by omega)) ?_
                    rw [show 8 + 2 * (rdB w r) + 1 = 9 + 2 * (rdB w r) by omega]
                    refine wn_ld (pc' := 117) (q := 1) (kin := 0) (v := .int (a)) rfl (fun _ _ _ => rfl) rfl rfl ?_
                    refine wn_icmp (t := 124) (f := 120) rfl rfl rfl (fun c13 => ?_) (fun c13 => ?_)
                    · have c13 : ¬ ((w (9 + 2 * (rdB w r)))) = ((a)) := c13
                      refine wn_ic (pc' := 125) (w := nI 0) rfl rfl (by decide) ?_
                      refine wn_icmpN (t := 132) (f := 128) rfl rfl rfl (by omega) (by omega) (fun c14 => ?_) (fun c14 => ?_)
                      · have c14 : 0 = 0 := c14
                        refine wn_ic (pc' := 133) (w := nI 0) rfl rfl (by decide) ?_
                        refine wn_st (pc' := 135) (q := 8) (kin := 0) (lv' := [(0, .ref (71)), (1, .int (a)), (2, .int (nI (i))), (3, .int (bI (lsE w a i r))), (4, .int (nI (r))), (5, .int (nI (rdA w r))), (6, .int (nI (rdB w r))), (7, .int (nI (1))), (8, .int (nI (0)))]) rfl (fun _ _ _ => rfl) rfl (Nat.le_of_ble_eq_true rfl) rfl ?_
                        refine wn_ld (pc' := 136) (q := 0) (kin := 2) (v := .ref (71)) rfl (fun _ _ _ => rfl) rfl rfl ?_
                        refine wn_ld (pc' := 138) (q := 5) (kin := 0) (v := .int (nI (rdA w r))) rfl (fun _ _ _ => rfl) rfl rfl ?_
                        refine wn_ld (pc' := 139) (q := 2) (kin := 0) (v := .int (nI (i))) rfl (fun _ _ _ => rfl) rfl rfl ?_
                        refine wn_virI (pc' := 142) rfl rfl (by decide) rfl rfl hM (Nat.le_of_ble_eq_true rfl) (m_mostlyOf _ _ w hWf HM (rdA w r) i (by omega) (by omega)) ?_
                        refine wn_ld (pc' := 143) (q := 0) (kin := 2) (v := .ref (71)) rfl (fun _ _ _ => rfl) rfl rfl ?_
                        refine wn_ld (pc' := 145) (q := 6) (kin := 0) (v := .int (nI (rdB w r))) rfl (fun _ _ _ => rfl) rfl rfl ?_
                        refine wn_ld (pc' := 146) (q := 2) (kin := 0) (v := .int (nI (i))) rfl (fun _ _ _ => rfl) rfl rfl ?_
                        refine wn_virI (pc' := 149) rfl rfl (by decide) rfl rfl hM (Nat.le_of_ble_eq_true rfl) (m_mostlyOf _ _ w hWf HM (rdB w r) i (by omega) (by omega)) ?_
                        refine wn_icmp (t := 156) (f := 152) rfl rfl rfl (fun c15 => ?_) (fun c15 => ?_)
                        · have c15 : ((oI (moW w (rdA w r) i))) = ((oI (moW w (rdB w r) i))) := c15
                          refine wn_ic (pc' := 157) (w := nI 0) rfl rfl (by decide) ?_
                          refine wn_st (pc' := 159) (q := 9) (kin := 0) (lv' := [(0, .ref (71)), (1, .int (a)), (2, .int (nI (i))), (3, .int (bI (lsE w a i r))), (4, .int (nI (r))), (5, .int (nI (rdA w r))), (6, .int (nI (rdB w r))), (7, .int (nI (1))), (8, .int (nI (0))), (9, .int (nI (0)))]) rfl (fun _ _ _ => rfl) rfl (Nat.le_of_ble_eq_true rfl) rfl ?_
                          refine wn_ld (pc' := 161) (q := 8) (kin := 0) (v := .int (nI (0))) rfl (fun _ _ _ => rfl) rfl rfl ?_
                          refine wn_ld (pc' := 163) (q := 9) (kin := 0) (v := .int (nI (0))) rfl (fun _ _ _ => rfl) rfl rfl ?_
                          refine wn_icmpN (t := 168) (f := 166) rfl rfl rfl (by omega) (by omega) (fun c16 => ?_) (fun c16 => ?_)
                          · have c16 : 0 = 0 := c16
                            refine wn_ld (pc' := 169) (q := 3) (kin := 0) (v := .int (bI (lsE w a i r))) rfl (fun _ _ _ => rfl) rfl rfl ?_
                            refine wn_ifneB (t := 177) (f := 172) rfl rfl rfl (fun c17 => ?_) (fun c17 => ?_)
                            · have c17 : (lsE w a i r) := c17
                              refine wn_ic (pc' := 178) (w := nI 1) rfl rfl (by decide) ?_
                              refine wn_jp (pc' := 182) rfl rfl ?_
                              refine wn_st (pc' := 183) (q := 3) (kin := 0) (lv' := [(0, .ref (71)), (1, .int (a)), (2, .int (nI (i))), (3, .int (nI (1))), (4, .int (nI (r))), (5, .int (nI (rdA w r))), (6, .int (nI (rdB w r))), (7, .int (nI (1))), (8, .int (nI (0))), (9, .int (nI (0)))]) rfl (fun _ _ _ => rfl) rfl (Nat.le_of_ble_eq_true rfl) rfl ?_
                              refine wn_incN (n := 1) (pc' := 186) (lv' := [(0, .ref (71)), (1, .int (a)), (2, .int (nI (i))), (3, .int (nI (1))), (4, .int (nI (r + 1))), (5, .int (nI (rdA w r))), (6, .int (nI (rdB w r))), (7, .int (nI (1))), (8, .int (nI (0))), (9, .int (nI (0)))]) rfl rfl rfl (Nat.le_of_ble_eq_true rfl) rfl (by decide) ?_
                              refine wn_jp (pc' := 5) rfl rfl ?_
                              refine wn_weak (lv' := [(0, .ref (71)), (1, .int (a)), (2, .int (nI (i))), (3, .int (nI (1))), (4, .int (nI (r + 1)))]) (by simp) ?_
                              have z9 := ih_lp1 (r + 1) (by omega) (by omega) (lsA_s hA (fun _ => ⟨fun q => absurd q (show ¬ bwW w a r from (show ¬ (((w (9 + 2 * rdA w r) = a) ∧ (¬ (w (9 + 2 * rdB w r) = a))) ∨ ((¬ (w (9 + 2 * rdA w r) = a)) ∧ (w (9 + 2 * rdB w r) = a))) from (fun q7 => q7.elim (fun q8 => c12 q8.1) (fun q8 => c13 q8.2)))), fun q => absurd q (show ¬ owW w i r from (show ¬ (¬ (oI (moW w (rdA w r) i) = oI (moW w (rdB w r) i))) from (fun q9 => q9 c15)))⟩))
                              rw [show (bI (lsE w a i (r + 1))) = (nI (1)) from (by exact lsE_1 (Or.inl c17))] at z9
                              exact z9
                            · have c17 : ¬ (lsE w a i r) := c17
                              refine wn_ld (pc' := 174) (q := 8) (kin := 0) (v := .int (nI (0))) rfl (fun _ _ _ => rfl) rfl rfl ?_
                              refine wn_ifN (t := 181) (f := 177) rfl rfl rfl (by omega) (fun c18 => ?_) (fun c18 => ?_)
                              · have c18 : 0 = 0 := c18
                                refine wn_ic (pc' := 182) (w := nI 0) rfl rfl (by decide) ?_
                                refine wn_st (pc' := 183) (q := 3) (kin := 0) (lv' := [(0, .ref (71)), (1, .int (a)), (2, .int (nI (i))), (3, .int (nI (0))), (4, .int (nI (r))), (5, .int (nI (rdA w r))), (6, .int (nI (rdB w r))), (7, .int (nI (1))), (8, .int (nI (0))), (9, .int (nI (0)))]) rfl (fun _ _ _ => rfl) rfl (Nat.le_of_ble_eq_true rfl) rfl ?_
                                refine wn_incN (n := 1) (pc' := 186) (lv' := [(0, .ref (71)), (1, .int (a)), (2, .int (nI (i))), (3, .int (nI (0))), (4, .int (nI (r + 1))), (5, .int (nI (rdA w r))), (6, .int (nI (rdB w r))), (7, .int (nI (1))), (8, .int (nI (0))), (9, .int (nI (0)))]) rfl rfl rfl (Nat.le_of_ble_eq_true rfl) rfl (by decide) ?_
                                refine wn_jp (pc' := 5) rfl rfl ?_
                                refine wn_weak (lv' := [(0, .ref (71)), (1, .int (a)), (2, .int (nI (i))), (3, .int (nI (0))), (4, .int (nI (r + 1)))]) (by simp) ?_
                                have z9 := ih_lp1 (r + 1) (by omega) (by omega) (lsA_s hA (fun _ => ⟨fun q => absurd q (show ¬ bwW w a r from (show ¬ (((w (9 + 2 * rdA w r) = a) ∧ (¬ (w (9 + 2 * rdB w r) = a))) ∨ ((¬ (w (9 + 2 * rdA w r) = a)) ∧ (w (9 + 2 * rdB w r) = a))) from (fun q7 => q7.elim (fun q8 => c12 q8.1) (fun q8 => c13 q8.2)))), fun q => absurd q (show ¬ owW w i r from (show ¬ (¬ (oI (moW w (rdA w r) i) = oI (moW w (rdB w r) i))) from (fun q9 => q9 c15)))⟩))
                                rw [show (bI (lsE w a i (r + 1))) = (nI (0)) from (by exact lsE_0 c17 (show ¬ bwW w a r from (show ¬ (((w (9 + 2 * rdA w r) = a) ∧ (¬ (w (9 + 2 * rdB w r) = a))) ∨ ((¬ (w (9 + 2 * rdA w r) = a)) ∧ (w (9 + 2 * rdB w r) = a))) from (fun q7 => q7.elim (fun q8 => c12 q8.1) (fun q8 => c13 q8.2)))))] at z9
                                exact z9
                              · have c18 : ¬ 0 = 0 := c18
                                exact absurd c18 (by decide)
                          · have c16 : ¬ 0 = 0 := c16
                            exact absurd c16 (by decide)
                        · have c15 : ¬ ((oI (moW w (rdA w r) i))) = ((oI (moW w (rdB w r) i))) := c15
                          refine wn_ic (pc' := 153) (w := nI 1) rfl rfl (by decide) ?_
                          refine wn_jp (pc' := 157) rfl rfl ?_
                          refine wn_st (pc' := 159) (q := 9) (kin := 0) (lv' := [(0, .ref (71)), (1, .int (a)), (2, .int (nI (i))), (3, .int (bI (lsE w a i r))), (4, .int (nI (r))), (5, .int (nI (rdA w r))), (6, .int (nI (rdB w r))), (7, .int (nI (1))), (8, .int (nI (0))), (9, .int (nI (1)))]) rfl (fun _ _ _ => rfl) rfl (Nat.le_of_ble_eq_true rfl) rfl ?_
                          refine wn_ld (pc' := 161) (q := 8) (kin := 0) (v := .int (nI (0))) rfl (fun _ _ _ => rfl) rfl rfl ?_
                          refine wn_ld (pc' := 163) (q := 9) (kin := 0) (v := .int (nI (1))) rfl (fun _ _ _ => rfl) rfl rfl ?_
                          refine wn_icmpN (t := 168) (f := 166) rfl rfl rfl (by omega) (by omega) (fun c19 => ?_) (fun c19 => ?_)
                          · have c19 : 0 = 1 := c19
                            exact absurd c19 (by decide)
                          · have c19 : ¬ 0 = 1 := c19
                            refine wn_ic (pc' := 167) (w := nI 0) rfl rfl (by decide) ?_
                            exact wn_iret rfl rfl (by decide) ⟨congrArg (fun z => some (Value.int z)) (bI_f0 (fun q => (show ¬ bwW w a r from (show ¬ (((w (9 + 2 * rdA w r) = a) ∧ (¬ (w (9 + 2 * rdB w r) = a))) ∨ ((¬ (w (9 + 2 * rdA w r) = a)) ∧ (w (9 + 2 * rdB w r) = a))) from (fun q7 => q7.elim (fun q8 => c12 q8.1) (fun q8 => c13 q8.2)))) ((q.1 r (by omega) (show cwW w i r from (show (¬ (w (9 + 2 * rdA w r) = -1)) ∧ (¬ (w (9 + 2 * rdB w r) = -1)) ∧ (¬ (oI (moW w (rdA w r) i) = -1)) ∧ (¬ (oI (moW w (rdB w r) i) = -1)) from ⟨c3, c5, c7, c9⟩))).mpr (show owW w i r from (show ¬ (oI (moW w (rdA w r) i) = oI (moW w (rdB w r) i)) from c15))))), rfl⟩
                      · have c14 : ¬ 0 = 0 := c14
                        exact absurd c14 (by decide)
                    · have c13 : ((w (9 + 2 * (rdB w r)))) = ((a)) := c13
                      refine wn_ic (pc' := 121) (w := nI 1) rfl rfl (by decide) ?_
                      refine wn_jp (pc' := 125) rfl rfl ?_
                      refine wn_icmpN (t := 132) (f := 128) rfl rfl rfl (by omega) (by omega) (fun c20 => ?_) (fun c20 => ?_)
                      · have c20 : 0 = 1 := c20
                        exact absurd c20 (by decide)
                      · have c20 : ¬ 0 = 1 := c20
                        refine wn_ic (pc' := 129) (w := nI 1) rfl rfl (by decide) ?_
                        refine wn_jp (pc' := 133) rfl rfl ?_
                        refine wn_st (pc' := 135) (q := 8) (kin := 0) (lv' := [(0, .ref (71)), (1, .int (a)), (2, .int (nI (i))), (3, .int (bI (lsE w a i r))), (4, .int (nI (r))), (5, .int (nI (rdA w r))), (6, .int (nI (rdB w r))), (7, .int (nI (1))), (8, .int (nI (1)))]) rfl (fun _ _ _ => rfl) rfl (Nat.le_of_ble_eq_true rfl) rfl ?_
                        refine wn_ld (pc' := 136) (q := 0) (kin := 2) (v := .ref (71)) rfl (fun _ _ _ => rfl) rfl rfl ?_
                        refine wn_ld (pc' := 138) (q := 5) (kin := 0) (v := .int (nI (rdA w r))) rfl (fun _ _ _ => rfl) rfl rfl ?_
                        refine wn_ld (pc' := 139) (q := 2) (kin := 0) (v := .int (nI (i))) rfl (fun _ _ _ => rfl) rfl rfl ?_
                        refine wn_virI (pc' := 142) rfl rfl (by decide) rfl rfl hM (Nat.le_of_ble_eq_true rfl) (m_mostlyOf _ _ w hWf HM (rdA w r) i (by omega) (by omega)) ?_
                        refine wn_ld (pc' := 143) (q := 0) (kin := 2) (v := .ref (71)) rfl (fun _ _ _ => rfl) rfl rfl ?_
                        refine wn_ld (pc' := 145) (q := 6) (kin := 0) (v := .int (nI (rdB w r))) rfl (fun _ _ _ => rfl) rfl rfl ?_
                        refine wn_ld (pc' := 146) (q := 2) (kin := 0) (v := .int (nI (i))) rfl (fun _ _ _ => rfl) rfl rfl ?_
                        refine wn_virI (pc' := 149) rfl rfl (by decide) rfl rfl hM (Nat.le_of_ble_eq_true rfl) (m_mostlyOf _ _ w hWf HM (rdB w r) i (by omega) (by omega)) ?_
                        refine wn_icmp (t := 156) (f := 152) rfl rfl rfl (fun c21 => ?_) (fun c21 => ?_)
                        · have c21 : ((oI (moW w (rdA w r) i))) = ((oI (moW w (rdB w r) i))) := c21
                          refine wn_ic (pc' := 157) (w := nI 0) rfl rfl (by decide) ?_
                          refine wn_st (pc' := 159) (q := 9) (kin := 0) (lv' := [(0, .ref (71)), (1, .int (a)), (2, .int (nI (i))), (3, .int (bI (lsE w a i r))), (4, .int (nI (r))), (5, .int (nI (rdA w r))), (6, .int (nI (rdB w r))), (7, .int (nI (1))), (8, .int (nI (1))), (9, .int (nI (0)))]) rfl (fun _ _ _ => rfl) rfl (Nat.le_of_ble_eq_true rfl) rfl ?_
                          refine wn_ld (pc' := 161) (q := 8) (kin := 0) (v := .int (nI (1))) rfl (fun _ _ _ => rfl) rfl rfl ?_
                          refine wn_ld (pc' := 163) (q := 9) (kin := 0) (v := .int (nI (0))) rfl (fun _ _ _ => rfl) rfl rfl ?_
                          refine wn_icmpN (t := 168) (f := 166) rfl rfl rfl (by omega) (by omega) (fun c22 => ?_) (fun c22 => ?_)
                          · have c22 : 1 = 0 := c22
                            exact absurd c22 (by decide)
                          · have c22 : ¬ 1 = 0 := c22
                            refine wn_ic (pc' := 167) (w := nI 0) rfl rfl (by decide) ?_
                            exact wn_iret rfl rfl (by decide) ⟨congrArg (fun z => some (Value.int z)) (bI_f0 (fun q => (show ¬ owW w i r from (show ¬ (¬ (oI (moW w (rdA w r) i) = oI (moW w (rdB w r) i))) from (fun q9 => q9 c21))) ((q.1 r (by omega) (show cwW w i r from (show (¬ (w (9 + 2 * rdA w r) = -1)) ∧ (¬ (w (9 + 2 * rdB w r) = -1)) ∧ (¬ (oI (moW w (rdA w r) i) = -1)) ∧ (¬ (oI (moW w (rdB w r) i) = -1)) from ⟨c3, c5, c7, c9⟩))).mp (show bwW w a r from (show ((w (9 + 2 * rdA w r) = a) ∧ (¬ (w (9 + 2 * rdB w r) = a))) ∨ ((¬ (w (9 + 2 * rdA w r) = a)) ∧ (w (9 + 2 * rdB w r) = a)) from (Or.inr ⟨c12, c13⟩)))))), rfl⟩
                        · have c21 : ¬ ((oI (moW w (rdA w r) i))) = ((oI (moW w (rdB w r) i))) := c21
                          refine wn_ic (pc' := 153) (w := nI 1) rfl rfl (by decide) ?_
                          refine wn_jp (pc' := 157) rfl rfl ?_
                          refine wn_st (pc' := 159) (q := 9) (kin := 0) (lv' := [(0, .ref (71)), (1, .int (a)), (2, .int (nI (i))), (3, .int (bI (lsE w a i r))), (4, .int (nI (r))), (5, .int (nI (rdA w r))), (6, .int (nI (rdB w r))), (7, .int (nI (1))), (8, .int (nI (1))), (9, .int (nI (1)))]) rfl (fun _ _ _ => rfl) rfl (Nat.le_of_ble_eq_true rfl) rfl ?_
                          refine wn_ld (pc' := 161) (q := 8) (kin := 0) (v := .int (nI (1))) rfl (fun _ _ _ => rfl) rfl rfl ?_
                          refine wn_ld (pc' := 163) (q := 9) (kin := 0) (v := .int (nI (1))) rfl (fun _ _ _ => rfl) rfl rfl ?_
                          refine wn_icmpN (t := 168) (f := 166) rfl rfl rfl (by omega) (by omega) (fun c23 => ?_) (fun c23 => ?_)
                          · have c23 : 1 = 1 := c23
                            refine wn_ld (pc' := 169) (q := 3) (kin := 0) (v := .int (bI (lsE w a i r))) rfl (fun _ _ _ => rfl) rfl rfl ?_
                            refine wn_ifneB (t := 177) (f := 172) rfl rfl rfl (fun c24 => ?_) (fun c24 => ?_)
                            · have c24 : (lsE w a i r) := c24
                              refine wn_ic (pc' := 178) (w := nI 1) rfl rfl (by decide) ?_
                              refine wn_jp (pc' := 182) rfl rfl ?_
                              refine wn_st (pc' := 183) (q := 3) (kin := 0) (lv' := [(0, .ref (71)), (1, .int (a)), (2, .int (nI (i))), (3, .int (nI (1))), (4, .int (nI (r))), (5, .int (nI (rdA w r))), (6, .int (nI (rdB w r))), (7, .int (nI (1))), (8, .int (nI (1))), (9, .int (nI (1)))]) rfl (fun _ _ _ => rfl) rfl (Nat.le_of_ble_eq_true rfl) rfl ?_
                              refine wn_incN (n := 1) (pc' := 186) (lv' := [(0, .ref (71)), (1, .int (a)), (2, .int (nI (i))), (3, .int (nI (1))), (4, .int (nI (r + 1))), (5, .int (nI (rdA w r))), (6, .int (nI (rdB w r))), (7, .int (nI (1))), (8, .int (nI (1))), (9, .int (nI (1)))]) rfl rfl rfl (Nat.le_of_ble_eq_true rfl) rfl (by decide) ?_
                              refine wn_jp (pc' := 5) rfl rfl ?_
                              refine wn_weak (lv' := [(0, .ref (71)), (1, .int (a)), (2, .int (nI (i))), (3, .int (nI (1))), (4, .int (nI (r + 1)))]) (by simp) ?_
                              have z9 := ih_lp1 (r + 1) (by omega) (by omega) (lsA_s hA (fun _ => ⟨fun _ => (show owW w i r from (show ¬ (oI (moW w (rdA w r) i) = oI (moW w (rdB w r) i)) from c21)), fun _ => (show bwW w a r from (show ((w (9 + 2 * rdA w r) = a) ∧ (¬ (w (9 + 2 * rdB w r) = a))) ∨ ((¬ (w (9 + 2 * rdA w r) = a)) ∧ (w (9 + 2 * rdB w r) = a)) from (Or.inr ⟨c12, c13⟩)))⟩))
                              rw [show (bI (lsE w a i (r + 1))) = (nI (1)) from (by exact lsE_1 (Or.inl c24))] at z9
                              exact z9
                            · have c24 : ¬ (lsE w a i r) := c24
                              refine wn_ld (pc' := 174) (q := 8) (kin := 0) (v := .int (nI (1))) rfl (fun _ _ _ => rfl) rfl rfl ?_
                              refine wn_ifN (t := 181) (f := 177) rfl rfl rfl (by omega) (fun c25 => ?_) (fun c25 => ?_)
                              · have c25 : 1 = 0 := c25
                                exact absurd c25 (by decide)
                              · have c25 : ¬ 1 = 0 := c25
                                refine wn_ic (pc' := 178) (w := nI 1) rfl rfl (by decide) ?_
                                refine wn_jp (pc' := 182) rfl rfl ?_
                                refine wn_st (pc' := 183) (q := 3) (kin := 0) (lv' := [(0, .ref (71)), (1, .int (a)), (2, .int (nI (i))), (3, .int (nI (1))), (4, .int (nI (r))), (5, .int (nI (rdA w r))), (6, .int (nI (rdB w r))), (7, .int (nI (1))), (8, .int (nI (1))), (9, .int (nI (1)))]) rfl (fun _ _ _ => rfl) rfl (Nat.le_of_ble_eq_true rfl) rfl ?_
                                refine wn_incN (n := 1) (pc' := 186) (lv' := [(0, .ref (71)), (1, .int (a)), (2, .int (nI (i))), (3, .int (nI (1))), (4, .int (nI (r + 1))), (5, .int (nI (rdA w r))), (6, .int (nI (rdB w r))), (7, .int (nI (1))), (8, .int (nI (1))), (9, .int (nI (1)))]) rfl rfl rfl (Nat.le_of_ble_eq_true rfl) rfl (by decide) ?_
                                refine wn_jp (pc' := 5) rfl rfl ?_
                                refine wn_weak (lv' := [(0, .ref (71)), (1, .int (a)), (2, .int (nI (i))), (3, .int (nI (1))), (4, .int (nI (r + 1)))]) (by simp) ?_
                                have z9 := ih_lp1 (r + 1) (by omega) (by omega) (lsA_s hA (fun _ => ⟨fun _ => (show owW w i r from (show ¬ (oI (moW w (rdA w r) i) = oI (moW w (rdB w r) i)) from c21)), fun _ => (show bwW w a r from (show ((w (9 + 2 * rdA w r) = a) ∧ (¬ (w (9 + 2 * rdB w r) = a))) ∨ ((¬ (w (9 + 2 * rdA w r) = a)) ∧ (w (9 + 2 * rdB w r) = a)) from (Or.inr ⟨c12, c13⟩)))⟩))
                                rw [show (bI (lsE w a i (r + 1))) = (nI (1)) from (by exact lsE_1 (Or.inr ⟨(show cwW w i r from (show (¬ (w (9 + 2 * rdA w r) = -1)) ∧ (¬ (w (9 + 2 * rdB w r) = -1)) ∧ (¬ (oI (moW w (rdA w r) i) = -1)) ∧ (¬ (oI (moW w (rdB w r) i) = -1)) from ⟨c3, c5, c7, c9⟩)), (show bwW w a r from (show ((w (9 + 2 * rdA w r) = a) ∧ (¬ (w (9 + 2 * rdB w r) = a))) ∨ ((¬ (w (9 + 2 * rdA w r) = a)) ∧ (w (9 + 2 * rdB w r) = a)) from (Or.inr ⟨c12, c13⟩)))⟩))] at z9
                                exact z9
                          · have c23 : ¬ 1 = 1 := c23
                            exact absurd c23 (by decide)
                  · have c12 : ((w (9 + 2 * (rdA w r)))) = ((a)) := c12
                    refine wn_ic (pc' := 105) (w := nI 1) rfl rfl (by decide) ?_
                    refine wn_jp (pc' := 109) rfl rfl ?_
                    refine wn_ld (pc' := 110) (q := 0) (kin := 2) (v := .ref (71)) rfl (fun _ _ _ => rfl) rfl rfl ?_
                    refine wn_ld (pc' := 112) (q := 6) (kin := 0) (v := .int (nI (rdB w r))) rfl (fun _ _ _ => rfl) rfl rfl ?_
                    refine wn_ic (pc' := 113) (w := nI 1) rfl rfl (by decide) ?_
                    refine wn_virI (pc' := 116) rfl rfl (by decide) rfl rfl hM (Nat.le_of_ble_eq_true rfl) (m_ofVillage _ _ w HM (rdB w r) 1 (by omega)) ?_
                    rw [show 8 + 2 * (rdB w r) + 1 = 9 + 2 * (rdB w r) by omega]
                    refine wn_ld (pc' := 117) (q := 1) (kin := 0) (v := .int (a)) rfl (fun _ _ _ => rfl) rfl rfl ?_
                    refine wn_icmp (t := 124) (f := 120) rfl rfl rfl (fun c26 => ?_) (fun c26 => ?_)
                    · have c26 : ¬ ((w (9 + 2 * (rdB w r)))) = ((a)) := c26
                      refine wn_ic (pc' := 125) (w := nI 0) rfl rfl (by decide) ?_
                      refine wn_icmpN (t := 132) (f := 128) rfl rfl rfl (by omega) (by omega) (fun c27 => ?_) (fun c27 => ?_)
                      · have c27 : 1 = 0 := c27
                        exact absurd c27 (by decide)
                      · have c27 : ¬ 1 = 0 := c27
                        refine wn_ic (pc' := 129) (w := nI 1) rfl rfl (by decide) ?_
                        refine wn_jp (pc' := 133) rfl rfl ?_
                        refine wn_st (pc' := 135) (q := 8) (kin := 0) (lv' := [(0, .ref (71)), (1, .int (a)), (2, .int (nI (i))), (3, .int (bI (lsE w a i r))), (4, .int (nI (r))), (5, .int (nI (rdA w r))), (6, .int (nI (rdB w r))), (7, .int (nI (1))), (8, .int (nI (1)))]) rfl (fun _ _ _ => rfl) rfl (Nat.le_of_ble_eq_true rfl) rfl ?_
                        refine wn_ld (pc' := 136) (q := 0) (kin := 2) (v := .ref (71)) rfl (fun _ _ _ => rfl) rfl rfl ?_
                        refine wn_ld (pc' := 138) (q := 5) (kin := 0) (v := .int (nI (rdA w r))) rfl (fun _ _ _ => rfl) rfl rfl ?_
                        refine wn_ld (pc' := 139) (q := 2) (kin := 0) (v := .int (nI (i))) rfl (fun _ _ _ => rfl) rfl rfl ?_
                        refine wn_virI (pc' := 142) rfl rfl (by decide) rfl rfl hM (Nat.le_of_ble_eq_true rfl) (m_mostlyOf _ _ w hWf HM (rdA w r) i (by omega) (by omega)) ?_
                        refine wn_ld (pc' := 143) (q := 0) (kin := 2) (v := .ref (71)) rfl (fun _ _ _ => rfl) rfl rfl ?_
                        refine wn_ld (pc' := 145) (q := 6) (kin := 0) (v := .int (nI (rdB w r))) rfl (fun _ _ _ => rfl) rfl rfl ?_
                        refine wn_ld (pc' := 146) (q := 2) (kin := 0) (v := .int (nI (i))) rfl (fun _ _ _ => rfl) rfl rfl ?_
                        refine wn_virI (pc' := 149) rfl rfl (by decide) rfl rfl hM (Nat.le_of_ble_eq_true rfl) (m_mostlyOf _ _ w hWf HM (rdB w r) i (by omega) (by omega)) ?_
                        refine wn_icmp (t := 156) (f := 152) rfl rfl rfl (fun c28 => ?_) (fun c28 => ?_)
                        · have c28 : ((oI (moW w (rdA w r) i))) = ((oI (moW w (rdB w r) i))) := c28
                          refine wn_ic (pc' := 157) (w := nI 0) rfl rfl (by decide) ?_
                          refine wn_st (pc' := 159) (q := 9) (kin := 0) (lv' := [(0, .ref (71)), (1, .int (a)), (2, .int (nI (i))), (3, .int (bI (lsE w a i r))), (4, .int (nI (r))), (5, .int (nI (rdA w r))), (6, .int (nI (rdB w r))), (7, .int (nI (1))), (8, .int (nI (1))), (9, .int (nI (0)))]) rfl (fun _ _ _ => rfl) rfl (Nat.le_of_ble_eq_true rfl) rfl ?_
                          refine wn_ld (pc' := 161) (q := 8) (kin := 0) (v := .int (nI (1))) rfl (fun _ _ _ => rfl) rfl rfl ?_
                          refine wn_ld (pc' := 163) (q := 9) (kin := 0) (v := .int (nI (0))) rfl (fun _ _ _ => rfl) rfl rfl ?_
                          refine wn_icmpN (t := 168) (f := 166) rfl rfl rfl (by omega) (by omega) (fun c29 => ?_) (fun c29 => ?_)
                          · have c29 : 1 = 0 := c29
                            exact absurd c29 (by decide)
                          · have c29 : ¬ 1 = 0 := c29
                            refine wn_ic (pc' := 167) (w := nI 0) rfl rfl (by decide) ?_
                            exact wn_iret rfl rfl (by decide) ⟨congrArg (fun z => some (Value.int z)) (bI_f0 (fun q => (show ¬ owW w i r from (show ¬ (¬ (oI (moW w (rdA w r) i) = oI (moW w (rdB w r) i))) from (fun q9 => q9 c28))) ((q.1 r (by omega) (show cwW w i r from (show (¬ (w (9 + 2 * rdA w r) = -1)) ∧ (¬ (w (9 + 2 * rdB w r) = -1)) ∧ (¬ (oI (moW w (rdA w r) i) = -1)) ∧ (¬ (oI (moW w (rdB w r) i) = -1)) from ⟨c3, c5, c7, c9⟩))).mp (show bwW w a r from (show ((w (9 + 2 * rdA w r) = a) ∧ (¬ (w (9 + 2 * rdB w r) = a))) ∨ ((¬ (w (9 + 2 * rdA w r) = a)) ∧ (w (9 + 2 * rdB w r) = a)) from (Or.inl ⟨c12, c26⟩)))))), rfl⟩
                        · have c28 : ¬ ((oI (moW w (rdA w r) i))) = ((oI (moW w (rdB w r) i))) := c28
                          refine wn_ic (pc' := 153) (w := nI 1) rfl rfl (by decide) ?_
                          refine wn_jp (pc' := 157) rfl rfl ?_
                          refine wn_st (pc' := 159) (q := 9) (kin := 0) (lv' := [(0, .ref (71)), (1, .int (a)), (2, .int (nI (i))), (3, .int (bI (lsE w a i r))), (4, .int (nI (r))), (5, .int (nI (rdA w r))), (6, .int (nI (rdB w r))), (7, .int (nI (1))), (8, .int (nI (1))), (9, .int (nI (1)))]) rfl (fun _ _ _ => rfl) rfl (Nat.le_of_ble_eq_true rfl) rfl ?_
                          refine wn_ld (pc' := 161) (q := 8) (kin := 0) (v := .int (nI (1))) rfl (fun _ _ _ => rfl) rfl rfl ?_
                          refine wn_ld (pc' := 163) (q := 9) (kin := 0) (v := .int (nI (1))) rfl (fun _ _ _ => rfl) rfl rfl ?_
                          refine wn_icmpN (t := 168) (f := 166) rfl rfl rfl (by omega) (by omega) (fun c30 => ?_) (fun c30 => ?_)
                          · have c30 : 1 = 1 := c30
                            refine wn_ld (pc' := 169) (q := 3) (kin := 0) (v := .int (bI (lsE w a i r))) rfl (fun _ _ _ => rfl) rfl rfl ?_
                            refine wn_ifneB (t := 177) (f := 172) rfl rfl rfl (fun c31 => ?_) (fun c31 => ?_)
                            · have c31 : (lsE w a i r) := c31
                              refine wn_ic (pc' := 178) (w := nI 1) rfl rfl (by decide) ?_
                              refine wn_jp (pc' := 182) rfl rfl ?_
                              refine wn_st (pc' := 183) (q := 3) (kin := 0) (lv' := [(0, .ref (71)), (1, .int (a)), (2, .int (nI (i))), (3, .int (nI (1))), (4, .int (nI (r))), (5, .int (nI (rdA w r))), (6, .int (nI (rdB w r))), (7, .int (nI (1))), (8, .int (nI (1))), (9, .int (nI (1)))]) rfl (fun _ _ _ => rfl) rfl (Nat.le_of_ble_eq_true rfl) rfl ?_
                              refine wn_incN (n := 1) (pc' := 186) (lv' := [(0, .ref (71)), (1, .int (a)), (2, .int (nI (i))), (3, .int (nI (1))), (4, .int (nI (r + 1))), (5, .int (nI (rdA w r))), (6, .int (nI (rdB w r))), (7, .int (nI (1))), (8, .int (nI (1))), (9, .int (nI (1)))]) rfl rfl rfl (Nat.le_of_ble_eq_true rfl) rfl (by decide) ?_
                              refine wn_jp (pc' := 5) rfl rfl ?_
                              refine wn_weak (lv' := [(0, .ref (71)), (1, .int (a)), (2, .int (nI (i))), (3, .int (nI (1))), (4, .int (nI (r + 1)))]) (by simp) ?_
                              have z9 := ih_lp1 (r + 1) (by omega) (by omega) (lsA_s hA (fun _ => ⟨fun _ => (show owW w i r from (show ¬ (oI (moW w (rdA w r) i) = oI (moW w (rdB w r) i)) from c28)), fun _ => (show bwW w a r from (show ((w (9 + 2 * rdA w r) = a) ∧ (¬ (w (9 + 2 * rdB w r) = a))) ∨ ((¬ (w (9 + 2 * rdA w r) = a)) ∧ (w (9 + 2 * rdB w r) = a)) from (Or.inl ⟨c12, c26⟩)))⟩))
                              rw [show (bI (lsE w a i (r + 1))) = (nI (1)) from (by exact lsE_1 (Or.inl c31))] at z9
                              exact z9
                            · have c31 : ¬ (lsE w a i r) := c31
                              refine wn_ld (pc' := 174) (q := 8) (kin := 0) (v := .int (nI (1))) rfl (fun _ _ _ => rfl) rfl rfl ?_
                              refine wn_ifN (t := 181) (f := 177) rfl rfl rfl (by omega) (fun c32 => ?_) (fun c32 => ?_)
                              · have c32 : 1 = 0 := c32
                                exact absurd c32 (by decide)
                              · have c32 : ¬ 1 = 0 := c32
                                refine wn_ic (pc' := 178) (w := nI 1) rfl rfl (by decide) ?_
                                refine wn_jp (pc' := 182) rfl rfl ?_
                                refine wn_st (pc' := 183) (q := 3) (kin := 0) (lv' := [(0, .ref (71)), (1, .int (a)), (2, .int (nI (i))), (3, .int (nI (1))), (4, .int (nI (r))), (5, .int (nI (rdA w r))), (6, .int (nI (rdB w r))), (7, .int (nI (1))), (8, .int (nI (1))), (9, .int (nI (1)))]) rfl (fun _ _ _ => rfl) rfl (Nat.le_of_ble_eq_true rfl) rfl ?_
                                refine wn_incN (n := 1) (pc' := 186) (lv' := [(0, .ref (71)), (1, .int (a)), (2, .int (nI (i))), (3, .int (nI (1))), (4, .int (nI (r + 1))), (5, .int (nI (rdA w r))), (6, .int (nI (rdB w r))), (7, .int (nI (1))), (8, .int (nI (1))), (9, .int (nI (1)))]) rfl rfl rfl (Nat.le_of_ble_eq_true rfl) rfl (by decide) ?_
                                refine wn_jp (pc' := 5) rfl rfl ?_
                                refine wn_weak (lv' := [(0, .ref (71)), (1, .int (a)), (2, .int (nI (i))), (3, .int (nI (1))), (4, .int (nI (r + 1)))]) (by simp) ?_
                                have z9 := ih_lp1 (r + 1) (by omega) (by omega) (lsA_s hA (fun _ => ⟨fun _ => (show owW w i r from (show ¬ (oI (moW w (rdA w r) i) = oI (moW w (rdB w r) i)) from c28)), fun _ => (show bwW w a r from (show ((w (9 + 2 * rdA w r) = a) ∧ (¬ (w (9 + 2 * rdB w r) = a))) ∨ ((¬ (w (9 + 2 * rdA w r) = a)) ∧ (w (9 + 2 * rdB w r) = a)) from (Or.inl ⟨c12, c26⟩)))⟩))
                                rw [show (bI (lsE w a i (r + 1))) = (nI (1)) from (by exact lsE_1 (Or.inr ⟨(show cwW w i r from (show (¬ (w (9 + 2 * rdA w r) = -1)) ∧ (¬ (w (9 + 2 * rdB w r) = -1)) ∧ (¬ (oI (moW w (rdA w r) i) = -1)) ∧ (¬ (oI (moW w (rdB w r) i) = -1)) from ⟨c3, c5, c7, c9⟩)), (show bwW w a r from (show ((w (9 + 2 * rdA w r) = a) ∧ (¬ (w (9 + 2 * rdB w r) = a))) ∨ ((¬ (w (9 + 2 * rdA w r) = a)) ∧ (w (9 + 2 * rdB w r) = a)) from (Or.inl ⟨c12, c26⟩)))⟩))] at z9
                                exact z9
                          · have c30 : ¬ 1 = 1 := c30
                            exact absurd c30 (by decide)
                    · have c26 : ((w (9 + 2 * (rdB w r)))) = ((a)) := c26
                      refine wn_ic (pc' := 121) (w := nI 1) rfl rfl (by decide) ?_
                      refine wn_jp (pc' := 125) rfl rfl ?_
                      refine wn_icmpN (t := 132) (f := 128) rfl rfl rfl (by omega) (by omega) (fun c33 => ?_) (fun c33 => ?_)
                      · have c33 : 1 = 1 := c33
                        refine wn_ic (pc' := 133) (w := nI 0) rfl rfl (by decide) ?_
                        refine wn_st (pc' := 135) (q := 8) (kin := 0) (lv' := [(0, .ref (71)), (1, .int (a)), (2, .int (nI (i))), (3, .int (bI (lsE w a i r))), (4, .int (nI (r))), (5, .int (nI (rdA w r))), (6, .int (nI (rdB w r))), (7, .int (nI (1))), (8, .int (nI (0)))]) rfl (fun _ _ _ => rfl) rfl (Nat.le_of_ble_eq_true rfl) rfl ?_
                        refine wn_ld (pc' := 136) (q := 0) (kin := 2) (v := .ref (71)) rfl (fun _ _ _ => rfl) rfl rfl ?_
                        refine wn_ld (pc' := 138) (q := 5) (kin := 0) (v := .int (nI (rdA w r))) rfl (fun _ _ _ => rfl) rfl rfl ?_
                        refine wn_ld (pc' := 139) (q := 2) (kin := 0) (v := .int (nI (i))) rfl (fun _ _ _ => rfl) rfl rfl ?_
                        refine wn_virI (pc' := 142) rfl rfl (by decide) rfl rfl hM (Nat.le_of_ble_eq_true rfl) (m_mostlyOf _ _ w hWf HM (rdA w r) i (by omega) (by omega)) ?_
                        refine wn_ld (pc' := 143) (q := 0) (kin := 2) (v := .ref (71)) rfl (fun _ _ _ => rfl) rfl rfl ?_
                        refine wn_ld (pc' := 145) (q := 6) (kin := 0) (v := .int (nI (rdB w r))) rfl (fun _ _ _ => rfl) rfl rfl ?_
                        refine wn_ld (pc' := 146) (q := 2) (kin := 0) (v := .int (nI (i))) rfl (fun _ _ _ => rfl) rfl rfl ?_
                        refine wn_virI (pc' := 149) rfl rfl (by decide) rfl rfl hM (Nat.le_of_ble_eq_true rfl) (m_mostlyOf _ _ w hWf HM (rdB w r) i (by omega) (by omega)) ?_
                        refine wn_icmp (t := 156) (f := 152) rfl rfl rfl (fun c34 => ?_) (fun c34 => ?_)
                        · have c34 : ((oI (moW w (rdA w r) i))) = ((oI (moW w (rdB w r) i))) := c34
                          refine wn_ic (pc' := 157) (w := nI 0) rfl rfl (by decide) ?_
                          refine wn_st (pc' := 159) (q := 9) (kin := 0) (lv' := [(0, .ref (71)), (1, .int (a)), (2, .int (nI (i))), (3, .int (bI (lsE w a i r))), (4, .int (nI (r))), (5, .int (nI (rdA w r))), (6, .int (nI (rdB w r))), (7, .int (nI (1))), (8, .int (nI (0))), (9, .int (nI (0)))]) rfl (fun _ _ _ => rfl) rfl (Nat.le_of_ble_eq_true rfl) rfl ?_
                          refine wn_ld (pc' := 161) (q := 8) (kin := 0) (v := .int (nI (0))) rfl (fun _ _ _ => rfl) rfl rfl ?_
                          refine wn_ld (pc' := 163) (q := 9) (kin := 0) (v := .int (nI (0))) rfl (fun _ _ _ => rfl) rfl rfl ?_
                          refine wn_icmpN (t := 168) (f := 166) rfl rfl rfl (by omega) (by omega) (fun c35 => ?_) (fun c35 => ?_)
                          · have c35 : 0 = 0 := c35
                            refine wn_ld (pc' := 169) (q := 3) (kin := 0) (v := .int (bI (lsE w a i r))) rfl (fun _ _ _ => rfl) rfl rfl ?_
                            refine wn_ifneB (t := 177) (f := 172) rfl rfl rfl (fun c36 => ?_) (fun c36 => ?_)
                            · have c36 : (lsE w a i r) := c36
                              refine wn_ic (pc' := 178) (w := nI 1) rfl rfl (by decide) ?_
                              refine wn_jp (pc' := 182) rfl rfl ?_
                              refine wn_st (pc' := 183) (q := 3) (kin := 0) (lv' := [(0, .ref (71)), (1, .int (a)), (2, .int (nI (i))), (3, .int (nI (1))), (4, .int (nI (r))), (5, .int (nI (rdA w r))), (6, .int (nI (rdB w r))), (7, .int (nI (1))), (8, .int (nI (0))), (9, .int (nI (0)))]) rfl (fun _ _ _ => rfl) rfl (Nat.le_of_ble_eq_true rfl) rfl ?_
                              refine wn_incN (n := 1) (pc' := 186) (lv' := [(0, .ref (71)), (1, .int (a)), (2, .int (nI (i))), (3, .int (nI (1))), (4, .int (nI (r + 1))), (5, .int (nI (rdA w r))), (6, .int (nI (rdB w r))), (7, .int (nI (1))), (8, .int (nI (0))), (9, .int (nI (0)))]) rfl rfl rfl (Nat.le_of_ble_eq_true rfl) rfl (by decide) ?_
                              refine wn_jp (pc' := 5) rfl rfl ?_
                              refine wn_weak (lv' := [(0, .ref (71)), (1, .int (a)), (2, .int (nI (i))), (3, .int (nI (1))), (4, .int (nI (r + 1)))]) (by simp) ?_
                              have z9 := ih_lp1 (r + 1) (by omega) (by omega) (lsA_s hA (fun _ => ⟨fun q => absurd q (show ¬ bwW w a r from (show ¬ (((w (9 + 2 * rdA w r) = a) ∧ (¬ (w (9 + 2 * rdB w r) = a))) ∨ ((¬ (w (9 + 2 * rdA w r) = a)) ∧ (w (9 + 2 * rdB w r) = a))) from (fun q7 => q7.elim (fun q8 => (fun q9 => q9 c26) q8.2) (fun q8 => (fun q9 => q9 c12) q8.1)))), fun q => absurd q (show ¬ owW w i r from (show ¬ (¬ (oI (moW w (rdA w r) i) = oI (moW w (rdB w r) i))) from (fun q9 => q9 c34)))⟩))
                              rw [show (bI (lsE w a i (r + 1))) = (nI (1)) from (by exact lsE_1 (Or.inl c36))] at z9
                              exact z9
                            · have c36 : ¬ (lsE w a i r) := c36
                              refine wn_ld (pc' := 174) (q := 8) (kin := 0) (v := .int (nI (0))) rfl (fun _ _ _ => rfl) rfl rfl ?_
                              refine wn_ifN (t := 181) (f := 177) rfl rfl rfl (by omega) (fun c37 => ?_) (fun c37 => ?_)
                              · have c37 : 0 = 0 := c37
                                refine wn_ic (pc' := 182) (w := nI 0) rfl rfl (by decide) ?_
                                refine wn_st (pc' := 183) (q := 3) (kin := 0) (lv' := [(0, .ref (71)), (1, .int (a)), (2, .int (nI (i))), (3, .int (nI (0))), (4, .int (nI (r))), (5, .int (nI (rdA w r))), (6, .int (nI (rdB w r))), (7, .int (nI (1))), (8, .int (nI (0))), (9, .int (nI (0)))]) rfl (fun _ _ _ => rfl) rfl (Nat.le_of_ble_eq_true rfl) rfl ?_
                                refine wn_incN (n := 1) (pc' := 186) (lv' := [(0, .ref (71)), (1, .int (a)), (2, .int (nI (i))), (3, .int (nI (0))), (4, .int (nI (r + 1))), (5, .int (nI (rdA w r))), (6, .int (nI (rdB w r))), (7, .int (nI (1))), (8, .int (nI (0))), (9, .int (nI (0)))]) rfl rfl rfl (Nat.le_of_ble_eq_true rfl) rfl (by decide) ?_
                                refine wn_jp (pc' := 5) rfl rfl ?_
                                refine wn_weak (lv' := [(0, .ref (71)), (1, .int (a)), (2, .int (nI (i))), (3, .int (nI (0))), (4, .int (nI (r + 1)))]) (by simp) ?_
                                have z9 := ih_lp1 (r + 1) (by omega) (by omega) (lsA_s hA (fun _ => ⟨fun q => absurd q (show ¬ bwW w a r from (show ¬ (((w (9 + 2 * rdA w r) = a) ∧ (¬ (w (9 + 2 * rdB w r) = a))) ∨ ((¬ (w (9 + 2 * rdA w r) = a)) ∧ (w (9 + 2 * rdB w r) = a))) from (fun q7 => q7.elim (fun q8 => (fun q9 => q9 c26) q8.2) (fun q8 => (fun q9 => q9 c12) q8.1)))), fun q => absurd q (show ¬ owW w i r from (show ¬ (¬ (oI (moW w (rdA w r) i) = oI (moW w (rdB w r) i))) from (fun q9 => q9 c34)))⟩))
                                rw [show (bI (lsE w a i (r + 1))) = (nI (0)) from (by exact lsE_0 c36 (show ¬ bwW w a r from (show ¬ (((w (9 + 2 * rdA w r) = a) ∧ (¬ (w (9 + 2 * rdB w r) = a))) ∨ ((¬ (w (9 + 2 * rdA w r) = a)) ∧ (w (9 + 2 * rdB w r) = a))) from (fun q7 => q7.elim (fun q8 => (fun q9 => q9 c26) q8.2) (fun q8 => (fun q9 => q9 c12) q8.1)))))] at z9
                                exact z9
                              · have c37 : ¬ 0 = 0 := c37
                                exact absurd c37 (by decide)
                          · have c35 : ¬ 0 = 0 := c35
                            exact absurd c35 (by decide)
                        · have c34 : ¬ ((oI (moW w (rdA w r) i))) = ((oI (moW w (rdB w r) i))) := c34
                          refine wn_ic (pc' := 153) (w := nI 1) rfl rfl (by decide) ?_
                          refine wn_jp (pc' := 157) rfl rfl ?_
                          refine wn_st (pc' := 159) (q := 9) (kin := 0) (lv' := [(0, .ref (71)), (1, .int (a)), (2, .int (nI (i))), (3, .int (bI (lsE w a i r))), (4, .int (nI (r))), (5, .int (nI (rdA w r))), (6, .int (nI (rdB w r))), (7, .int (nI (1))), (8, .int (nI (0))), (9, .int (nI (1)))]) rfl (fun _ _ _ => rfl) rfl (Nat.le_of_ble_eq_true rfl) rfl ?_
                          refine wn_ld (pc' := 161) (q := 8) (kin := 0) (v := .int (nI (0))) rfl (fun _ _ _ => rfl) rfl rfl ?_
                          refine wn_ld (pc' := 163) (q := 9) (kin := 0) (v := .int (nI (1))) rfl (fun _ _ _ => rfl) rfl rfl ?_
                          refine wn_icmpN (t := 168) (f := 166) rfl rfl rfl (by omega) (by omega) (fun c38 => ?_) (fun c38 => ?_)
                          · have c38 : 0 = 1 := c38
                            exact absurd c38 (by decide)
                          · have c38 : ¬ 0 = 1 := c38
                            refine wn_ic (pc' := 167) (w := nI 0) rfl rfl (by decide) ?_
                            exact wn_iret rfl rfl (by decide) ⟨congrArg (fun z => some (Value.int z)) (bI_f0 (fun q => (show ¬ bwW w a r from (show ¬ (((w (9 + 2 * rdA w r) = a) ∧ (¬ (w (9 + 2 * rdB w r) = a))) ∨ ((¬ (w (9 + 2 * rdA w r) = a)) ∧ (w (9 + 2 * rdB w r) = a))) from (fun q7 => q7.elim (fun q8 => (fun q9 => q9 c26) q8.2) (fun q8 => (fun q9 => q9 c12) q8.1)))) ((q.1 r (by omega) (show cwW w i r from (show (¬ (w (9 + 2 * rdA w r) = -1)) ∧ (¬ (w (9 + 2 * rdB w r) = -1)) ∧ (¬ (oI (moW w (rdA w r) i) = -1)) ∧ (¬ (oI (moW w (rdB w r) i) = -1)) from ⟨c3, c5, c7, c9⟩))).mpr (show owW w i r from (show ¬ (oI (moW w (rdA w r) i) = oI (moW w (rdB w r) i)) from c34))))), rfl⟩
                      · have c33 : ¬ 1 = 1 := c33
                        exact absurd c33 (by decide)
                · have c11 : 1 = 0 := c11
                  exact absurd c11 (by decide)
  refine wn_weak (lv' := [(0, .ref (71)), (1, .int (a)), (2, .int (nI (i))), (3, .int (nI (0))), (4, .int (nI (0)))]) (by simp) ?_
  have z9 := lp1 ((nrW w) + 1) 0 (by omega) (by omega) (fun r9 q => absurd q (by omega))
  rw [show (bI (lsE w a i 0)) = (nI (0)) from (by exact (bI_f0 (fun ⟨r9, q, _⟩ => absurd q (by omega))).symm)] at z9
  exact z9

theorem m_isAsker (d : Nat) (h : aH) (a : Int32) : Rn (d + 2) 233 [.ref (71), .int (a)] h (some (.int (bI (iin a 6)))) h 0 0 := by
  refine Rn_of (by decide) (Nat.le_of_ble_eq_true rfl) ?_
  show Wn _ _ 0 [(0, .ref (71)), (1, .int (a))] [] _ _
  refine wn_ld (pc' := 1) (q := 1) (kin := 0) (v := .int (a)) rfl (fun _ _ _ => rfl) rfl rfl ?_
  refine wn_pu (pc' := 2) (st' := [.long (Int32.toInt64 (a))]) rfl (fun _ _ _ => rfl) rfl rfl ?_
  refine wn_pu (pc' := 3) (st' := .long (lN 0) :: [.long (Int32.toInt64 (a))]) rfl (fun _ _ _ => rfl) rfl rfl ?_
  refine wn_go (pc' := 6) (lv' := [(0, .ref (71)), (1, .int (a))]) (st' := [.long ((5 : Int64)), .long (lN 0), .long (Int32.toInt64 (a))]) rfl (fun _ _ _ k9 => k9) ?_
  refine wn_staI (pc' := 9) rfl rfl (by decide) rfl rfl (Nat.le_of_ble_eq_true rfl) (m_inK _ _ a 5 ((5 : Int64)) (by decide)) ?_
  exact wn_iret rfl rfl (nar_bI _) ⟨rfl, rfl⟩

noncomputable def leansA (w : Nat → Int32) (a i : Int32) : Int32 := qI (iin a 6 ∧ iin i (ntW w)) (bI (lsW w a i.toNatClampNeg)) (-2)
theorem m_leans (d : Nat) (h : aH) (w : Nat → Int32) (hWf : WfW w) (HQ : MQs h w) (a i : Int32) : Sp (Rn (d + 4)) 234 [.ref (71), .int (a), .int (i)] h (fun r9 h9 => r9 = some (.int (leansA w a i)) ∧ RQ h h9 w) := by
  obtain ⟨⟨e1, e2⟩, ⟨e3, e4⟩, ⟨e5, e6⟩⟩ := Wf_n hWf
  obtain ⟨⟨e7, e8⟩, ⟨e9, e10⟩⟩ := Wf_m hWf
  have p2b := stN_le hWf
  obtain ⟨th, tp, sz, at9, fr, tk, vl, fk, fp, il, up, lo, sa9, tn, q0, q1, q2, q3, q4⟩ := id HQ
  refine Sp_of (by decide) (Nat.le_of_ble_eq_true rfl) ?_
  show Wn _ _ 0 [(0, .ref (71)), (1, .int (a)), (2, .int (i))] [] _ _
  refine wn_ld (pc' := 1) (q := 0) (kin := 2) (v := .ref (71)) rfl (fun _ _ _ => rfl) rfl rfl ?_
  refine wn_ld (pc' := 2) (q := 1) (kin := 0) (v := .int (a)) rfl (fun _ _ _ => rfl) rfl rfl ?_
  refine wn_virI (pc' := 5) rfl rfl (by decide) rfl rfl q0 (Nat.le_of_ble_eq_true rfl) (m_isAsker _ _ _) ?_
  refine wn_ifeqB (t := 16) (f := 8) rfl rfl rfl (fun c1 => ?_) (fun c1 => ?_)
  · have c1 : ¬ (iin a 6) := c1
    refine wn_bp (pc' := 18) (w := -2) rfl rfl (by decide) ?_
    try simp only [Int32.lt_iff_toInt_lt, Int32.le_iff_toInt_le, i2l_int, Int32.toInt_zero, iin] at c1
    refine wn_iret rfl rfl rfl ⟨congrArg (fun z => some (Value.int z)) ?_, (RQ.rfl' HQ)⟩
    unfold leansA
    rw [qI_f (by simp only [iin]; omega)]
  · have c1 : (iin a 6) := c1
    obtain ⟨a9, ha9, rfl⟩ := iin_of c1
    have ti_a := nI_toInt (n := a9) (show a9 < 2 ^ 31 by omega)
    have cl_a := nI_clamp (n := a9) (show a9 < 2 ^ 31 by omega)
    refine wn_ld (pc' := 9) (q := 0) (kin := 2) (v := .ref (71)) rfl (fun _ _ _ => rfl) rfl rfl ?_
    refine wn_ld (pc' := 10) (q := 2) (kin := 0) (v := .int (i)) rfl (fun _ _ _ => rfl) rfl rfl ?_
    refine wn_virI (pc' := 13) rfl rfl (by decide) rfl rfl q0 (Nat.le_of_ble_eq_true rfl) (m_isItem _ _ w HQ.mh _ e5 (by omega) _) ?_
    refine wn_ifneB (t := 19) (f := 16) rfl rfl rfl (fun c2 => ?_) (fun c2 => ?_)
    · have c2 : (iin i (ntW w)) := c2
      obtain ⟨i9, hi9, rfl⟩ := iin_of c2
      have ti_i := nI_toInt (n := i9) (show i9 < 2 ^ 31 by omega)
      have cl_i := nI_clamp (n := i9) (show i9 < 2 ^ 31 by omega)
      refine wn_ld (pc' := 20) (q := 0) (kin := 2) (v := .ref (71)) rfl (fun _ _ _ => rfl) rfl rfl ?_
      refine wn_ld (pc' := 21) (q := 1) (kin := 0) (v := .int (nI (a9))) rfl (fun _ _ _ => rfl) rfl rfl ?_
      refine wn_ld (pc' := 22) (q := 2) (kin := 0) (v := .int (nI (i9))) rfl (fun _ _ _ => rfl) rfl rfl ?_
      refine wn_virI (pc' := 25) rfl rfl (by decide) rfl rfl q0 (Nat.le_of_ble_eq_true rfl) (m_leansIn _ _ w hWf HQ.mh (nI (a9)) i9 (by omega)) ?_
      refine wn_ifeqB (t := 32) (f := 28) rfl rfl rfl (fun c3 => ?_) (fun c3 => ?_)
      · have c3 : ¬ (lsW w (nI (a9)) i9) := c3
        refine wn_ic (pc' := 33) (w := nI 0) rfl rfl (by decide) ?_
        try simp only [Int32.lt_iff_toInt_lt, Int32.le_iff_toInt_le, i2l_int, Int32.toInt_zero, iin] at c1
        try simp only [Int32.lt_iff_toInt_lt, Int32.le_iff_toInt_le, i2l_int, Int32.toInt_zero, iin] at c2
        try simp only [Int32.lt_iff_toInt_lt, Int32.le_iff_toInt_le, i2l_int, Int32.toInt_zero, iin] at c3
        refine wn_iret rfl rfl rfl ⟨congrArg (fun z => some (Value.int z)) ?_, (RQ.rfl' HQ)⟩
        unfold leansA
        rw [qI_t (by simp only [iin]; omega)]
        simp only [cl_a, cl_i]
        exact bI_f0 c3
      · have c3 : (lsW w (nI (a9)) i9) := c3
        refine wn_ic (pc' := 29) (w := nI 1) rfl rfl (by decide) ?_
        refine wn_jp (pc' := 33) rfl rfl ?_
        try simp only [Int32.lt_iff_toInt_lt, Int32.le_iff_toInt_le, i2l_int, Int32.toInt_zero, iin] at c1
        try simp only [Int32.lt_iff_toInt_lt, Int32.le_iff_toInt_le, i2l_int, Int32.toInt_zero, iin] at c2
        try simp only [Int32.lt_iff_toInt_lt, Int32.le_iff_toInt_le, i2l_int, Int32.toInt_zero, iin] at c3
        refine wn_iret rfl rfl rfl ⟨congrArg (fun z => some (Value.int z)) ?_, (RQ.rfl' HQ)⟩
        unfold leansA
        rw [qI_t (by simp only [iin]; omega)]
        simp only [cl_a, cl_i]
        exact bI_t1 c3
    · have c2 : ¬ (iin i (ntW w)) := c2
      refine wn_bp (pc' := 18) (w := -2) rfl rfl (by decide) ?_
      try simp only [Int32.lt_iff_toInt_lt, Int32.le_iff_toInt_le, i2l_int, Int32.toInt_zero, iin] at c1
      try simp only [Int32.lt_iff_toInt_lt, Int32.le_iff_toInt_le, i2l_int, Int32.toInt_zero, iin] at c2
      refine wn_iret rfl rfl rfl ⟨congrArg (fun z => some (Value.int z)) ?_, (RQ.rfl' HQ)⟩
      unfold leansA
      rw [qI_f (by simp only [iin]; omega)]

noncomputable def leanA (w : Nat → Int32) (a i : Int32) : Int32 := qI (iin a 6 ∧ iin i (ntW w)) (qI (lsW w a i.toNatClampNeg) (leS (lnC w a i.toNatClampNeg) 5).1 (-1)) (-2)
theorem m_lean (d : Nat) (h : aH) (w : Nat → Int32) (hWf : WfW w) (HQ : MQs h w) (a i : Int32) : Sp (Rn (d + 4)) 235 [.ref (71), .int (a), .int (i)] h (fun r9 h9 => r9 = some (.int (leanA w a i)) ∧ RQ h h9 w) := by
  obtain ⟨⟨e1, e2⟩, ⟨e3, e4⟩, ⟨e5, e6⟩⟩ := Wf_n hWf
  obtain ⟨⟨e7, e8⟩, ⟨e9, e10⟩⟩ := Wf_m hWf
  have p2b := stN_le hWf
  obtain ⟨th, tp, sz, at9, fr, tk, vl, fk, fp, il, up, lo, sa9, tn, q0, q1, q2, q3, q4⟩ := id HQ
  refine Sp_of (by decide) (Nat.le_of_ble_eq_true rfl) ?_
  show Wn _ _ 0 [(0, .ref (71)), (1, .int (a)), (2, .int (i))] [] _ _
  refine wn_ld (pc' := 1) (q := 0) (kin := 2) (v := .ref (71)) rfl (fun _ _ _ => rfl) rfl rfl ?_
  refine wn_ld (pc' := 2) (q := 1) (kin := 0) (v := .int (a)) rfl (fun _ _ _ => rfl) rfl rfl ?_
  refine wn_virI (pc' := 5) rfl rfl (by decide) rfl rfl q0 (Nat.le_of_ble_eq_true rfl) (m_isAsker _ _ _) ?_
  refine wn_ifeqB (t := 16) (f := 8) rfl rfl rfl (fun c1 => ?_) (fun c1 => ?_)
  · have c1 : ¬ (iin a 6) := c1
    refine wn_bp (pc' := 18) (w := -2) rfl rfl (by decide) ?_
    try simp only [Int32.lt_iff_toInt_lt, Int32.le_iff_toInt_le, i2l_int, Int32.toInt_zero, iin] at c1
    refine wn_iret rfl rfl rfl ⟨congrArg (fun z => some (Value.int z)) ?_, (RQ.rfl' HQ)⟩
    unfold leanA
    rw [qI_f (by simp only [iin]; omega)]
  · have c1 : (iin a 6) := c1
    obtain ⟨a9, ha9, rfl⟩ := iin_of c1
    have ti_a := nI_toInt (n := a9) (show a9 < 2 ^ 31 by omega)
    have cl_a := nI_clamp (n := a9) (show a9 < 2 ^ 31 by omega)
    refine wn_ld (pc' := 9) (q := 0) (kin := 2) (v := .ref (71)) rfl (fun _ _ _ => rfl) rfl rfl ?_
    refine wn_ld (pc' := 10) (q := 2) (kin := 0) (v := .int (i)) rfl (fun _ _ _ => rfl) rfl rfl ?_
    refine wn_virI (pc' := 13) rfl rfl (by decide) rfl rfl q0 (Nat.le_of_ble_eq_true rfl) (m_isItem _ _ w HQ.mh _ e5 (by omega) _) ?_
    refine wn_ifneB (t := 19) (f := 16) rfl rfl rfl (fun c2 => ?_) (fun c2 => ?_)
    · have c2 : (iin i (ntW w)) := c2
      obtain ⟨i9, hi9, rfl⟩ := iin_of c2
      have ti_i := nI_toInt (n := i9) (show i9 < 2 ^ 31 by omega)
      have cl_i := nI_clamp (n := i9) (show i9 < 2 ^ 31 by omega)
      refine wn_ld (pc' := 20) (q := 0) (kin := 2) (v := .ref (71)) rfl (fun _ _ _ => rfl) rfl rfl ?_
      refine wn_ld (pc' := 21) (q := 1) (kin := 0) (v := .int (nI (a9))) rfl (fun _ _ _ => rfl) rfl rfl ?_
      refine wn_ld (pc' := 22) (q := 2) (kin := 0) (v := .int (nI (i9))) rfl (fun _ _ _ => rfl) rfl rfl ?_
      refine wn_virI (pc' := 25) rfl rfl (by decide) rfl rfl q0 (Nat.le_of_ble_eq_true rfl) (m_leansIn _ _ w hWf HQ.mh (nI (a9)) i9 (by omega)) ?_
      refine wn_ifneB (t := 30) (f := 28) rfl rfl rfl (fun c3 => ?_) (fun c3 => ?_)
      · have c3 : (lsW w (nI (a9)) i9) := c3
        refine wn_ic (pc' := 31) (w := -1) rfl rfl (by decide) ?_
        refine wn_st (pc' := 32) (q := 3) (kin := 0) (lv' := [(0, .ref (71)), (1, .int (nI (a9))), (2, .int (nI (i9))), (3, .int (-1))]) rfl (fun _ _ _ => rfl) rfl (Nat.le_of_ble_eq_true rfl) rfl ?_
        refine wn_ic (pc' := 33) (w := nI 0) rfl rfl (by decide) ?_
        refine wn_st (pc' := 35) (q := 4) (kin := 0) (lv' := [(0, .ref (71)), (1, .int (nI (a9))), (2, .int (nI (i9))), (3, .int (-1)), (4, .int (nI (0)))]) rfl (fun _ _ _ => rfl) rfl (Nat.le_of_ble_eq_true rfl) rfl ?_
        refine wn_ic (pc' := 36) (w := nI 0) rfl rfl (by decide) ?_
        refine wn_st (pc' := 38) (q := 5) (kin := 0) (lv' := [(0, .ref (71)), (1, .int (nI (a9))), (2, .int (nI (i9))), (3, .int (-1)), (4, .int (nI (0))), (5, .int (nI (0)))]) rfl (fun _ _ _ => rfl) rfl (Nat.le_of_ble_eq_true rfl) rfl ?_
        have lp4 : ∀ (n_lp4 : Nat) (x : Nat), 5 + 1 ≤ x + n_lp4 → x ≤ 5 → Wn (Rn (d + 3)) 235 38 [(0, .ref (71)), (1, .int (nI (a9))), (2, .int (nI (i9))), (3, .int ((leS (lnC w (nI a9) i9) x).1)), (4, .int (nI ((leS (lnC w (nI a9) i9) x).2))), (5, .int (nI (x)))] [] (h) (fun r9 h9 => r9 = some (.int (leanA w (nI a9) (nI i9))) ∧ RQ h h9 w) := by
          intro n_lp4
          induction n_lp4 with
          | zero => intro x hm_lp4 hx; exfalso; omega
          | succ n_lp4 ih_lp4 =>
            intro x hm_lp4 hx
            have := leS_le (fun k => lnC_le hWf (nI a9) i9 k) x
            refine wn_ld (pc' := 40) (q := 5) (kin := 0) (v := .int (nI (x))) rfl (fun _ _ _ => rfl) rfl rfl ?_
            refine wn_ic (pc' := 41) (w := nI 5) rfl rfl (by decide) ?_
            refine wn_icmpN (t := 123) (f := 44) rfl rfl rfl (by omega) (by omega) (fun c5 => ?_) (fun c5 => ?_)
            · have c5 : 5 ≤ x := c5
              obtain rfl : x = 5 := by omega
              refine wn_ld (pc' := 124) (q := 3) (kin := 0) (v := .int ((leS (lnC w (nI a9) i9) 5).1)) rfl (fun _ _ _ => rfl) rfl rfl ?_
              try simp only [Int32.lt_iff_toInt_lt, Int32.le_iff_toInt_le, i2l_int, Int32.toInt_zero, iin] at c1
              try simp only [Int32.lt_iff_toInt_lt, Int32.le_iff_toInt_le, i2l_int, Int32.toInt_zero, iin] at c2
              try simp only [Int32.lt_iff_toInt_lt, Int32.le_iff_toInt_le, i2l_int, Int32.toInt_zero, iin] at c3
              refine wn_iret rfl rfl rfl ⟨congrArg (fun z => some (Value.int z)) ?_, (RQ.rfl' HQ)⟩
              unfold leanA
              rw [qI_t (by simp only [iin]; omega)]
              simp only [cl_a, cl_i]
              exact (qI_t c3).symm
            · have c5 : x < 5 := c5
              refine wn_ic (pc' := 45) (w := nI 0) rfl rfl (by decide) ?_
              refine wn_st (pc' := 47) (q := 6) (kin := 0) (lv' := [(0, .ref (71)), (1, .int (nI (a9))), (2, .int (nI (i9))), (3, .int ((leS (lnC w (nI a9) i9) x).1)), (4, .int (nI ((leS (lnC w (nI a9) i9) x).2))), (5, .int (nI (x))), (6, .int (nI (0)))]) rfl (fun _ _ _ => rfl) rfl (Nat.le_of_ble_eq_true rfl) rfl ?_
              refine wn_ic (pc' := 48) (w := nI 0) rfl rfl (by decide) ?_
              refine wn_st (pc' := 50) (q := 7) (kin := 0) (lv' := [(0, .ref (71)), (1, .int (nI (a9))), (2, .int (nI (i9))), (3, .int ((leS (lnC w (nI a9) i9) x).1)), (4, .int (nI ((leS (lnC w (nI a9) i9) x).2))), (5, .int (nI (x))), (6, .int (nI (0))), (7, .int (nI (0)))]) rfl (fun _ _ _ => rfl) rfl (Nat.le_of_ble_eq_true rfl) rfl ?_
              have lp6 : ∀ (n_lp6 : Nat) (v : Nat), (nvW w) + 1 ≤ v + n_lp6 → v ≤ nvW w → Wn (Rn (d + 3)) 235 50 [(0, .ref (71)), (1, .int (nI (a9))), (2, .int (nI (i9))), (3, .int ((leS (lnC w (nI a9) i9) x).1)), (4, .int (nI ((leS (lnC w (nI a9) i9) x).2))), (5, .int (nI (x))), (6, .int (nI (cntP (fun x7 => (w (9 + 2 * x7) = nI a9) ∧ (oI (moW w x7 i9) = nI x)) v))), (7, .int (nI (v)))] [] (h) (fun r9 h9 => r9 = some (.int (leanA w (nI a9) (nI i9))) ∧ RQ h h9 w) := by
                intro n_lp6
                induction n_lp6 with
                | zero => intro v hm_lp6 hv; exfalso; omega
                | succ n_lp6 ih_lp6 =>
                  intro v hm_lp6 hv
                  have := cntP_le (fun x7 => (w (9 + 2 * x7) = nI a9) ∧ (oI (moW w x7 i9) = nI x)) v
                  refine wn_ld (pc' := 52) (q := 7) (kin := 0) (v := .int (nI (v))) rfl (fun _ _ _ => rfl) rfl rfl ?_
                  refine wn_ld (pc' := 53) (q := 0) (kin := 2) (v := .ref (71)) rfl (fun _ _ _ => rfl) rfl rfl ?_
                  refine wn_get (pc' := 56) (v := .ref (72)) rfl rfl q0 rfl ?_
                  refine wn_ic (pc' := 57) (w := nI 1) rfl rfl (by decide) ?_
                  refine wn_ialdv (pc' := 58) (j := 1) (v := (nI (nvW w))) rfl rfl q1 rfl (by omega) (by decide) (e1) ?_
                  refine wn_icmpN (t := 100) (f := 61) rfl rfl rfl (by omega) (by omega) (fun c7 => ?_) (fun c7 => ?_)
                  · have c7 : (nvW w) ≤ v := c7
                    obtain rfl : v = nvW w := by omega
                    have := lnC_le hWf (nI a9) i9 x
                    show Wn _ _ 100 [(0, .ref (71)), (1, .int (nI (a9))), (2, .int (nI (i9))), (3, .int ((leS (lnC w (nI a9) i9) x).1)), (4, .int (nI ((leS (lnC w (nI a9) i9) x).2))), (5, .int (nI (x))), (6, .int (nI (lnC w (nI a9) i9 x))), (7, .int (nI ((nvW w))))] _ _ _
                    refine wn_ld (pc' := 102) (q := 6) (kin := 0) (v := .int (nI (lnC w (nI a9) i9 x))) rfl (fun _ _ _ => rfl) rfl rfl ?_
                    refine wn_ld (pc' := 104) (q := 4) (kin := 0) (v := .int (nI ((leS (lnC w (nI a9) i9) x).2))) rfl (fun _ _ _ => rfl) rfl rfl ?_
                    refine wn_icmpN (t := 110) (f := 107) rfl rfl rfl (by omega) (by omega) (fun c8 => ?_) (fun c8 => ?_)
                    · have c8 : ((leS (lnC w (nI a9) i9) x).2) < (lnC w (nI a9) i9 x) := c8
                      refine wn_ld (pc' := 112) (q := 5) (kin := 0) (v := .int (nI (x))) rfl (fun _ _ _ => rfl) rfl rfl ?_
                      refine wn_st (pc' := 113) (q := 3) (kin := 0) (lv' := [(0, .ref (71)), (1, .int (nI (a9))), (2, .int (nI (i9))), (3, .int (nI (x))), (4, .int (nI ((leS (lnC w (nI a9) i9) x).2))), (5, .int (nI (x))), (6, .int (nI (lnC w (nI a9) i9 x))), (7, .int (nI ((nvW w))))]) rfl (fun _ _ _ => rfl) rfl (Nat.le_of_ble_eq_true rfl) rfl ?_
                      refine wn_ld (pc' := 115) (q := 6) (kin := 0) (v := .int (nI (lnC w (nI a9) i9 x))) rfl (fun _ _ _ => rfl) rfl rfl ?_
                      refine wn_st (pc' := 117) (q := 4) (kin := 0) (lv' := [(0, .ref (71)), (1, .int (nI (a9))), (2, .int (nI (i9))), (3, .int (nI (x))), (4, .int (nI (lnC w (nI a9) i9 x))), (5, .int (nI (x))), (6, .int (nI (lnC w (nI a9) i9 x))), (7, .int (nI ((nvW w))))]) rfl (fun _ _ _ => rfl) rfl (Nat.le_of_ble_eq_true rfl) rfl ?_
                      refine wn_incN (n := 1) (pc' := 120) (lv' := [(0, .ref (71)), (1, .int (nI (a9))), (2, .int (nI (i9))), (3, .int (nI (x))), (4, .int (nI (lnC w (nI a9) i9 x))), (5, .int (nI (x + 1))), (6, .int (nI (lnC w (nI a9) i9 x))), (7, .int (nI ((nvW w))))]) rfl rfl rfl (Nat.le_of_ble_eq_true rfl) rfl (by decide) ?_
                      refine wn_jp (pc' := 38) rfl rfl ?_
                      refine wn_weak (lv' := [(0, .ref (71)), (1, .int (nI (a9))), (2, .int (nI (i9))), (3, .int (nI (x))), (4, .int (nI (lnC w (nI a9) i9 x))), (5, .int (nI (x + 1)))]) (by simp) ?_
                      have z9 := ih_lp4 (x + 1) (by omega) (by omega)
                      rw [show ((leS (lnC w (nI a9) i9) (x + 1)).1) = (nI (x)) from (by exact congrArg Prod.fst (leS_t (f := lnC w (nI a9) i9) (k := x) (by omega)))] at z9
                      rw [show (nI ((leS (lnC w (nI a9) i9) (x + 1)).2)) = (nI (lnC w (nI a9) i9 x)) from (by exact congrArg (fun q => nI q.2) (leS_t (f := lnC w (nI a9) i9) (k := x) (by omega)))] at z9
                      exact z9
                    · have c8 : (lnC w (nI a9) i9 x) ≤ ((leS (lnC w (nI a9) i9) x).2) := c8
                      refine wn_jp (pc' := 117) rfl rfl ?_
                      refine wn_incN (n := 1) (pc' := 120) (lv' := [(0, .ref (71)), (1, .int (nI (a9))), (2, .int (nI (i9))), (3, .int ((leS (lnC w (nI a9) i9) x).1)), (4, .int (nI ((leS (lnC w (nI a9) i9) x).2))), (5, .int (nI (x + 1))), (6, .int (nI (lnC w (nI a9) i9 x))), (7, .int (nI ((nvW w))))]) rfl rfl rfl (Nat.le_of_ble_eq_true rfl) rfl (by decide) ?_
                      refine wn_jp (pc' := 38) rfl rfl ?_
                      refine wn_weak (lv' := [(0, .ref (71)), (1, .int (nI (a9))), (2, .int (nI (i9))), (3, .int ((leS (lnC w (nI a9) i9) x).1)), (4, .int (nI ((leS (lnC w (nI a9) i9) x).2))), (5, .int (nI (x + 1)))]) (by simp) ?_
                      have z9 := ih_lp4 (x + 1) (by omega) (by omega)
                      rw [show ((leS (lnC w (nI a9) i9) (x + 1)).1) = ((leS (lnC w (nI a9) i9) x).1) from (by exact congrArg Prod.fst (leS_f (f := lnC w (nI a9) i9) (k := x) (by omega)))] at z9
                      rw [show (nI ((leS (lnC w (nI a9) i9) (x + 1)).2)) = (nI ((leS (lnC w (nI a9) i9) x).2)) from (by exact congrArg (fun q => nI q.2) (leS_f (f := lnC w (nI a9) i9) (k := x) (by omega)))] at z9
                      exact z9
                  · have c7 : v < (nvW w) := c7
                    refine wn_ld (pc' := 63) (q := 6) (kin := 0) (v := .int (nI (cntP (fun x7 => (w (9 + 2 * x7) = nI a9) ∧ (oI (moW w x7 i9) = nI x)) v))) rfl (fun _ _ _ => rfl) rfl rfl ?_
                    refine wn_ld (pc' := 64) (q := 0) (kin := 2) (v := .ref (71)) rfl (fun _ _ _ => rfl) rfl rfl ?_
                    refine wn_ld (pc' := 66) (q := 7) (kin := 0) (v := .int (nI (v))) rfl (fun _ _ _ => rfl) rfl rfl ?_
                    refine wn_ic (pc' := 67) (w := nI 1) rfl rfl (by decide) ?_
                    refine wn_virI (pc' := 70) rfl rfl (by decide) rfl rfl q0 (Nat.le_of_ble_eq_true rfl) (m_ofVillage _ _ w HQ.mh v 1 (by omega)) ?_
                    rw [show 8 + 2 * v + 1 = 9 + 2 * v by omega]
                    refine wn_ld (pc' := 71) (q := 1) (kin := 0) (v := .int (nI (a9))) rfl (fun _ _ _ => rfl) rfl rfl ?_
                    refine wn_icmp (t := 90) (f := 74) rfl rfl rfl (fun c9 => ?_) (fun c9 => ?_)
                    · have c9 : ¬ ((w (9 + 2 * v))) = ((nI (a9))) := c9
                      refine wn_ic (pc' := 91) (w := nI 0) rfl rfl (by decide) ?_
                      refine wn_addN (pc' := 92) rfl rfl ?_
                      refine wn_st (pc' := 94) (q := 6) (kin := 0) (lv' := [(0, .ref (71)), (1, .int (nI (a9))), (2, .int (nI (i9))), (3, .int ((leS (lnC w (nI a9) i9) x).1)), (4, .int (nI ((leS (lnC w (nI a9) i9) x).2))), (5, .int (nI (x))), (6, .int (nI ((cntP (fun x7 => (w (9 + 2 * x7) = nI a9) ∧ (oI (moW w x7 i9) = nI x)) v) + 0))), (7, .int (nI (v)))]) rfl (fun _ _ _ => rfl) rfl (Nat.le_of_ble_eq_true rfl) rfl ?_
                      refine wn_incN (n := 1) (pc' := 97) (lv' := [(0, .ref (71)), (1, .int (nI (a9))), (2, .int (nI (i9))), (3, .int ((leS (lnC w (nI a9) i9) x).1)), (4, .int (nI ((leS (lnC w (nI a9) i9) x).2))), (5, .int (nI (x))), (6, .int (nI ((cntP (fun x7 => (w (9 + 2 * x7) = nI a9) ∧ (oI (moW w x7 i9) = nI x)) v) + 0))), (7, .int (nI (v + 1)))]) rfl rfl rfl (Nat.le_of_ble_eq_true rfl) rfl (by decide) ?_
                      refine wn_jp (pc' := 50) rfl rfl ?_
                      refine wn_weak (lv' := [(0, .ref (71)), (1, .int (nI (a9))), (2, .int (nI (i9))), (3, .int ((leS (lnC w (nI a9) i9) x).1)), (4, .int (nI ((leS (lnC w (nI a9) i9) x).2))), (5, .int (nI (x))), (6, .int (nI ((cntP (fun x7 => (w (9 + 2 * x7) = nI a9) ∧ (oI (moW w x7 i9) = nI x)) v) + 0))), (7, .int (nI (v + 1)))]) (by simp) ?_
                      have z9 := ih_lp6 (v + 1) (by omega) (by omega)
                      rw [show (nI (cntP (fun x7 => (w (9 + 2 * x7) = nI a9) ∧ (oI (moW w x7 i9) = nI x)) (v + 1))) = (nI ((cntP (fun x7 => (w (9 + 2 * x7) = nI a9) ∧ (oI (moW w x7 i9) = nI x)) v) + 0)) from (by exact congrArg nI (cntP_f (p := fun x7 => (w (9 + 2 * x7) = nI a9) ∧ (oI (moW w x7 i9) = nI x)) (fun q8 => c9 q8.1)))] at z9
                      exact z9
                    · have c9 : ((w (9 + 2 * v))) = ((nI (a9))) := c9
                      refine wn_ld (pc' := 75) (q := 0) (kin := 2) (v := .ref (71)) rfl (fun _ _ _ => rfl) rfl rfl ?_
                      refine wn_ld (pc' := 77) (q := 7) (kin := 0) (v := .int (nI (v))) rfl (fun _ _ _ => rfl) rfl rfl ?_
                      refine wn_ld (pc' := 78) (q := 2) (kin := 0) (v := .int (nI (i9))) rfl (fun _ _ _ => rfl) rfl rfl ?_
                      refine wn_virI (pc' := 81) rfl rfl (by decide) rfl rfl q0 (Nat.le_of_ble_eq_true rfl) (m_mostlyOf _ _ w hWf HQ.mh v i9 (by omega) (by omega)) ?_
                      refine wn_ld (pc' := 83) (q := 5) (kin := 0) (v := .int (nI (x))) rfl (fun _ _ _ => rfl) rfl rfl ?_
                      refine wn_icmp (t := 90) (f := 86) rfl rfl rfl (fun c10 => ?_) (fun c10 => ?_)
                      · have c10 : ¬ ((oI (moW w v i9))) = ((nI (x))) := c10
                        refine wn_ic (pc' := 91) (w := nI 0) rfl rfl (by decide) ?_
                        refine wn_addN (pc' := 92) rfl rfl ?_
                        refine wn_st (pc' := 94) (q := 6) (kin := 0) (lv' := [(0, .ref (71)), (1, .int (nI (a9))), (2, .int (nI (i9))), (3, .int ((leS (lnC w (nI a9) i9) x).1)), (4, .int (nI ((leS (lnC w (nI a9) i9) x).2))), (5, .int (nI (x))), (6, .int (nI ((cntP (fun x7 => (w (9 + 2 * x7) = nI a9) ∧ (oI (moW w x7 i9) = nI x)) v) + 0))), (7, .int (nI (v)))]) rfl (fun _ _ _ => rfl) rfl (Nat.le_of_ble_eq_true rfl) rfl ?_
                        refine wn_incN (n := 1) (pc' := 97) (lv' := [(0, .ref (71)), (1, .int (nI (a9))), (2, .int (nI (i9))), (3, .int ((leS (lnC w (nI a9) i9) x).1)), (4, .int (nI ((leS (lnC w (nI a9) i9) x).2))), (5, .int (nI (x))), (6, .int (nI ((cntP (fun x7 => (w (9 + 2 * x7) = nI a9) ∧ (oI (moW w x7 i9) = nI x)) v) + 0))), (7, .int (nI (v + 1)))]) rfl rfl rfl (Nat.le_of_ble_eq_true rfl) rfl (by decide) ?_
                        refine wn_jp (pc' := 50) rfl rfl ?_
                        refine wn_weak (lv' := [(0, .ref (71)), (1, .int (nI (a9))), (2, .int (nI (i9))), (3, .int ((leS (lnC w (nI a9) i9) x).1)), (4, .int (nI ((leS (lnC w (nI a9) i9) x).2))), (5, .int (nI (x))), (6, .int (nI ((cntP (fun x7 => (w (9 + 2 * x7) = nI a9) ∧ (oI (moW w x7 i9) = nI x)) v) + 0))), (7, .int (nI (v + 1)))]) (by simp) ?_
                        have z9 := ih_lp6 (v + 1) (by omega) (by omega)
                        rw [show (nI (cntP (fun x7 => (w (9 + 2 * x7) = nI a9) ∧ (oI (moW w x7 i9) = nI x)) (v + 1))) = (nI ((cntP (fun x7 => (w (9 + 2 * x7) = nI a9) ∧ (oI (moW w x7 i9) = nI x)) v) + 0)) from (by exact congrArg nI (cntP_f (p := fun x7 => (w (9 + 2 * x7) = nI a9) ∧ (oI (moW w x7 i9) = nI x)) (fun q8 => c10 q8.2)))] at z9
                        exact z9
                      · have c10 : ((oI (moW w v i9))) = ((nI (x))) := c10
                        refine wn_ic (pc' := 87) (w := nI 1) rfl rfl (by decide) ?_
                        refine wn_jp (pc' := 91) rfl rfl ?_
                        refine wn_addN (pc' := 92) rfl rfl ?_
                        refine wn_st (pc' := 94) (q := 6) (kin := 0) (lv' := [(0, .ref (71)), (1, .int (nI (a9))), (2, .int (nI (i9))), (3, .int ((leS (lnC w (nI a9) i9) x).1)), (4, .int (nI ((leS (lnC w (nI a9) i9) x).2))), (5, .int (nI (x))), (6, .int (nI ((cntP (fun x7 => (w (9 + 2 * x7) = nI a9) ∧ (oI (moW w x7 i9) = nI x)) v) + 1))), (7, .int (nI (v)))]) rfl (fun _ _ _ => rfl) rfl (Nat.le_of_ble_eq_true rfl) rfl ?_
                        refine wn_incN (n := 1) (pc' := 97) (lv' := [(0, .ref (71)), (1, .int (nI (a9))), (2, .int (nI (i9))), (3, .int ((leS (lnC w (nI a9) i9) x).1)), (4, .int (nI ((leS (lnC w (nI a9) i9) x).2))), (5, .int (nI (x))), (6, .int (nI ((cntP (fun x7 => (w (9 + 2 * x7) = nI a9) ∧ (oI (moW w x7 i9) = nI x)) v) + 1))), (7, .int (nI (v + 1)))]) rfl rfl rfl (Nat.le_of_ble_eq_true rfl) rfl (by decide) ?_
                        refine wn_jp (pc' := 50) rfl rfl ?_
                        refine wn_weak (lv' := [(0, .ref (71)), (1, .int (nI (a9))), (2, .int (nI (i9))), (3, .int ((leS (lnC w (nI a9) i9) x).1)), (4, .int (nI ((leS (lnC w (nI a9) i9) x).2))), (5, .int (nI (x))), (6, .int (nI ((cntP (fun x7 => (w (9 + 2 * x7) = nI a9) ∧ (oI (moW w x7 i9) = nI x)) v) + 1))), (7, .int (nI (v + 1)))]) (by simp) ?_
                        have z9 := ih_lp6 (v + 1) (by omega) (by omega)
                        rw [show (nI (cntP (fun x7 => (w (9 + 2 * x7) = nI a9) ∧ (oI (moW w x7 i9) = nI x)) (v + 1))) = (nI ((cntP (fun x7 => (w (9 + 2 * x7) = nI a9) ∧ (oI (moW w x7 i9) = nI x)) v) + 1)) from (by exact congrArg nI (cntP_t (p := fun x7 => (w (9 + 2 * x7) = nI a9) ∧ (oI (moW w x7 i9) = nI x)) ⟨c9, c10⟩))] at z9
                        exact z9
              refine wn_weak (lv' := [(0, .ref (71)), (1, .int (nI (a9))), (2, .int (nI (i9))), (3, .int ((leS (lnC w (nI a9) i9) x).1)), (4, .int (nI ((leS (lnC w (nI a9) i9) x).2))), (5, .int (nI (x))), (6, .int (nI (0))), (7, .int (nI (0)))]) (by simp) ?_
              have z9 := lp6 ((nvW w) + 1) 0 (by omega) (by omega)
              rw [show (nI (cntP (fun x7 => (w (9 + 2 * x7) = nI a9) ∧ (oI (moW w x7 i9) = nI x)) 0)) = (nI (0)) from (by rfl)] at z9
              exact z9
        refine wn_weak (lv' := [(0, .ref (71)), (1, .int (nI (a9))), (2, .int (nI (i9))), (3, .int (-1)), (4, .int (nI (0))), (5, .int (nI (0)))]) (by simp) ?_
        have z9 := lp4 (5 + 1) 0 (by omega) (by omega)
        rw [show ((leS (lnC w (nI a9) i9) 0).1) = (-1) from (by rfl)] at z9
        rw [show (nI ((leS (lnC w (nI a9) i9) 0).2)) = (nI (0)) from (by rfl)] at z9
        exact z9
      · have c3 : ¬ (lsW w (nI (a9)) i9) := c3
        refine wn_ic (pc' := 29) (w := -1) rfl rfl (by decide) ?_
        try simp only [Int32.lt_iff_toInt_lt, Int32.le_iff_toInt_le, i2l_int, Int32.toInt_zero, iin] at c1
        try simp only [Int32.lt_iff_toInt_lt, Int32.le_iff_toInt_le, i2l_int, Int32.toInt_zero, iin] at c2
        try simp only [Int32.lt_iff_toInt_lt, Int32.le_iff_toInt_le, i2l_int, Int32.toInt_zero, iin] at c3
        refine wn_iret rfl rfl rfl ⟨congrArg (fun z => some (Value.int z)) ?_, (RQ.rfl' HQ)⟩
        unfold leanA
        rw [qI_t (by simp only [iin]; omega)]
        simp only [cl_a, cl_i]
        exact (qI_f c3).symm
    · have c2 : ¬ (iin i (ntW w)) := c2
      refine wn_bp (pc' := 18) (w := -2) rfl rfl (by decide) ?_
      try simp only [Int32.lt_iff_toInt_lt, Int32.le_iff_toInt_le, i2l_int, Int32.toInt_zero, iin] at c1
      try simp only [Int32.lt_iff_toInt_lt, Int32.le_iff_toInt_le, i2l_int, Int32.toInt_zero, iin] at c2
      refine wn_iret rfl rfl rfl ⟨congrArg (fun z => some (Value.int z)) ?_, (RQ.rfl' HQ)⟩
      unfold leanA
      rw [qI_f (by simp only [iin]; omega)]

noncomputable def heardA (w : Nat → Int32) (i : Int32) : Int32 := qI (iin i (ntW w)) (qI (w (178 + 4 * i.toNatClampNeg) = -1) (-1) (w (178 + 4 * i.toNatClampNeg) + nI 100 * w (179 + 4 * i.toNatClampNeg))) (-2)
theorem m_heard (d : Nat) (h : aH) (w : Nat → Int32) (hWf : WfW w) (HQ : MQs h w) (i : Int32) : Sp (Rn (d + 3)) 208 [.ref (71), .int (i)] h (fun r9 h9 => r9 = some (.int (heardA w i)) ∧ RQ h h9 w) := by
  obtain ⟨⟨e1, e2⟩, ⟨e3, e4⟩, ⟨e5, e6⟩⟩ := Wf_n hWf
  obtain ⟨⟨e7, e8⟩, ⟨e9, e10⟩⟩ := Wf_m hWf
  have p2b := stN_le hWf
  obtain ⟨th, tp, sz, at9, fr, tk, vl, fk, fp, il, up, lo, sa9, tn, q0, q1, q2, q3, q4⟩ := id HQ
  refine Sp_of (by decide) (Nat.le_of_ble_eq_true rfl) ?_
  show Wn _ _ 0 [(0, .ref (71)), (1, .int (i))] [] _ _
  refine wn_ld (pc' := 1) (q := 0) (kin := 2) (v := .ref (71)) rfl (fun _ _ _ => rfl) rfl rfl ?_
  refine wn_ld (pc' := 2) (q := 1) (kin := 0) (v := .int (i)) rfl (fun _ _ _ => rfl) rfl rfl ?_
  refine wn_virI (pc' := 5) rfl rfl (by decide) rfl rfl q0 (Nat.le_of_ble_eq_true rfl) (m_isItem _ _ w HQ.mh _ e5 (by omega) _) ?_
  refine wn_ifneB (t := 11) (f := 8) rfl rfl rfl (fun c1 => ?_) (fun c1 => ?_)
  · have c1 : (iin i (ntW w)) := c1
    obtain ⟨i9, hi9, rfl⟩ := iin_of c1
    have ti_i := nI_toInt (n := i9) (show i9 < 2 ^ 31 by omega)
    have cl_i := nI_clamp (n := i9) (show i9 < 2 ^ 31 by omega)
    refine wn_ld (pc' := 12) (q := 0) (kin := 2) (v := .ref (71)) rfl (fun _ _ _ => rfl) rfl rfl ?_
    refine wn_ld (pc' := 13) (q := 1) (kin := 0) (v := .int (nI (i9))) rfl (fun _ _ _ => rfl) rfl rfl ?_
    refine wn_virI (pc' := 16) rfl rfl (by decide) rfl rfl q0 (Nat.le_of_ble_eq_true rfl) (m_isHeard _ _ w HQ.mh i9 (by omega)) ?_
    refine wn_ifeqB (t := 38) (f := 19) rfl rfl rfl (fun c2 => ?_) (fun c2 => ?_)
    · have c2 : ¬ (¬ w (178 + 4 * i9) = -1) := c2
      refine wn_ic (pc' := 39) (w := -1) rfl rfl (by decide) ?_
      try simp only [Int32.lt_iff_toInt_lt, Int32.le_iff_toInt_le, i2l_int, Int32.toInt_zero, iin] at c1
      refine wn_iret rfl rfl rfl ⟨congrArg (fun z => some (Value.int z)) ?_, (RQ.rfl' HQ)⟩
      unfold heardA
      rw [qI_t (by simp only [iin]; omega)]
      simp only [cl_i]
      exact (qI_t (Classical.not_not.mp c2)).symm
    · have c2 : (¬ w (178 + 4 * i9) = -1) := c2
      refine wn_ld (pc' := 20) (q := 0) (kin := 2) (v := .ref (71)) rfl (fun _ _ _ => rfl) rfl rfl ?_
      refine wn_ld (pc' := 21) (q := 1) (kin := 0) (v := .int (nI (i9))) rfl (fun _ _ _ => rfl) rfl rfl ?_
      refine wn_ic (pc' := 22) (w := nI 2) rfl rfl (by decide) ?_
      refine wn_virI (pc' := 25) rfl rfl (by decide) rfl rfl q0 (Nat.le_of_ble_eq_true rfl) (m_ofItem _ _ w HQ.mh i9 2 (by omega)) ?_
      rw [show 176 + 4 * i9 + 2 = 178 + 4 * i9 by omega]
      refine wn_bp (pc' := 27) (w := nI 100) rfl rfl (by decide) ?_
      refine wn_ld (pc' := 28) (q := 0) (kin := 2) (v := .ref (71)) rfl (fun _ _ _ => rfl) rfl rfl ?_
      refine wn_ld (pc' := 29) (q := 1) (kin := 0) (v := .int (nI (i9))) rfl (fun _ _ _ => rfl) rfl rfl ?_
      refine wn_ic (pc' := 30) (w := nI 3) rfl rfl (by decide) ?_
      refine wn_virI (pc' := 33) rfl rfl (by decide) rfl rfl q0 (Nat.le_of_ble_eq_true rfl) (m_ofItem _ _ w HQ.mh i9 3 (by omega)) ?_
      rw [show 176 + 4 * i9 + 3 = 179 + 4 * i9 by omega]
      refine wn_pu (pc' := 34) (st' := [.int ((nI (100)) * (w (179 + 4 * i9))), .int (w (178 + 4 * i9))]) rfl (fun _ _ _ => rfl) rfl rfl ?_
      refine wn_pu (pc' := 35) (st' := [.int ((w (178 + 4 * i9)) + ((nI (100)) * (w (179 + 4 * i9))))]) rfl (fun _ _ _ => rfl) rfl rfl ?_
      refine wn_jp (pc' := 39) rfl rfl ?_
      try simp only [Int32.lt_iff_toInt_lt, Int32.le_iff_toInt_le, i2l_int, Int32.toInt_zero, iin] at c1
      refine wn_iret rfl rfl rfl ⟨congrArg (fun z => some (Value.int z)) ?_, (RQ.rfl' HQ)⟩
      unfold heardA
      rw [qI_t (by simp only [iin]; omega)]
      simp only [cl_i]
      exact (qI_f c2).symm
  · have c1 : ¬ (iin i (ntW w)) := c1
    refine wn_bp (pc' := 10) (w := -2) rfl rfl (by decide) ?_
    try simp only [Int32.lt_iff_toInt_lt, Int32.le_iff_toInt_le, i2l_int, Int32.toInt_zero, iin] at c1
    refine wn_iret rfl rfl rfl ⟨congrArg (fun z => some (Value.int z)) ?_, (RQ.rfl' HQ)⟩
    unfold heardA
    rw [qI_f (by simp only [iin]; omega)]

noncomputable def villageA (w : Nat → Int32) (v t : Int32) : Int32 := qI (iin v (nvW w) ∧ iin t 3) (if t = nI 1 then nI (cntP (fun k => (rdA w k = v.toNatClampNeg) ∨ (rdB w k = v.toNatClampNeg)) (nrW w)) else w (8 + 2 * v.toNatClampNeg + t.toNatClampNeg / 2)) (-2000000000)
theorem m_village (d : Nat) (h : aH) (w : Nat → Int32) (hWf : WfW w) (HQ : MQs h w) (v t : Int32) : Sp (Rn (d + 3)) 236 [.ref (71), .int (v), .int (t)] h (fun r9 h9 => r9 = some (.int (villageA w v t)) ∧ RQ h h9 w) := by
  obtain ⟨⟨e1, e2⟩, ⟨e3, e4⟩, ⟨e5, e6⟩⟩ := Wf_n hWf
  obtain ⟨⟨e7, e8⟩, ⟨e9, e10⟩⟩ := Wf_m hWf
  have p2b := stN_le hWf
  obtain ⟨th, tp, sz, at9, fr, tk, vl, fk, fp, il, up, lo, sa9, tn, q0, q1, q2, q3, q4⟩ := id HQ
  refine Sp_of (by decide) (Nat.le_of_ble_eq_true rfl) ?_
  show Wn _ _ 0 [(0, .ref (71)), (1, .int (v)), (2, .int (t))] [] _ _
  refine wn_ld (pc' := 1) (q := 0) (kin := 2) (v := .ref (71)) rfl (fun _ _ _ => rfl) rfl rfl ?_
  refine wn_ld (pc' := 2) (q := 1) (kin := 0) (v := .int (v)) rfl (fun _ _ _ => rfl) rfl rfl ?_
  refine wn_virI (pc' := 5) rfl rfl (by decide) rfl rfl q0 (Nat.le_of_ble_eq_true rfl) (m_isVillage _ _ w HQ.mh _ e1 (by omega) _) ?_
  refine wn_ifeqB (t := 20) (f := 8) rfl rfl rfl (fun c1 => ?_) (fun c1 => ?_)
  · have c1 : ¬ (iin v (nvW w)) := c1
    refine wn_go (pc' := 23) (lv' := [(0, .ref (71)), (1, .int (v)), (2, .int (t))]) (st' := [.int (-2000000000)]) rfl (fun _ _ _ k9 => k9) ?_
    try simp only [Int32.lt_iff_toInt_lt, Int32.le_iff_toInt_le, i2l_int, Int32.toInt_zero, iin] at c1
    refine wn_iret rfl rfl rfl ⟨congrArg (fun z => some (Value.int z)) ?_, (RQ.rfl' HQ)⟩
    unfold villageA
    rw [qI_f (by simp only [iin]; omega)]
  · have c1 : (iin v (nvW w)) := c1
    obtain ⟨v9, hv9, rfl⟩ := iin_of c1
    have ti_v := nI_toInt (n := v9) (show v9 < 2 ^ 31 by omega)
    have cl_v := nI_clamp (n := v9) (show v9 < 2 ^ 31 by omega)
    refine wn_ld (pc' := 9) (q := 2) (kin := 0) (v := .int (t)) rfl (fun _ _ _ => rfl) rfl rfl ?_
    refine wn_pu (pc' := 10) (st' := [.long (Int32.toInt64 (t))]) rfl (fun _ _ _ => rfl) rfl rfl ?_
    refine wn_pu (pc' := 11) (st' := .long (lN 0) :: [.long (Int32.toInt64 (t))]) rfl (fun _ _ _ => rfl) rfl rfl ?_
    refine wn_go (pc' := 14) (lv' := [(0, .ref (71)), (1, .int (nI (v9))), (2, .int (t))]) (st' := [.long ((2 : Int64)), .long (lN 0), .long (Int32.toInt64 (t))]) rfl (fun _ _ _ k9 => k9) ?_
    refine wn_staI (pc' := 17) rfl rfl (by decide) rfl rfl (Nat.le_of_ble_eq_true rfl) (m_inK _ _ t 2 ((2 : Int64)) (by decide)) ?_
    refine wn_ifneB (t := 24) (f := 20) rfl rfl rfl (fun c2 => ?_) (fun c2 => ?_)
    · have c2 : (iin t 3) := c2
      obtain ⟨t9, ht9, rfl⟩ := iin_of c2
      have ti_t := nI_toInt (n := t9) (show t9 < 2 ^ 31 by omega)
      have cl_t := nI_clamp (n := t9) (show t9 < 2 ^ 31 by omega)
      refine wn_ld (pc' := 25) (q := 2) (kin := 0) (v := .int (nI (t9))) rfl (fun _ _ _ => rfl) rfl rfl ?_
      refine wn_ic (pc' := 26) (w := nI 1) rfl rfl (by decide) ?_
      refine wn_icmpN (t := 38) (f := 29) rfl rfl rfl (by omega) (by omega) (fun c3 => ?_) (fun c3 => ?_)
      · have c3 : t9 = 1 := c3
        refine wn_ic (pc' := 39) (w := nI 0) rfl rfl (by decide) ?_
        refine wn_st (pc' := 40) (q := 3) (kin := 0) (lv' := [(0, .ref (71)), (1, .int (nI (v9))), (2, .int (nI (t9))), (3, .int (nI (0)))]) rfl (fun _ _ _ => rfl) rfl (Nat.le_of_ble_eq_true rfl) rfl ?_
        refine wn_ic (pc' := 41) (w := nI 0) rfl rfl (by decide) ?_
        refine wn_st (pc' := 43) (q := 4) (kin := 0) (lv' := [(0, .ref (71)), (1, .int (nI (v9))), (2, .int (nI (t9))), (3, .int (nI (0))), (4, .int (nI (0)))]) rfl (fun _ _ _ => rfl) rfl (Nat.le_of_ble_eq_true rfl) rfl ?_
        have lp5 : ∀ (n_lp5 : Nat) (g4 : aH) (k : Nat), (nrW w) + 1 ≤ k + n_lp5 → RQ h g4 w → k ≤ nrW w → Wn (Rn (d + 2)) 236 43 [(0, .ref (71)), (1, .int (nI (v9))), (2, .int (nI (t9))), (3, .int (nI (cntP (fun x7 => (rdA w x7 = v9) ∨ (rdB w x7 = v9)) k))), (4, .int (nI (k)))] [] (g4) (fun r9 h9 => r9 = some (.int (villageA w (nI v9) (nI t9))) ∧ RQ h h9 w) := by
          intro n_lp5
          induction n_lp5 with
          | zero => intro g4 k hm_lp5 RT_g4 hk_k; exfalso; omega
          | succ n_lp5 ih_lp5 =>
            intro g4 k hm_lp5 RT_g4 hk_k
            obtain ⟨th_g4, tp_g4, sz_g4, at9_g4, fr_g4, tk_g4, vl_g4, fk_g4, fp_g4, il_g4, up_g4, lo_g4, hM_g4, hW_g4⟩ := RT_g4.mh
            have := cntP_le (fun x7 => (rdA w x7 = v9) ∨ (rdB w x7 = v9)) k
            refine wn_ld (pc' := 45) (q := 4) (kin := 0) (v := .int (nI (k))) rfl (fun _ _ _ => rfl) rfl rfl ?_
            refine wn_ld (pc' := 46) (q := 0) (kin := 2) (v := .ref (71)) rfl (fun _ _ _ => rfl) rfl rfl ?_
            refine wn_get (pc' := 49) (v := .ref (72)) rfl rfl hM_g4 rfl ?_
            refine wn_ic (pc' := 50) (w := nI 2) rfl rfl (by decide) ?_
            refine wn_ialdv (pc' := 51) (j := 2) (v := (nI (nrW w))) rfl rfl hW_g4 rfl (by omega) (by decide) (e3) ?_
            refine wn_icmpN (t := 90) (f := 54) rfl rfl rfl (by omega) (by omega) (fun c6 => ?_) (fun c6 => ?_)
            · have c6 : (nrW w) ≤ k := c6
              obtain rfl : k = nrW w := by omega
              refine wn_ld (pc' := 91) (q := 3) (kin := 0) (v := .int (nI (cntP (fun x7 => (rdA w x7 = v9) ∨ (rdB w x7 = v9)) (nrW w)))) rfl (fun _ _ _ => rfl) rfl rfl ?_
              try simp only [Int32.lt_iff_toInt_lt, Int32.le_iff_toInt_le, i2l_int, Int32.toInt_zero, iin] at c1
              try simp only [Int32.lt_iff_toInt_lt, Int32.le_iff_toInt_le, i2l_int, Int32.toInt_zero, iin] at c2
              refine wn_iret rfl rfl rfl ⟨congrArg (fun z => some (Value.int z)) ?_, RT_g4⟩
              unfold villageA
              rw [qI_t (by simp only [iin]; omega)]
              simp only [cl_v, cl_t]
              exact (if_pos (by rw [c3])).symm
            · have c6 : k < (nrW w) := c6
              refine wn_ld (pc' := 55) (q := 3) (kin := 0) (v := .int (nI (cntP (fun x7 => (rdA w x7 = v9) ∨ (rdB w x7 = v9)) k))) rfl (fun _ _ _ => rfl) rfl rfl ?_
              refine wn_ld (pc' := 56) (q := 0) (kin := 2) (v := .ref (71)) rfl (fun _ _ _ => rfl) rfl rfl ?_
              refine wn_ld (pc' := 58) (q := 4) (kin := 0) (v := .int (nI (k))) rfl (fun _ _ _ => rfl) rfl rfl ?_
              refine wn_ic (pc' := 59) (w := nI 0) rfl rfl (by decide) ?_
              have := wf_rdb hWf (show k < nrW w by omega)
              refine wn_virI (pc' := 62) rfl rfl (by decide) rfl rfl hM_g4 (Nat.le_of_ble_eq_true rfl) (m_ofRoad _ _ w RT_g4.mh k 0 (by omega)) ?_
              rw [show 56 + 3 * k + 0 = 56 + 3 * k by omega]
              rw [wf_rda hWf (show k < nrW w by omega)]
              refine wn_ld (pc' := 63) (q := 1) (kin := 0) (v := .int (nI (v9))) rfl (fun _ _ _ => rfl) rfl rfl ?_
              refine wn_icmpN (t := 77) (f := 66) rfl rfl rfl (by omega) (by omega) (fun c7 => ?_) (fun c7 => ?_)
              · have c7 : (rdA w k) = v9 := c7
                refine wn_ic (pc' := 78) (w := nI 1) rfl rfl (by decide) ?_
                refine wn_jp (pc' := 82) rfl rfl ?_
                refine wn_addN (pc' := 83) rfl rfl ?_
                refine wn_st (pc' := 84) (q := 3) (kin := 0) (lv' := [(0, .ref (71)), (1, .int (nI (v9))), (2, .int (nI (t9))), (3, .int (nI ((cntP (fun x7 => (rdA w x7 = v9) ∨ (rdB w x7 = v9)) k) + 1))), (4, .int (nI (k)))]) rfl (fun _ _ _ => rfl) rfl (Nat.le_of_ble_eq_true rfl) rfl ?_
                refine wn_incN (n := 1) (pc' := 87) (lv' := [(0, .ref (71)), (1, .int (nI (v9))), (2, .int (nI (t9))), (3, .int (nI ((cntP (fun x7 => (rdA w x7 = v9) ∨ (rdB w x7 = v9)) k) + 1))), (4, .int (nI (k + 1)))]) rfl rfl rfl (Nat.le_of_ble_eq_true rfl) rfl (by decide) ?_
                refine wn_jp (pc' := 43) rfl rfl ?_
                refine wn_weak (lv' := [(0, .ref (71)), (1, .int (nI (v9))), (2, .int (nI (t9))), (3, .int (nI ((cntP (fun x7 => (rdA w x7 = v9) ∨ (rdB w x7 = v9)) k) + 1))), (4, .int (nI (k + 1)))]) (by simp) ?_
                have z9 := ih_lp5 g4 (k + 1) (by omega) RT_g4 (by omega)
                rw [show (nI (cntP (fun x7 => (rdA w x7 = v9) ∨ (rdB w x7 = v9)) (k + 1))) = (nI ((cntP (fun x7 => (rdA w x7 = v9) ∨ (rdB w x7 = v9)) k) + 1)) from (by exact congrArg nI (cntP_t (p := fun x7 => (rdA w x7 = v9) ∨ (rdB w x7 = v9)) (Or.inl c7)))] at z9
                exact z9
              · have c7 : ¬ (rdA w k) = v9 := c7
                refine wn_ld (pc' := 67) (q := 0) (kin := 2) (v := .ref (71)) rfl (fun _ _ _ => rfl) rfl rfl ?_
                refine wn_ld (pc' := 69) (q := 4) (kin := 0) (v := .int (nI (k))) rfl (fun _ _ _ => rfl) rfl rfl ?_
                refine wn_ic (pc' := 70) (w := nI 1) rfl rfl (by decide) ?_
                have := wf_rdb hWf (show k < nrW w by omega)
                refine wn_virI (pc' := 73) rfl rfl (by decide) rfl rfl hM_g4 (Nat.le_of_ble_eq_true rfl) (m_ofRoad _ _ w RT_g4.mh k 1 (by omega)) ?_
                rw [show 56 + 3 * k + 1 = 57 + 3 * k by omega]
                rw [wf_rdB hWf (show k < nrW w by omega)]
                refine wn_ld (pc' := 74) (q := 1) (kin := 0) (v := .int (nI (v9))) rfl (fun _ _ _ => rfl) rfl rfl ?_
                refine wn_icmpN (t := 81) (f := 77) rfl rfl rfl (by omega) (by omega) (fun c8 => ?_) (fun c8 => ?_)
                · have c8 : ¬ (rdB w k) = v9 := c8
                  refine wn_ic (pc' := 82) (w := nI 0) rfl rfl (by decide) ?_
                  refine wn_addN (pc' := 83) rfl rfl ?_
                  refine wn_st (pc' := 84) (q := 3) (kin := 0) (lv' := [(0, .ref (71)), (1, .int (nI (v9))), (2, .int (nI (t9))), (3, .int (nI ((cntP (fun x7 => (rdA w x7 = v9) ∨ (rdB w x7 = v9)) k) + 0))), (4, .int (nI (k)))]) rfl (fun _ _ _ => rfl) rfl (Nat.le_of_ble_eq_true rfl) rfl ?_
                  refine wn_incN (n := 1) (pc' := 87) (lv' := [(0, .ref (71)), (1, .int (nI (v9))), (2, .int (nI (t9))), (3, .int (nI ((cntP (fun x7 => (rdA w x7 = v9) ∨ (rdB w x7 = v9)) k) + 0))), (4, .int (nI (k + 1)))]) rfl rfl rfl (Nat.le_of_ble_eq_true rfl) rfl (by decide) ?_
                  refine wn_jp (pc' := 43) rfl rfl ?_
                  refine wn_weak (lv' := [(0, .ref (71)), (1, .int (nI (v9))), (2, .int (nI (t9))), (3, .int (nI ((cntP (fun x7 => (rdA w x7 = v9) ∨ (rdB w x7 = v9)) k) + 0))), (4, .int (nI (k + 1)))]) (by simp) ?_
                  have z9 := ih_lp5 g4 (k + 1) (by omega) RT_g4 (by omega)
                  rw [show (nI (cntP (fun x7 => (rdA w x7 = v9) ∨ (rdB w x7 = v9)) (k + 1))) = (nI ((cntP (fun x7 => (rdA w x7 = v9) ∨ (rdB w x7 = v9)) k) + 0)) from (by exact congrArg nI (cntP_f (p := fun x7 => (rdA w x7 = v9) ∨ (rdB w x7 = v9)) (fun q7 => q7.elim c7 c8)))] at z9
                  exact z9
                · have c8 : (rdB w k) = v9 := c8
                  refine wn_ic (pc' := 78) (w := nI 1) rfl rfl (by decide) ?_
                  refine wn_jp (pc' := 82) rfl rfl ?_
                  refine wn_addN (pc' := 83) rfl rfl ?_
                  refine wn_st (pc' := 84) (q := 3) (kin := 0) (lv' := [(0, .ref (71)), (1, .int (nI (v9))), (2, .int (nI (t9))), (3, .int (nI ((cntP (fun x7 => (rdA w x7 = v9) ∨ (rdB w x7 = v9)) k) + 1))), (4, .int (nI (k)))]) rfl (fun _ _ _ => rfl) rfl (Nat.le_of_ble_eq_true rfl) rfl ?_
                  refine wn_incN (n := 1) (pc' := 87) (lv' := [(0, .ref (71)), (1, .int (nI (v9))), (2, .int (nI (t9))), (3, .int (nI ((cntP (fun x7 => (rdA w x7 = v9) ∨ (rdB w x7 = v9)) k) + 1))), (4, .int (nI (k + 1)))]) rfl rfl rfl (Nat.le_of_ble_eq_true rfl) rfl (by decide) ?_
                  refine wn_jp (pc' := 43) rfl rfl ?_
                  refine wn_weak (lv' := [(0, .ref (71)), (1, .int (nI (v9))), (2, .int (nI (t9))), (3, .int (nI ((cntP (fun x7 => (rdA w x7 = v9) ∨ (rdB w x7 = v9)) k) + 1))), (4, .int (nI (k + 1)))]) (by simp) ?_
                  have z9 := ih_lp5 g4 (k + 1) (by omega) RT_g4 (by omega)
                  rw [show (nI (cntP (fun x7 => (rdA w x7 = v9) ∨ (rdB w x7 = v9)) (k + 1))) = (nI ((cntP (fun x7 => (rdA w x7 = v9) ∨ (rdB w x7 = v9)) k) + 1)) from (by exact congrArg nI (cntP_t (p := fun x7 => (rdA w x7 = v9) ∨ (rdB w x7 = v9)) (Or.inr c8)))] at z9
                  exact z9
        refine wn_weak (lv' := [(0, .ref (71)), (1, .int (nI (v9))), (2, .int (nI (t9))), (3, .int (nI (0))), (4, .int (nI (0)))]) (by simp) ?_
        have z9 := lp5 ((nrW w) + 1) h 0 (by omega) (RQ.rfl' HQ) (by omega)
        rw [show (nI (cntP (fun x7 => (rdA w x7 = v9) ∨ (rdB w x7 = v9)) 0)) = (nI (0)) from (by rfl)] at z9
        exact z9
      · have c3 : ¬ t9 = 1 := c3
        refine wn_ld (pc' := 30) (q := 0) (kin := 2) (v := .ref (71)) rfl (fun _ _ _ => rfl) rfl rfl ?_
        refine wn_ld (pc' := 31) (q := 1) (kin := 0) (v := .int (nI (v9))) rfl (fun _ _ _ => rfl) rfl rfl ?_
        refine wn_ld (pc' := 32) (q := 2) (kin := 0) (v := .int (nI (t9))) rfl (fun _ _ _ => rfl) rfl rfl ?_
        refine wn_ic (pc' := 33) (w := nI 2) rfl rfl (by decide) ?_
        refine wn_idivN (pc' := 34) rfl rfl (by omega) (by omega) (by omega) ?_
        refine wn_virI (pc' := 37) rfl rfl (by decide) rfl rfl q0 (Nat.le_of_ble_eq_true rfl) (m_ofVillage _ _ w HQ.mh v9 (t9 / 2) (by omega)) ?_
        try simp only [Int32.lt_iff_toInt_lt, Int32.le_iff_toInt_le, i2l_int, Int32.toInt_zero, iin] at c1
        try simp only [Int32.lt_iff_toInt_lt, Int32.le_iff_toInt_le, i2l_int, Int32.toInt_zero, iin] at c2
        refine wn_iret rfl rfl rfl ⟨congrArg (fun z => some (Value.int z)) ?_, (RQ.rfl' HQ)⟩
        unfold villageA
        rw [qI_t (by simp only [iin]; omega)]
        simp only [cl_v, cl_t]
        exact (if_neg (fun q => c3 ((nI_eq (show t9 < 2 ^ 31 by omega) (show 1 < 2 ^ 31 by decide)).mp q))).symm
    · have c2 : ¬ (iin t 3) := c2
      refine wn_go (pc' := 23) (lv' := [(0, .ref (71)), (1, .int (nI (v9))), (2, .int (t))]) (st' := [.int (-2000000000)]) rfl (fun _ _ _ k9 => k9) ?_
      try simp only [Int32.lt_iff_toInt_lt, Int32.le_iff_toInt_le, i2l_int, Int32.toInt_zero, iin] at c1
      try simp only [Int32.lt_iff_toInt_lt, Int32.le_iff_toInt_le, i2l_int, Int32.toInt_zero, iin] at c2
      refine wn_iret rfl rfl rfl ⟨congrArg (fun z => some (Value.int z)) ?_, (RQ.rfl' HQ)⟩
      unfold villageA
      rw [qI_f (by simp only [iin]; omega)]

