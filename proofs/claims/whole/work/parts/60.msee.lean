/-! THE REFERENCE'S TOKENS: see, good, errs -/
def byT (t : Nat → Int32) : Prop := ∀ x, x < 1200 → (t x).toInt8.toInt32 = t x
theorem and255 {b : Int32} (h1 : -128 ≤ b.toInt) (h2 : b.toInt < 128) : (b &&& nI 255).toInt = if 0 ≤ b.toInt then b.toInt else b.toInt + 256 := by
  have e3 : (b &&& nI 255).toBitVec.toNat = b.toBitVec.toNat % 256 := by
    show (b.toBitVec &&& (nI 255).toBitVec).toNat = _
    rw [BitVec.toNat_and, show (nI 255).toBitVec.toNat = 2 ^ 8 - 1 by decide, Nat.and_two_pow_sub_one_eq_mod]
  have e1 : b.toInt = b.toBitVec.toInt := rfl
  have e2 : (b &&& nI 255).toInt = (b &&& nI 255).toBitVec.toInt := rfl
  rw [BitVec.toInt_eq_toNat_cond] at e1 e2
  have l := b.toBitVec.isLt
  split at e1 <;> split at e2 <;> split <;> omega
noncomputable def seV (t : Nat → Int32) (n q : Nat) : Int32 := if q < n then t q &&& nI 255 else -1
section SE
variable {t : Nat → Int32} {n q : Nat}
theorem se_r (hb : byT t) (hn : n ≤ 1200) (h : q < n) : (seV t n q).toInt = if 0 ≤ (t q).toInt then (t q).toInt else (t q).toInt + 256 := by
  unfold seV
  rw [if_pos h]
  obtain ⟨h1, h2⟩ := by_rng (hb q (by omega))
  exact and255 h1 h2
theorem se_n (h : ¬ q < n) : seV t n q = -1 := if_neg h
theorem se_c {c : Nat} (hc : c < 128) (hb : byT t) (hn : n ≤ 1200) : seV t n q = nI c ↔ q < n ∧ t q = nI c := by
  have ec : (nI c).toInt = (c : Int) := nI_toInt (by omega)
  constructor
  · intro e
    by_cases h : q < n
    · refine ⟨h, Int32.toInt_inj.mp ?_⟩
      have e1 := congrArg Int32.toInt e
      rw [se_r hb hn h] at e1
      obtain ⟨h1, h2⟩ := by_rng (hb q (by omega))
      split at e1 <;> omega
    · rw [se_n h] at e
      exact absurd e.symm (nI_m1 (by omega))
  · intro ⟨h, e⟩
    apply Int32.toInt_inj.mp
    rw [se_r hb hn h, e, if_pos (by omega)]
theorem se_m (hb : byT t) (hn : n ≤ 1200) : seV t n q = -1 ↔ ¬ q < n := by
  constructor
  · intro e h
    have e1 := congrArg Int32.toInt e
    rw [se_r hb hn h, show (-1 : Int32).toInt = -1 by decide] at e1
    obtain ⟨h1, h2⟩ := by_rng (hb q (by omega))
    split at e1 <;> omega
  · exact se_n
theorem se_in {a b : Int} (ha : 0 ≤ a) (hab : b < 128) (hb : byT t) (hn : n ≤ 1200) : (a ≤ (seV t n q).toInt ∧ (seV t n q).toInt ≤ b) ↔ q < n ∧ a ≤ (t q).toInt ∧ (t q).toInt ≤ b := by
  by_cases h : q < n
  · rw [se_r hb hn h]
    obtain ⟨h1, h2⟩ := by_rng (hb q (by omega))
    constructor
    · intro g; split at g <;> exact ⟨h, by omega, by omega⟩
    · intro ⟨_, g⟩; rw [if_pos (by omega)]; exact g
  · rw [se_n h, show (-1 : Int32).toInt = -1 by decide]
    exact ⟨fun g => by omega, fun g => absurd g.1 h⟩
theorem chK_1 {b : Int32} : (97 ≤ b.toInt ∧ b.toInt ≤ 122) ↔ chK b = 1 := by
  unfold chK
  constructor
  · intro h; exact if_pos h
  · intro h
    by_cases c : 97 ≤ b.toInt ∧ b.toInt ≤ 122
    · exact c
    · rw [if_neg c] at h
      split at h
      · omega
      · split at h <;> omega
theorem chK_2 {b : Int32} : (48 ≤ b.toInt ∧ b.toInt ≤ 57) ↔ chK b = 2 := by
  constructor
  · intro h; unfold chK; rw [if_neg (by omega)]; exact if_pos h
  · intro h; obtain ⟨h1, h2, _⟩ := dgt_of h; exact ⟨h1, h2⟩
theorem se_w (hb : byT t) (hn : n ≤ 1200) : ((97 : Int64).toInt ≤ (Int32.toInt64 (seV t n q)).toInt ∧ (Int32.toInt64 (seV t n q)).toInt ≤ (122 : Int64).toInt) ↔ q < n ∧ chK (t q) = 1 := by
  rw [i2l_int, show (97 : Int64).toInt = 97 by decide, show (122 : Int64).toInt = 122 by decide, se_in (by omega) (by omega) hb hn, chK_1]
theorem se_d (hb : byT t) (hn : n ≤ 1200) : ((48 : Int64).toInt ≤ (Int32.toInt64 (seV t n q)).toInt ∧ (Int32.toInt64 (seV t n q)).toInt ≤ (57 : Int64).toInt) ↔ q < n ∧ chK (t q) = 2 := by
  rw [i2l_int, show (48 : Int64).toInt = 48 by decide, show (57 : Int64).toInt = 57 by decide, se_in (by omega) (by omega) hb hn, chK_2]
theorem se_dv (hb : byT t) (hn : n ≤ 1200) (h : q < n) (hk : chK (t q) = 2) : seV t n q = nI (dgt (t q) + 48) := by
  have e := dgt_nI hk
  have := (dgt_of hk).2.2.2
  exact (se_c (c := dgt (t q) + 48) (by omega) hb hn).mpr ⟨h, e⟩
end SE
theorem m_see (d : Nat) (h : aH) (t : Nat → Int32) (n q : Nat) (hn : n ≤ 1200) (hq : q ≤ 1200) (th tl at9 fr tk vl fk fp il : Int32) (up lo : Int64) (q0 : isO h 71 9 (MoF th tl (nI n) at9 fr tk vl fk fp il up lo)) (q4 : isB h 75 1200 t) : Rn (d + 1) 157 [.ref (71), .int (nI (q))] h (some (.int (seV t n q))) h 0 0 := by
  refine Rn_of (by decide) (Nat.le_of_ble_eq_true rfl) ?_
  show Wn _ _ 0 [(0, .ref (71)), (1, .int (nI (q)))] [] _ _
  refine wn_ld (pc' := 1) (q := 1) (kin := 0) (v := .int (nI (q))) rfl (fun _ _ _ => rfl) rfl rfl ?_
  refine wn_ld (pc' := 2) (q := 0) (kin := 2) (v := .ref (71)) rfl (fun _ _ _ => rfl) rfl rfl ?_
  refine wn_get (pc' := 5) (v := .int (nI (n))) rfl rfl q0 rfl ?_
  refine wn_icmpN (t := 21) (f := 8) rfl rfl rfl (by omega) (by omega) (fun c1 => ?_) (fun c1 => ?_)
  · have c1 : n ≤ q := c1
    refine wn_ic (pc' := 22) (w := -1) rfl rfl (by decide) ?_
    exact wn_iret rfl rfl rfl ⟨congrArg (fun z => some (Value.int z)) (if_neg (by omega)).symm, rfl⟩
  · have c1 : q < n := c1
    refine wn_ld (pc' := 9) (q := 0) (kin := 2) (v := .ref (71)) rfl (fun _ _ _ => rfl) rfl rfl ?_
    refine wn_get (pc' := 12) (v := .ref (75)) rfl rfl q0 rfl ?_
    refine wn_ld (pc' := 13) (q := 1) (kin := 0) (v := .int (nI (q))) rfl (fun _ _ _ => rfl) rfl rfl ?_
    refine wn_baldv (pc' := 14) (j := q) (v := (t (q))) rfl rfl (Or.inl rfl) q4 rfl (by omega) (by decide) (rfl) ?_
    refine wn_sp (pc' := 17) (w := nI 255) rfl rfl (by decide) ?_
    refine wn_pu (pc' := 18) (st' := [.int ((t (q)) &&& (nI (255)))]) rfl (fun _ _ _ => rfl) rfl rfl ?_
    refine wn_jp (pc' := 22) rfl rfl ?_
    exact wn_iret rfl rfl rfl ⟨congrArg (fun z => some (Value.int z)) (if_pos (by omega)).symm, rfl⟩

