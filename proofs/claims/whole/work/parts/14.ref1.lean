/-! the reference's small methods -/
theorem bI_t1 {p : Prop} (h : p) : nI 1 = bI p := (bI_t h).symm
theorem bI_f0 {p : Prop} (h : ¬ p) : nI 0 = bI p := (bI_f h).symm
def iin (x : Int32) (n : Nat) : Prop := 0 ≤ x.toInt ∧ x.toInt < (n : Int)
def MoF (th tp sz at9 fr tk vl fk fp il : Int32) (up lo : Int64) : List Value := [.int th, .ref 72, .ref 73, .ref 74, .ref 75, .int tp, .ref 76, .int sz, .int at9, .int fr, .int tk, .int vl, .int fk, .int fp, .ref 77, .int il, .ref 78, .ref 79, .ref 80, .long up, .long lo, .ref 81, .ref 82, .ref 83, .ref 84]
/-- the reference's object and its world -/
def MH (h : aH) (w : Nat → Int32) : Prop := ∃ th tp sz at9 fr tk vl fk fp il up lo, h[71]? = some (.inr (9, MoF th tp sz at9 fr tk vl fk fp il up lo)) ∧ h[72]? = some (.inl (0, 2676, .inl w))
theorem i2l_int (x : Int32) : (Int32.toInt64 x).toInt = x.toInt := Int32.toInt_toInt64 x
theorem nI_int {n : Nat} (h : n < 2 ^ 31) : (nI n).toInt = (n : Int) := nI_toInt h
theorem lN_int {n : Nat} (h : n < 2 ^ 31) : (lN n).toInt = (n : Int) := lN_toInt h
theorem pred_int {n : Nat} (h : n < 2 ^ 30) : (nI n - nI 1).toInt = (n : Int) - 1 := by rw [pk_sub_toInt h (by decide)]; rfl

theorem m_in (d : Nat) (h : aH) (v lo hi : Int64) : Rn (d + 1) 141 [.long (v), .long (lo), .long (hi)] h (some (.int (bI (lo.toInt ≤ v.toInt ∧ v.toInt ≤ hi.toInt)))) h 0 0 := by
  refine Rn_of (by decide) (Nat.le_of_ble_eq_true rfl) ?_
  show Wn _ _ 0 [(0, .long (v)), (2, .long (lo)), (4, .long (hi))] [] _ _
  refine wn_ld (pc' := 1) (q := 0) (kin := 1) (v := .long (v)) rfl (fun _ _ _ => rfl) rfl rfl ?_
  refine wn_ld (pc' := 2) (q := 2) (kin := 1) (v := .long (lo)) rfl (fun _ _ _ => rfl) rfl rfl ?_
  refine wn_pu (pc' := 3) (st' := [.int (lg_cmp (v) (lo))]) rfl (fun _ _ _ => rfl) rfl rfl ?_
  refine wn_lc (t := 17) (f := 6) rfl rfl rfl (fun c1 => ?_) (fun c1 => ?_)
  · have c1 : (v).toInt < (lo).toInt := c1
    refine wn_ic (pc' := 18) (w := nI 0) rfl rfl (by decide) ?_
    refine wn_iret rfl rfl (by decide) ⟨?_, rfl⟩
    exact congrArg (fun z => some (Value.int z)) (bI_f0 (by omega))
  · have c1 : ¬ ((v).toInt < (lo).toInt) := c1
    refine wn_ld (pc' := 7) (q := 0) (kin := 1) (v := .long (v)) rfl (fun _ _ _ => rfl) rfl rfl ?_
    refine wn_ld (pc' := 9) (q := 4) (kin := 1) (v := .long (hi)) rfl (fun _ _ _ => rfl) rfl rfl ?_
    refine wn_pu (pc' := 10) (st' := [.int (lg_cmp (v) (hi))]) rfl (fun _ _ _ => rfl) rfl rfl ?_
    refine wn_lc (t := 17) (f := 13) rfl rfl rfl (fun c2 => ?_) (fun c2 => ?_)
    · have c2 : (v).toInt > (hi).toInt := c2
      refine wn_ic (pc' := 18) (w := nI 0) rfl rfl (by decide) ?_
      refine wn_iret rfl rfl (by decide) ⟨?_, rfl⟩
      exact congrArg (fun z => some (Value.int z)) (bI_f0 (by omega))
    · have c2 : ¬ ((v).toInt > (hi).toInt) := c2
      refine wn_ic (pc' := 14) (w := nI 1) rfl rfl (by decide) ?_
      refine wn_jp (pc' := 18) rfl rfl ?_
      refine wn_iret rfl rfl (by decide) ⟨?_, rfl⟩
      exact congrArg (fun z => some (Value.int z)) (bI_t1 (by omega))
theorem m_isYear (d : Nat) (h : aH) (y : Int32) : Rn (d + 2) 143 [.int (y)] h (some (.int (bI (iin y 61)))) h 0 0 := by
  refine Rn_of (by decide) (Nat.le_of_ble_eq_true rfl) ?_
  show Wn _ _ 0 [(0, .int (y))] [] _ _
  refine wn_ld (pc' := 1) (q := 0) (kin := 0) (v := .int (y)) rfl (fun _ _ _ => rfl) rfl rfl ?_
  refine wn_pu (pc' := 2) (st' := [.long (Int32.toInt64 (y))]) rfl (fun _ _ _ => rfl) rfl rfl ?_
  refine wn_pu (pc' := 3) (st' := .long (lN 0) :: [.long (Int32.toInt64 (y))]) rfl (fun _ _ _ => rfl) rfl rfl ?_
  refine wn_go (pc' := 6) (lv' := [(0, .int (y))]) (st' := [.long (60), .long (lN 0), .long (Int32.toInt64 (y))]) rfl (fun _ _ _ k9 => k9) ?_
  refine wn_staI (pc' := 9) rfl rfl (by decide) rfl rfl (Nat.le_of_ble_eq_true rfl) (m_in _ _ _ _ _) ?_
  refine wn_iret rfl rfl (nar_bI _) ⟨congrArg (fun z => some (Value.int z)) (bI_c ?_), rfl⟩
  rw [i2l_int]
  unfold iin
  have e1 : (lN 0).toInt = 0 := by decide
  have e2 : (60 : Int64).toInt = 60 := by decide
  omega
theorem m_ofVillage (d : Nat) (h : aH) (w : Nat → Int32) (H : MH h w) (v k : Nat) (hv : 8 + 2 * v + k < 2676) : Rn (d + 1) 147 [.ref (71), .int (nI (v)), .int (nI (k))] h (some (.int (w (8 + 2 * v + k)))) h 0 0 := by
  obtain ⟨th, tp, sz, at9, fr, tk, vl, fk, fp, il, up, lo, hM, hW⟩ := H
  refine Rn_of (by decide) (Nat.le_of_ble_eq_true rfl) ?_
  show Wn _ _ 0 [(0, .ref (71)), (1, .int (nI (v))), (2, .int (nI (k)))] [] _ _
  refine wn_ld (pc' := 1) (q := 0) (kin := 2) (v := .ref (71)) rfl (fun _ _ _ => rfl) rfl rfl ?_
  refine wn_get (pc' := 4) (v := .ref (72)) rfl rfl hM rfl ?_
  refine wn_bp (pc' := 6) (w := nI 8) rfl rfl (by decide) ?_
  refine wn_ic (pc' := 7) (w := nI 2) rfl rfl (by decide) ?_
  refine wn_ld (pc' := 8) (q := 1) (kin := 0) (v := .int (nI (v))) rfl (fun _ _ _ => rfl) rfl rfl ?_
  refine wn_mulN (pc' := 9) rfl rfl ?_
  refine wn_addN (pc' := 10) rfl rfl ?_
  refine wn_ld (pc' := 11) (q := 2) (kin := 0) (v := .int (nI (k))) rfl (fun _ _ _ => rfl) rfl rfl ?_
  refine wn_addN (pc' := 12) rfl rfl ?_
  refine wn_iald (pc' := 13) (j := (8 + (2 * v)) + k) rfl rfl hW rfl (by omega) (by decide) ?_
  refine wn_iret rfl rfl rfl ⟨?_, rfl⟩
  rfl
theorem m_ofRoad (d : Nat) (h : aH) (w : Nat → Int32) (H : MH h w) (v k : Nat) (hv : 56 + 3 * v + k < 2676) : Rn (d + 1) 148 [.ref (71), .int (nI (v)), .int (nI (k))] h (some (.int (w (56 + 3 * v + k)))) h 0 0 := by
  obtain ⟨th, tp, sz, at9, fr, tk, vl, fk, fp, il, up, lo, hM, hW⟩ := H
  refine Rn_of (by decide) (Nat.le_of_ble_eq_true rfl) ?_
  show Wn _ _ 0 [(0, .ref (71)), (1, .int (nI (v))), (2, .int (nI (k)))] [] _ _
  refine wn_ld (pc' := 1) (q := 0) (kin := 2) (v := .ref (71)) rfl (fun _ _ _ => rfl) rfl rfl ?_
  refine wn_get (pc' := 4) (v := .ref (72)) rfl rfl hM rfl ?_
  refine wn_bp (pc' := 6) (w := nI 56) rfl rfl (by decide) ?_
  refine wn_ic (pc' := 7) (w := nI 3) rfl rfl (by decide) ?_
  refine wn_ld (pc' := 8) (q := 1) (kin := 0) (v := .int (nI (v))) rfl (fun _ _ _ => rfl) rfl rfl ?_
  refine wn_mulN (pc' := 9) rfl rfl ?_
  refine wn_addN (pc' := 10) rfl rfl ?_
  refine wn_ld (pc' := 11) (q := 2) (kin := 0) (v := .int (nI (k))) rfl (fun _ _ _ => rfl) rfl rfl ?_
  refine wn_addN (pc' := 12) rfl rfl ?_
  refine wn_iald (pc' := 13) (j := (56 + (3 * v)) + k) rfl rfl hW rfl (by omega) (by decide) ?_
  refine wn_iret rfl rfl rfl ⟨?_, rfl⟩
  rfl
theorem m_ofItem (d : Nat) (h : aH) (w : Nat → Int32) (H : MH h w) (v k : Nat) (hv : 176 + 4 * v + k < 2676) : Rn (d + 1) 149 [.ref (71), .int (nI (v)), .int (nI (k))] h (some (.int (w (176 + 4 * v + k)))) h 0 0 := by
  obtain ⟨th, tp, sz, at9, fr, tk, vl, fk, fp, il, up, lo, hM, hW⟩ := H
  refine Rn_of (by decide) (Nat.le_of_ble_eq_true rfl) ?_
  show Wn _ _ 0 [(0, .ref (71)), (1, .int (nI (v))), (2, .int (nI (k)))] [] _ _
  refine wn_ld (pc' := 1) (q := 0) (kin := 2) (v := .ref (71)) rfl (fun _ _ _ => rfl) rfl rfl ?_
  refine wn_get (pc' := 4) (v := .ref (72)) rfl rfl hM rfl ?_
  refine wn_sp (pc' := 7) (w := nI 176) rfl rfl (by decide) ?_
  refine wn_ic (pc' := 8) (w := nI 4) rfl rfl (by decide) ?_
  refine wn_ld (pc' := 9) (q := 1) (kin := 0) (v := .int (nI (v))) rfl (fun _ _ _ => rfl) rfl rfl ?_
  refine wn_mulN (pc' := 10) rfl rfl ?_
  refine wn_addN (pc' := 11) rfl rfl ?_
  refine wn_ld (pc' := 12) (q := 2) (kin := 0) (v := .int (nI (k))) rfl (fun _ _ _ => rfl) rfl rfl ?_
  refine wn_addN (pc' := 13) rfl rfl ?_
  refine wn_iald (pc' := 14) (j := (176 + (4 * v)) + k) rfl rfl hW rfl (by omega) (by decide) ?_
  refine wn_iret rfl rfl rfl ⟨?_, rfl⟩
  rfl
theorem m_ofLaw (d : Nat) (h : aH) (w : Nat → Int32) (H : MH h w) (v k : Nat) (hv : 456 + 6 * v + k < 2676) : Rn (d + 1) 150 [.ref (71), .int (nI (v)), .int (nI (k))] h (some (.int (w (456 + 6 * v + k)))) h 0 0 := by
  obtain ⟨th, tp, sz, at9, fr, tk, vl, fk, fp, il, up, lo, hM, hW⟩ := H
  refine Rn_of (by decide) (Nat.le_of_ble_eq_true rfl) ?_
  show Wn _ _ 0 [(0, .ref (71)), (1, .int (nI (v))), (2, .int (nI (k)))] [] _ _
  refine wn_ld (pc' := 1) (q := 0) (kin := 2) (v := .ref (71)) rfl (fun _ _ _ => rfl) rfl rfl ?_
  refine wn_get (pc' := 4) (v := .ref (72)) rfl rfl hM rfl ?_
  refine wn_sp (pc' := 7) (w := nI 456) rfl rfl (by decide) ?_
  refine wn_bp (pc' := 9) (w := nI 6) rfl rfl (by decide) ?_
  refine wn_ld (pc' := 10) (q := 1) (kin := 0) (v := .int (nI (v))) rfl (fun _ _ _ => rfl) rfl rfl ?_
  refine wn_mulN (pc' := 11) rfl rfl ?_
  refine wn_addN (pc' := 12) rfl rfl ?_
  refine wn_ld (pc' := 13) (q := 2) (kin := 0) (v := .int (nI (k))) rfl (fun _ _ _ => rfl) rfl rfl ?_
  refine wn_addN (pc' := 14) rfl rfl ?_
  refine wn_iald (pc' := 15) (j := (456 + (6 * v)) + k) rfl rfl hW rfl (by omega) (by decide) ?_
  refine wn_iret rfl rfl rfl ⟨?_, rfl⟩
  rfl
theorem m_isVillage (d : Nat) (h : aH) (w : Nat → Int32) (H : MH h w) (n : Nat) (hn : w 1 = nI n) (hb : n ≤ 1000) (v : Int32) : Rn (d + 2) 151 [.ref (71), .int (v)] h (some (.int (bI (iin v n)))) h 0 0 := by
  obtain ⟨th, tp, sz, at9, fr, tk, vl, fk, fp, il, up, lo, hM, hW⟩ := H
  refine Rn_of (by decide) (Nat.le_of_ble_eq_true rfl) ?_
  show Wn _ _ 0 [(0, .ref (71)), (1, .int (v))] [] _ _
  refine wn_ld (pc' := 1) (q := 1) (kin := 0) (v := .int (v)) rfl (fun _ _ _ => rfl) rfl rfl ?_
  refine wn_pu (pc' := 2) (st' := [.long (Int32.toInt64 (v))]) rfl (fun _ _ _ => rfl) rfl rfl ?_
  refine wn_pu (pc' := 3) (st' := .long (lN 0) :: [.long (Int32.toInt64 (v))]) rfl (fun _ _ _ => rfl) rfl rfl ?_
  refine wn_ld (pc' := 4) (q := 0) (kin := 2) (v := .ref (71)) rfl (fun _ _ _ => rfl) rfl rfl ?_
  refine wn_get (pc' := 7) (v := .ref (72)) rfl rfl hM rfl ?_
  refine wn_ic (pc' := 8) (w := nI 1) rfl rfl (by decide) ?_
  refine wn_iald (pc' := 9) (j := 1) rfl rfl hW rfl (by omega) (by decide) ?_
  rw [hn]
  refine wn_ic (pc' := 10) (w := nI 1) rfl rfl (by decide) ?_
  refine wn_pu (pc' := 11) (st' := [.int ((nI (n)) - (nI (1))), .long (lN 0), .long (Int32.toInt64 (v))]) rfl (fun _ _ _ => rfl) rfl rfl ?_
  refine wn_pu (pc' := 12) (st' := [.long (Int32.toInt64 ((nI (n)) - (nI (1)))), .long (lN 0), .long (Int32.toInt64 (v))]) rfl (fun _ _ _ => rfl) rfl rfl ?_
  refine wn_staI (pc' := 15) rfl rfl (by decide) rfl rfl (Nat.le_of_ble_eq_true rfl) (m_in _ _ _ _ _) ?_
  refine wn_iret rfl rfl (nar_bI _) ⟨congrArg (fun z => some (Value.int z)) (bI_c ?_), rfl⟩
  rw [i2l_int, i2l_int]
  rw [pred_int (by omega)]
  unfold iin
  have e1 : (lN 0).toInt = 0 := by decide
  omega
theorem m_isItem (d : Nat) (h : aH) (w : Nat → Int32) (H : MH h w) (n : Nat) (hn : w 3 = nI n) (hb : n ≤ 1000) (v : Int32) : Rn (d + 2) 152 [.ref (71), .int (v)] h (some (.int (bI (iin v n)))) h 0 0 := by
  obtain ⟨th, tp, sz, at9, fr, tk, vl, fk, fp, il, up, lo, hM, hW⟩ := H
  refine Rn_of (by decide) (Nat.le_of_ble_eq_true rfl) ?_
  show Wn _ _ 0 [(0, .ref (71)), (1, .int (v))] [] _ _
  refine wn_ld (pc' := 1) (q := 1) (kin := 0) (v := .int (v)) rfl (fun _ _ _ => rfl) rfl rfl ?_
  refine wn_pu (pc' := 2) (st' := [.long (Int32.toInt64 (v))]) rfl (fun _ _ _ => rfl) rfl rfl ?_
  refine wn_pu (pc' := 3) (st' := .long (lN 0) :: [.long (Int32.toInt64 (v))]) rfl (fun _ _ _ => rfl) rfl rfl ?_
  refine wn_ld (pc' := 4) (q := 0) (kin := 2) (v := .ref (71)) rfl (fun _ _ _ => rfl) rfl rfl ?_
  refine wn_get (pc' := 7) (v := .ref (72)) rfl rfl hM rfl ?_
  refine wn_ic (pc' := 8) (w := nI 3) rfl rfl (by decide) ?_
  refine wn_iald (pc' := 9) (j := 3) rfl rfl hW rfl (by omega) (by decide) ?_
  rw [hn]
  refine wn_ic (pc' := 10) (w := nI 1) rfl rfl (by decide) ?_
  refine wn_pu (pc' := 11) (st' := [.int ((nI (n)) - (nI (1))), .long (lN 0), .long (Int32.toInt64 (v))]) rfl (fun _ _ _ => rfl) rfl rfl ?_
  refine wn_pu (pc' := 12) (st' := [.long (Int32.toInt64 ((nI (n)) - (nI (1)))), .long (lN 0), .long (Int32.toInt64 (v))]) rfl (fun _ _ _ => rfl) rfl rfl ?_
  refine wn_staI (pc' := 15) rfl rfl (by decide) rfl rfl (Nat.le_of_ble_eq_true rfl) (m_in _ _ _ _ _) ?_
  refine wn_iret rfl rfl (nar_bI _) ⟨congrArg (fun z => some (Value.int z)) (bI_c ?_), rfl⟩
  rw [i2l_int, i2l_int]
  rw [pred_int (by omega)]
  unfold iin
  have e1 : (lN 0).toInt = 0 := by decide
  omega
theorem m_isRoad (d : Nat) (h : aH) (w : Nat → Int32) (H : MH h w) (n : Nat) (hn : w 2 = nI n) (hb : n ≤ 1000) (v : Int32) : Rn (d + 2) 153 [.ref (71), .int (v)] h (some (.int (bI (iin v n)))) h 0 0 := by
  obtain ⟨th, tp, sz, at9, fr, tk, vl, fk, fp, il, up, lo, hM, hW⟩ := H
  refine Rn_of (by decide) (Nat.le_of_ble_eq_true rfl) ?_
  show Wn _ _ 0 [(0, .ref (71)), (1, .int (v))] [] _ _
  refine wn_ld (pc' := 1) (q := 1) (kin := 0) (v := .int (v)) rfl (fun _ _ _ => rfl) rfl rfl ?_
  refine wn_pu (pc' := 2) (st' := [.long (Int32.toInt64 (v))]) rfl (fun _ _ _ => rfl) rfl rfl ?_
  refine wn_pu (pc' := 3) (st' := .long (lN 0) :: [.long (Int32.toInt64 (v))]) rfl (fun _ _ _ => rfl) rfl rfl ?_
  refine wn_ld (pc' := 4) (q := 0) (kin := 2) (v := .ref (71)) rfl (fun _ _ _ => rfl) rfl rfl ?_
  refine wn_get (pc' := 7) (v := .ref (72)) rfl rfl hM rfl ?_
  refine wn_ic (pc' := 8) (w := nI 2) rfl rfl (by decide) ?_
  refine wn_iald (pc' := 9) (j := 2) rfl rfl hW rfl (by omega) (by decide) ?_
  rw [hn]
  refine wn_ic (pc' := 10) (w := nI 1) rfl rfl (by decide) ?_
  refine wn_pu (pc' := 11) (st' := [.int ((nI (n)) - (nI (1))), .long (lN 0), .long (Int32.toInt64 (v))]) rfl (fun _ _ _ => rfl) rfl rfl ?_
  refine wn_pu (pc' := 12) (st' := [.long (Int32.toInt64 ((nI (n)) - (nI (1)))), .long (lN 0), .long (Int32.toInt64 (v))]) rfl (fun _ _ _ => rfl) rfl rfl ?_
  refine wn_staI (pc' := 15) rfl rfl (by decide) rfl rfl (Nat.le_of_ble_eq_true rfl) (m_in _ _ _ _ _) ?_
  refine wn_iret rfl rfl (nar_bI _) ⟨congrArg (fun z => some (Value.int z)) (bI_c ?_), rfl⟩
  rw [i2l_int, i2l_int]
  rw [pred_int (by omega)]
  unfold iin
  have e1 : (lN 0).toInt = 0 := by decide
  omega
-- 
