/-! PASTE -/
theorem add2l (a b : Int32) : (a.toInt64 + b.toInt64).toInt = a.toInt + b.toInt := by
  have e : ∀ x : Int32, x.toInt64 = iJ x.toInt := fun x => by rw [← i2l_int]; exact (Int64.ofInt_toInt _).symm
  have h1 := a.toInt_lt
  have h2 := a.le_toInt
  have h3 := b.toInt_lt
  have h4 := b.le_toInt
  rw [e a, e b, iJ_add, iJ_int (by omega) (by omega)]
def hoR (m : Nat) (i n : Int32) : Prop := 0 ≤ i.toInt ∧ 0 ≤ n.toInt ∧ i.toInt + n.toInt ≤ (m : Int)
def psR (mn : Nat → Int32) (s t : Nat) (i k n : Int32) : Prop := 0 ≤ i.toInt ∧ 0 ≤ k.toInt ∧ 0 ≤ n.toInt ∧ i.toInt + n.toInt ≤ (mn s).toInt ∧ k.toInt + n.toInt ≤ (mn t).toInt
noncomputable def pasteA (s i t k n : Int32) (mn wd : Nat → Int32) : Int32 := qI (iin s 4 ∧ iin t 4) (qI (mn s.toNatClampNeg = -1 ∨ mn t.toNatClampNeg = -1) (-6) (qI (wd s.toNatClampNeg = wd t.toNatClampNeg) (qI (psR mn s.toNatClampNeg t.toNatClampNeg i k n) (nI 0) (-7)) (-8))) (-2)
def pasteG (s i t k n : Int32) (mn wd : Nat → Int32) : Prop := (iin s 4 ∧ iin t 4) ∧ (¬ (mn s.toNatClampNeg = -1 ∨ mn t.toNatClampNeg = -1)) ∧ wd s.toNatClampNeg = wd t.toNatClampNeg ∧ psR mn s.toNatClampNeg t.toNatClampNeg i k n
def pcp (nu : Nat → Int64) (a b n : Nat) : Nat → Int64 := fun p => if b ≤ p ∧ p < b + n then nu (a + (p - b)) else nu p
noncomputable def pasteN (s i t k n : Int32) (mn wd : Nat → Int32) (nu : Nat → Int64) : Nat → Int64 := qN (pasteG s i t k n mn wd) (pcp nu (60 * s.toNatClampNeg + i.toNatClampNeg) (60 * t.toNatClampNeg + k.toNatClampNeg) n.toNatClampNeg) nu
theorem pcp_s {nu : Nat → Int64} {a b j : Nat} : vp_updL (pcp nu a b j) (b + j) (nu (a + j)) = pcp nu a b (j + 1) := funext (fun p => by
  unfold pcp
  by_cases c : p = b + j
  · rw [c, pk_uLs, if_pos (by omega)]; exact congrArg nu (by omega)
  · rw [pk_uLn c]
    by_cases d : b ≤ p ∧ p < b + j
    · rw [if_pos d, if_pos (by omega)]
    · rw [if_neg d, if_neg (by omega)])
theorem pcp_0 {nu : Nat → Int64} {a b : Nat} : nu = pcp nu a b 0 := funext (fun p => (if_neg (by omega)).symm)
theorem pcp_in {nu f g : Nat → Int64} {s t i k n p : Nat} (hf : ∀ p, p < 60 → f p = nu (60 * s + p)) (hg : ∀ p, p < 60 → g p = nu (60 * t + p)) (hi : i + n ≤ 60) (hp : p < 60) : va_cpy f g i k n p = pcp nu (60 * s + i) (60 * t + k) n (60 * t + p) := by
  unfold va_cpy pcp
  by_cases c : k ≤ p ∧ p < k + n
  · rw [if_pos c, if_pos (by omega), hf _ (by omega)]; exact congrArg nu (by omega)
  · rw [if_neg c, if_neg (by omega), hg _ hp]
theorem pcp_out {nu : Nat → Int64} {a t k n j p : Nat} (hk : k + n ≤ 60) (he : j ≠ t) (hp : p < 60) : pcp nu a (60 * t + k) n (60 * j + p) = nu (60 * j + p) := if_neg (by omega)
theorem x_holds (d : Nat) (h : aH) (q m r : Nat) (y : Int32) (hm : m < 61) (j0 : isO h q 5 [.int y, .int (nI m), .ref r]) (i n : Int32) : Rn (d + 1) 47 [.ref (q), .int (i), .int (n)] h (some (.int (bI (hoR m i n)))) h 0 0 := by
  have em9 : (nI m).toInt = (m : Int) := nI_toInt (by omega)
  refine Rn_of (by decide) (Nat.le_of_ble_eq_true rfl) ?_
  show Wn _ _ 0 [(0, .ref (q)), (1, .int (i)), (2, .int (n))] [] _ _
  refine wn_ld (pc' := 1) (q := 1) (kin := 0) (v := .int (i)) rfl (fun _ _ _ => rfl) rfl rfl ?_
  refine wn_ifc (t := 30) (f := 4) rfl rfl rfl (fun c1 => ?_) (fun c1 => ?_)
  · have c1 : ((i)) < 0 := c1
    refine wn_ic (pc' := 31) (w := nI 0) rfl rfl (by decide) ?_
    try simp only [Int32.lt_iff_toInt_lt, Int32.le_iff_toInt_le, i2l_int, Int32.toInt_zero, iin, em9] at c1
    refine wn_iret rfl rfl (by decide) ⟨?_, rfl⟩
    exact congrArg (fun z => some (Value.int z)) (bI_f0 (fun q => by obtain ⟨q1, q2, q3⟩ := q; omega))
  · have c1 : 0 ≤ ((i)) := c1
    refine wn_ld (pc' := 5) (q := 2) (kin := 0) (v := .int (n)) rfl (fun _ _ _ => rfl) rfl rfl ?_
    refine wn_ifc (t := 30) (f := 8) rfl rfl rfl (fun c2 => ?_) (fun c2 => ?_)
    · have c2 : ((n)) < 0 := c2
      refine wn_ic (pc' := 31) (w := nI 0) rfl rfl (by decide) ?_
      try simp only [Int32.lt_iff_toInt_lt, Int32.le_iff_toInt_le, i2l_int, Int32.toInt_zero, iin, em9] at c1
      try simp only [Int32.lt_iff_toInt_lt, Int32.le_iff_toInt_le, i2l_int, Int32.toInt_zero, iin, em9] at c2
      refine wn_iret rfl rfl (by decide) ⟨?_, rfl⟩
      exact congrArg (fun z => some (Value.int z)) (bI_f0 (fun q => by obtain ⟨q1, q2, q3⟩ := q; omega))
    · have c2 : 0 ≤ ((n)) := c2
      refine wn_ld (pc' := 9) (q := 1) (kin := 0) (v := .int (i)) rfl (fun _ _ _ => rfl) rfl rfl ?_
      refine wn_ld (pc' := 10) (q := 0) (kin := 2) (v := .ref (q)) rfl (fun _ _ _ => rfl) rfl rfl ?_
      refine wn_get (pc' := 13) (v := .int (nI (m))) rfl rfl j0 rfl ?_
      refine wn_icmp (t := 30) (f := 16) rfl rfl rfl (fun c3 => ?_) (fun c3 => ?_)
      · have c3 : ((nI (m))) < ((i)) := c3
        refine wn_ic (pc' := 31) (w := nI 0) rfl rfl (by decide) ?_
        try simp only [Int32.lt_iff_toInt_lt, Int32.le_iff_toInt_le, i2l_int, Int32.toInt_zero, iin, em9] at c1
        try simp only [Int32.lt_iff_toInt_lt, Int32.le_iff_toInt_le, i2l_int, Int32.toInt_zero, iin, em9] at c2
        try simp only [Int32.lt_iff_toInt_lt, Int32.le_iff_toInt_le, i2l_int, Int32.toInt_zero, iin, em9] at c3
        refine wn_iret rfl rfl (by decide) ⟨?_, rfl⟩
        exact congrArg (fun z => some (Value.int z)) (bI_f0 (fun q => by obtain ⟨q1, q2, q3⟩ := q; omega))
      · have c3 : ((i)) ≤ ((nI (m))) := c3
        try simp only [Int32.lt_iff_toInt_lt, Int32.le_iff_toInt_le, i2l_int, Int32.toInt_zero, iin, em9] at c1
        try simp only [Int32.lt_iff_toInt_lt, Int32.le_iff_toInt_le, i2l_int, Int32.toInt_zero, iin, em9] at c2
        try simp only [Int32.lt_iff_toInt_lt, Int32.le_iff_toInt_le, i2l_int, Int32.toInt_zero, iin, em9] at c3
        have i9i : iin i (m + 1) := ⟨by omega, by omega⟩
        obtain ⟨i9, hi9, rfl⟩ := iin_of i9i
        have ti_i := nI_toInt (n := i9) (show i9 < 2 ^ 31 by omega)
        have cl_i := nI_clamp (n := i9) (show i9 < 2 ^ 31 by omega)
        refine wn_ld (pc' := 17) (q := 2) (kin := 0) (v := .int (n)) rfl (fun _ _ _ => rfl) rfl rfl ?_
        refine wn_ld (pc' := 18) (q := 0) (kin := 2) (v := .ref (q)) rfl (fun _ _ _ => rfl) rfl rfl ?_
        refine wn_get (pc' := 21) (v := .int (nI (m))) rfl rfl j0 rfl ?_
        refine wn_ld (pc' := 22) (q := 1) (kin := 0) (v := .int (nI (i9))) rfl (fun _ _ _ => rfl) rfl rfl ?_
        refine wn_subN (pc' := 23) rfl rfl (by omega) ?_
        refine wn_icmp (t := 30) (f := 26) rfl rfl rfl (fun c4 => ?_) (fun c4 => ?_)
        · have c4 : ((nI (m - i9))) < ((n)) := c4
          refine wn_ic (pc' := 31) (w := nI 0) rfl rfl (by decide) ?_
          have emi : (nI (m - i9)).toInt = ((m - i9 : Nat) : Int) := nI_toInt (by omega)
          try simp only [Int32.lt_iff_toInt_lt, Int32.le_iff_toInt_le, i2l_int, Int32.toInt_zero, iin, em9, emi] at c1
          try simp only [Int32.lt_iff_toInt_lt, Int32.le_iff_toInt_le, i2l_int, Int32.toInt_zero, iin, em9, emi] at c2
          try simp only [Int32.lt_iff_toInt_lt, Int32.le_iff_toInt_le, i2l_int, Int32.toInt_zero, iin, em9, emi] at c3
          try simp only [Int32.lt_iff_toInt_lt, Int32.le_iff_toInt_le, i2l_int, Int32.toInt_zero, iin, em9, emi] at c4
          refine wn_iret rfl rfl (by decide) ⟨?_, rfl⟩
          exact congrArg (fun z => some (Value.int z)) (bI_f0 (fun q => by obtain ⟨q1, q2, q3⟩ := q; omega))
        · have c4 : ((n)) ≤ ((nI (m - i9))) := c4
          refine wn_ic (pc' := 27) (w := nI 1) rfl rfl (by decide) ?_
          refine wn_jp (pc' := 31) rfl rfl ?_
          have emi : (nI (m - i9)).toInt = ((m - i9 : Nat) : Int) := nI_toInt (by omega)
          try simp only [Int32.lt_iff_toInt_lt, Int32.le_iff_toInt_le, i2l_int, Int32.toInt_zero, iin, em9, emi] at c1
          try simp only [Int32.lt_iff_toInt_lt, Int32.le_iff_toInt_le, i2l_int, Int32.toInt_zero, iin, em9, emi] at c2
          try simp only [Int32.lt_iff_toInt_lt, Int32.le_iff_toInt_le, i2l_int, Int32.toInt_zero, iin, em9, emi] at c3
          try simp only [Int32.lt_iff_toInt_lt, Int32.le_iff_toInt_le, i2l_int, Int32.toInt_zero, iin, em9, emi] at c4
          refine wn_iret rfl rfl (by decide) ⟨?_, rfl⟩
          exact congrArg (fun z => some (Value.int z)) (bI_t1 ⟨by omega, by omega, by omega⟩)

theorem x_paste (d : Nat) (h : aH)  (tp : Nat → Int32) (tl : Nat) (mn wd : Nat → Int32) (nu : Nat → Int64) (ct : Nat → Int32) (hS : WfS tp tl mn wd) (o0 : isO h 0 8 [.ref 1, .int (nI tl), .ref 2, .ref 23, .ref 50, .ref 51, .ref 52, .ref 58, .ref 59, .ref 60, .ref 61, .ref 62]) (o1 : isB h 1 1200 ct) (o2 : ∀ p, p < 1200 → ct p = tp p) (SL : SlV h mn wd nu) (s i t u n : Int32) : Sp (Rn (d + 2)) 132 [.ref (0), .int (s), .int (i), .int (t), .int (u), .int (n)] h (fun r9 h9 => r9 = some (.int (pasteA s i t u n mn wd)) ∧ h9.length = h.length ∧ (∀ k, 2 ≤ k → k < 51 ∨ 52 ≤ k → k < 63 ∨ 71 ≤ k → h9[k]? = h[k]?) ∧ isO h9 0 8 [.ref 1, .int (nI (tl)), .ref 2, .ref 23, .ref 50, .ref 51, .ref 52, .ref 58, .ref 59, .ref 60, .ref 61, .ref 62] ∧ (∃ ct', isB h9 1 1200 ct' ∧ ∀ p, p < 1200 → ct' p = tp p) ∧ SlV h9 (mn) (wd) (pasteN s i t u n mn wd nu)) := by
  obtain ⟨sg, sl1, sl2⟩ := id SL
  have hT := hS.1
  refine Sp_of (by decide) (Nat.le_of_ble_eq_true rfl) ?_
  show Wn _ _ 0 [(0, .ref (0)), (1, .int (s)), (2, .int (i)), (3, .int (t)), (4, .int (u)), (5, .int (n))] [] _ _
  refine wn_ld (pc' := 1) (q := 1) (kin := 0) (v := .int (s)) rfl (fun _ _ _ => rfl) rfl rfl ?_
  refine wn_staI (pc' := 4) rfl rfl (by decide) rfl rfl (Nat.le_of_ble_eq_true rfl) (x_isSlot _ _ _) ?_
  refine wn_ifeqB (t := 14) (f := 7) rfl rfl rfl (fun c1 => ?_) (fun c1 => ?_)
  · have c1 : ¬ (iin s 4) := c1
    refine wn_bp (pc' := 16) (w := -2) rfl rfl (by decide) ?_
    refine wn_iret rfl rfl rfl ⟨congrArg (fun z => some (Value.int z)) ?_, rfl, fun _ _ _ _ => rfl, o0, ⟨_, o1, o2⟩, ?_⟩
    · exact (qI_f (fun q => c1 q.1)).symm
    · rw [show pasteN s i t u n mn wd nu = nu from qN_f (fun q => (fun q => c1 q.1) q.1)]; exact SL
  · have c1 : (iin s 4) := c1
    obtain ⟨s9, hs9, rfl⟩ := iin_of c1
    have ti_s := nI_toInt (n := s9) (show s9 < 2 ^ 31 by omega)
    have cl_s := nI_clamp (n := s9) (show s9 < 2 ^ 31 by omega)
    obtain ⟨nm_s9, nj_s9, nv_s9⟩ := (sl2 s9 (by omega)).2.2
    refine wn_ld (pc' := 8) (q := 3) (kin := 0) (v := .int (t)) rfl (fun _ _ _ => rfl) rfl rfl ?_
    refine wn_staI (pc' := 11) rfl rfl (by decide) rfl rfl (Nat.le_of_ble_eq_true rfl) (x_isSlot _ _ _) ?_
    refine wn_ifneB (t := 17) (f := 14) rfl rfl rfl (fun c2 => ?_) (fun c2 => ?_)
    · have c2 : (iin t 4) := c2
      obtain ⟨t9, ht9, rfl⟩ := iin_of c2
      have ti_t := nI_toInt (n := t9) (show t9 < 2 ^ 31 by omega)
      have cl_t := nI_clamp (n := t9) (show t9 < 2 ^ 31 by omega)
      obtain ⟨nm_t9, nj_t9, nv_t9⟩ := (sl2 t9 (by omega)).2.2
      refine wn_ld (pc' := 18) (q := 0) (kin := 2) (v := .ref (0)) rfl (fun _ _ _ => rfl) rfl rfl ?_
      refine wn_get (pc' := 21) (v := .ref (51)) rfl rfl o0 rfl ?_
      refine wn_ld (pc' := 22) (q := 1) (kin := 0) (v := .int (nI (s9))) rfl (fun _ _ _ => rfl) rfl rfl ?_
      refine wn_aaldv (pc' := 23) (j := s9) (v := .ref (63 + 2 * s9)) rfl rfl (Or.inr rfl) sl1 rfl (by omega) (by decide) ((congrArg va_rf (sl2 s9 (by omega)).1)) ?_
      refine wn_st (pc' := 25) (q := 6) (kin := 2) (lv' := [(0, .ref (0)), (1, .int (nI (s9))), (2, .int (i)), (3, .int (nI (t9))), (4, .int (u)), (5, .int (n)), (6, .ref (63 + 2 * s9))]) rfl (fun _ _ _ => rfl) rfl (Nat.le_of_ble_eq_true rfl) rfl ?_
      refine wn_ld (pc' := 26) (q := 0) (kin := 2) (v := .ref (0)) rfl (fun _ _ _ => rfl) rfl rfl ?_
      refine wn_get (pc' := 29) (v := .ref (51)) rfl rfl o0 rfl ?_
      refine wn_ld (pc' := 30) (q := 3) (kin := 0) (v := .int (nI (t9))) rfl (fun _ _ _ => rfl) rfl rfl ?_
      refine wn_aaldv (pc' := 31) (j := t9) (v := .ref (63 + 2 * t9)) rfl rfl (Or.inr rfl) sl1 rfl (by omega) (by decide) ((congrArg va_rf (sl2 t9 (by omega)).1)) ?_
      refine wn_st (pc' := 33) (q := 7) (kin := 2) (lv' := [(0, .ref (0)), (1, .int (nI (s9))), (2, .int (i)), (3, .int (nI (t9))), (4, .int (u)), (5, .int (n)), (6, .ref (63 + 2 * s9)), (7, .ref (63 + 2 * t9))]) rfl (fun _ _ _ => rfl) rfl (Nat.le_of_ble_eq_true rfl) rfl ?_
      refine wn_ld (pc' := 35) (q := 6) (kin := 2) (v := .ref (63 + 2 * s9)) rfl (fun _ _ _ => rfl) rfl rfl ?_
      refine wn_get (pc' := 38) (v := .int (mn s9)) rfl rfl (sl2 s9 (by omega)).2.1 rfl ?_
      refine wn_ic (pc' := 39) (w := -1) rfl rfl (by decide) ?_
      refine wn_icmp (t := 51) (f := 42) rfl rfl rfl (fun c3 => ?_) (fun c3 => ?_)
      · have c3 : ((mn s9)) = ((-1)) := c3
        refine wn_bp (pc' := 53) (w := -6) rfl rfl (by decide) ?_
        have i2 : iin (nI s9) 4 ∧ iin (nI t9) 4 := ⟨iin_nI (by omega) (by omega), iin_nI (by omega) (by omega)⟩
        have b6 : mn s9 = -1 ∨ mn t9 = -1 := Or.inl c3
        refine wn_iret rfl rfl rfl ⟨congrArg (fun z => some (Value.int z)) ?_, rfl, fun _ _ _ _ => rfl, o0, ⟨_, o1, o2⟩, ?_⟩
        · unfold pasteA; rw [qI_t i2, cl_s, cl_t, qI_t b6]
        · rw [show pasteN (nI s9) i (nI t9) u n mn wd nu = nu from qN_f (fun q => by have q2 := q.2.1; rw [cl_s, cl_t] at q2; exact q2 b6)]; exact SL
      · have c3 : ¬ ((mn s9)) = ((-1)) := c3
        refine wn_ld (pc' := 44) (q := 7) (kin := 2) (v := .ref (63 + 2 * t9)) rfl (fun _ _ _ => rfl) rfl rfl ?_
        refine wn_get (pc' := 47) (v := .int (mn t9)) rfl rfl (sl2 t9 (by omega)).2.1 rfl ?_
        refine wn_ic (pc' := 48) (w := -1) rfl rfl (by decide) ?_
        refine wn_icmp (t := 54) (f := 51) rfl rfl rfl (fun c4 => ?_) (fun c4 => ?_)
        · have c4 : ¬ ((mn t9)) = ((-1)) := c4
          obtain ⟨m_s9, hm_s9, em_s9⟩ := (hS.2.2 s9 (by omega)).1.resolve_left c3
          have tm_s9 : (mn s9).toInt = (m_s9 : Int) := by rw [em_s9]; exact nI_toInt (by omega)
          obtain ⟨m_t9, hm_t9, em_t9⟩ := (hS.2.2 t9 (by omega)).1.resolve_left c4
          have tm_t9 : (mn t9).toInt = (m_t9 : Int) := by rw [em_t9]; exact nI_toInt (by omega)
          refine wn_ld (pc' := 56) (q := 6) (kin := 2) (v := .ref (63 + 2 * s9)) rfl (fun _ _ _ => rfl) rfl rfl ?_
          refine wn_get (pc' := 59) (v := .int (wd s9)) rfl rfl (sl2 s9 (by omega)).2.1 rfl ?_
          refine wn_ld (pc' := 61) (q := 7) (kin := 2) (v := .ref (63 + 2 * t9)) rfl (fun _ _ _ => rfl) rfl rfl ?_
          refine wn_get (pc' := 64) (v := .int (wd t9)) rfl rfl (sl2 t9 (by omega)).2.1 rfl ?_
          refine wn_icmp (t := 70) (f := 67) rfl rfl rfl (fun c5 => ?_) (fun c5 => ?_)
          · have c5 : ((wd s9)) = ((wd t9)) := c5
            refine wn_ld (pc' := 72) (q := 6) (kin := 2) (v := .ref (63 + 2 * s9)) rfl (fun _ _ _ => rfl) rfl rfl ?_
            refine wn_ld (pc' := 73) (q := 2) (kin := 0) (v := .int (i)) rfl (fun _ _ _ => rfl) rfl rfl ?_
            refine wn_ld (pc' := 75) (q := 5) (kin := 0) (v := .int (n)) rfl (fun _ _ _ => rfl) rfl rfl ?_
            refine wn_virI (pc' := 78) rfl rfl (by decide) rfl rfl (sl2 s9 (by omega)).2.1 (Nat.le_of_ble_eq_true rfl) (x_holds _ _ _ m_s9 _ _ hm_s9 (by rw [← em_s9]; exact (sl2 s9 (by omega)).2.1) i n) ?_
            refine wn_ifeqB (t := 93) (f := 81) rfl rfl rfl (fun c6 => ?_) (fun c6 => ?_)
            · have c6 : ¬ (hoR m_s9 i n) := c6
              refine wn_bp (pc' := 95) (w := -7) rfl rfl (by decide) ?_
              have i2 : iin (nI s9) 4 ∧ iin (nI t9) 4 := ⟨iin_nI (by omega) (by omega), iin_nI (by omega) (by omega)⟩
              have b6 : ¬ (mn s9 = -1 ∨ mn t9 = -1) := fun q => q.elim c3 c4
              have wn : ¬ psR mn s9 t9 i u n := fun q => by obtain ⟨q1, q2, q3, q4, q5⟩ := q; exact c6 ⟨by assumption, by assumption, by omega⟩
              refine wn_iret rfl rfl rfl ⟨congrArg (fun z => some (Value.int z)) ?_, rfl, fun _ _ _ _ => rfl, o0, ⟨_, o1, o2⟩, ?_⟩
              · unfold pasteA; rw [qI_t i2, cl_s, cl_t, qI_f b6, qI_t c5, qI_f wn]
              · rw [show pasteN (nI s9) i (nI t9) u n mn wd nu = nu from qN_f (fun q => by have q2 := q.2.2.2; rw [cl_s, cl_t] at q2; exact wn q2)]; exact SL
            · have c6 : (hoR m_s9 i n) := c6
              obtain ⟨i9, hi9, rfl⟩ := iin_of (show iin i 61 from ⟨c6.1, by have := c6.2.1; have := c6.2.2; omega⟩)
              have ti_i := nI_toInt (n := i9) (show i9 < 2 ^ 31 by omega)
              have cl_i := nI_clamp (n := i9) (show i9 < 2 ^ 31 by omega)
              obtain ⟨n9, hn9, rfl⟩ := iin_of (show iin n 61 from ⟨c6.2.1, by have := c6.1; have := c6.2.2; omega⟩)
              have ti_n := nI_toInt (n := n9) (show n9 < 2 ^ 31 by omega)
              have cl_n := nI_clamp (n := n9) (show n9 < 2 ^ 31 by omega)
              have hr_s9 : i9 + n9 ≤ m_s9 := by have := c6.2.2; omega
              refine wn_ld (pc' := 83) (q := 7) (kin := 2) (v := .ref (63 + 2 * t9)) rfl (fun _ _ _ => rfl) rfl rfl ?_
              refine wn_ld (pc' := 85) (q := 4) (kin := 0) (v := .int (u)) rfl (fun _ _ _ => rfl) rfl rfl ?_
              refine wn_ld (pc' := 87) (q := 5) (kin := 0) (v := .int (nI (n9))) rfl (fun _ _ _ => rfl) rfl rfl ?_
              refine wn_virI (pc' := 90) rfl rfl (by decide) rfl rfl (sl2 t9 (by omega)).2.1 (Nat.le_of_ble_eq_true rfl) (x_holds _ _ _ m_t9 _ _ hm_t9 (by rw [← em_t9]; exact (sl2 t9 (by omega)).2.1) u (nI (n9))) ?_
              refine wn_ifneB (t := 96) (f := 93) rfl rfl rfl (fun c7 => ?_) (fun c7 => ?_)
              · have c7 : (hoR m_t9 u (nI (n9))) := c7
                obtain ⟨u9, hu9, rfl⟩ := iin_of (show iin u 61 from ⟨c7.1, by have := c7.2.1; have := c7.2.2; omega⟩)
                have ti_u := nI_toInt (n := u9) (show u9 < 2 ^ 31 by omega)
                have cl_u := nI_clamp (n := u9) (show u9 < 2 ^ 31 by omega)
                have hr_t9 : u9 + n9 ≤ m_t9 := by have := c7.2.2; omega
                refine wn_ld (pc' := 98) (q := 6) (kin := 2) (v := .ref (63 + 2 * s9)) rfl (fun _ _ _ => rfl) rfl rfl ?_
                refine wn_get (pc' := 101) (v := .ref (64 + 2 * s9)) rfl rfl (sl2 s9 (by omega)).2.1 rfl ?_
                refine wn_ld (pc' := 102) (q := 2) (kin := 0) (v := .int (nI (i9))) rfl (fun _ _ _ => rfl) rfl rfl ?_
                refine wn_ld (pc' := 104) (q := 7) (kin := 2) (v := .ref (63 + 2 * t9)) rfl (fun _ _ _ => rfl) rfl rfl ?_
                refine wn_get (pc' := 107) (v := .ref (64 + 2 * t9)) rfl rfl (sl2 t9 (by omega)).2.1 rfl ?_
                refine wn_ld (pc' := 109) (q := 4) (kin := 0) (v := .int (nI (u9))) rfl (fun _ _ _ => rfl) rfl rfl ?_
                refine wn_ld (pc' := 111) (q := 5) (kin := 0) (v := .int (nI (n9))) rfl (fun _ _ _ => rfl) rfl rfl ?_
                refine wn_cpyJ (pc' := 114) rfl rfl (by decide) nj_s9 nj_t9 (by omega) (by omega) (by decide) (by decide) ?_
                refine wn_ic (pc' := 115) (w := nI 0) rfl rfl (by decide) ?_
                have i2 : iin (nI s9) 4 ∧ iin (nI t9) 4 := ⟨iin_nI (by omega) (by omega), iin_nI (by omega) (by omega)⟩
                have b6 : ¬ (mn s9 = -1 ∨ mn t9 = -1) := fun q => q.elim c3 c4
                have wy : psR mn s9 t9 (nI i9) (nI u9) (nI n9) := ⟨by omega, by omega, by omega, by omega, by omega⟩
                have hG : pasteG (nI s9) (nI i9) (nI t9) (nI u9) (nI n9) mn wd := ⟨i2, by rw [cl_s, cl_t]; exact ⟨b6, c5, wy⟩⟩
                refine wn_iret rfl rfl rfl ⟨congrArg (fun z => some (Value.int z)) ?_, (Fr.st (Fr.rfl' [63 + 2 * t9, 64 + 2 * t9] h) (by simp)).1, fun k p1 p2 p3 => (Fr.st (Fr.rfl' [63 + 2 * t9, 64 + 2 * t9] h) (by simp)).2 k (by simp only [List.mem_cons, List.not_mem_nil, or_false]; omega), o0.kp ((Fr.st (Fr.rfl' [63 + 2 * t9, 64 + 2 * t9] h) (by simp)).2 _ (by simp only [List.mem_cons, List.not_mem_nil, or_false]; omega)), ⟨_, o1.kp ((Fr.st (Fr.rfl' [63 + 2 * t9, 64 + 2 * t9] h) (by simp)).2 _ (by simp only [List.mem_cons, List.not_mem_nil, or_false]; omega)), o2⟩, ?_⟩
                · unfold pasteA; rw [qI_t i2, cl_s, cl_t, qI_f b6, qI_t c5, qI_t wy]
                · unfold pasteN; rw [qN_t hG, cl_s, cl_t, cl_i, cl_u, cl_n]
                  exact SL.up1 (show t9 < 4 by omega) (Fr.st (Fr.rfl' [63 + 2 * t9, 64 + 2 * t9] h) (by simp)) (gs_ne (by omega) (sl2 t9 (by omega)).2.1) (gs_self nj_t9) (fun p hp => pcp_in nv_s9 nv_t9 (by omega) hp) (fun k p hk he hp => pcp_out (by omega) he hp)
              · have c7 : ¬ (hoR m_t9 u (nI (n9))) := c7
                refine wn_bp (pc' := 95) (w := -7) rfl rfl (by decide) ?_
                have i2 : iin (nI s9) 4 ∧ iin (nI t9) 4 := ⟨iin_nI (by omega) (by omega), iin_nI (by omega) (by omega)⟩
                have b6 : ¬ (mn s9 = -1 ∨ mn t9 = -1) := fun q => q.elim c3 c4
                have wn : ¬ psR mn s9 t9 (nI i9) u (nI n9) := fun q => by obtain ⟨q1, q2, q3, q4, q5⟩ := q; exact c7 ⟨by assumption, by assumption, by omega⟩
                refine wn_iret rfl rfl rfl ⟨congrArg (fun z => some (Value.int z)) ?_, rfl, fun _ _ _ _ => rfl, o0, ⟨_, o1, o2⟩, ?_⟩
                · unfold pasteA; rw [qI_t i2, cl_s, cl_t, qI_f b6, qI_t c5, qI_f wn]
                · rw [show pasteN (nI s9) (nI i9) (nI t9) u (nI n9) mn wd nu = nu from qN_f (fun q => by have q2 := q.2.2.2; rw [cl_s, cl_t] at q2; exact wn q2)]; exact SL
          · have c5 : ¬ ((wd s9)) = ((wd t9)) := c5
            refine wn_bp (pc' := 69) (w := -8) rfl rfl (by decide) ?_
            have i2 : iin (nI s9) 4 ∧ iin (nI t9) 4 := ⟨iin_nI (by omega) (by omega), iin_nI (by omega) (by omega)⟩
            have b6 : ¬ (mn s9 = -1 ∨ mn t9 = -1) := fun q => q.elim c3 c4
            refine wn_iret rfl rfl rfl ⟨congrArg (fun z => some (Value.int z)) ?_, rfl, fun _ _ _ _ => rfl, o0, ⟨_, o1, o2⟩, ?_⟩
            · unfold pasteA; rw [qI_t i2, cl_s, cl_t, qI_f b6, qI_f c5]
            · rw [show pasteN (nI s9) i (nI t9) u n mn wd nu = nu from qN_f (fun q => by have q2 := q.2.2.1; rw [cl_s, cl_t] at q2; exact c5 q2)]; exact SL
        · have c4 : ((mn t9)) = ((-1)) := c4
          refine wn_bp (pc' := 53) (w := -6) rfl rfl (by decide) ?_
          have i2 : iin (nI s9) 4 ∧ iin (nI t9) 4 := ⟨iin_nI (by omega) (by omega), iin_nI (by omega) (by omega)⟩
          have b6 : mn s9 = -1 ∨ mn t9 = -1 := Or.inr c4
          refine wn_iret rfl rfl rfl ⟨congrArg (fun z => some (Value.int z)) ?_, rfl, fun _ _ _ _ => rfl, o0, ⟨_, o1, o2⟩, ?_⟩
          · unfold pasteA; rw [qI_t i2, cl_s, cl_t, qI_t b6]
          · rw [show pasteN (nI s9) i (nI t9) u n mn wd nu = nu from qN_f (fun q => by have q2 := q.2.1; rw [cl_s, cl_t] at q2; exact q2 b6)]; exact SL
    · have c2 : ¬ (iin t 4) := c2
      refine wn_bp (pc' := 16) (w := -2) rfl rfl (by decide) ?_
      refine wn_iret rfl rfl rfl ⟨congrArg (fun z => some (Value.int z)) ?_, rfl, fun _ _ _ _ => rfl, o0, ⟨_, o1, o2⟩, ?_⟩
      · exact (qI_f (fun q => c2 q.2)).symm
      · rw [show pasteN (nI s9) i t u n mn wd nu = nu from qN_f (fun q => (fun q => c2 q.2) q.1)]; exact SL

theorem m_paste (d : Nat) (h : aH)  (tp : Nat → Int32) (tl : Nat) (mn wd : Nat → Int32) (nu : Nat → Int64) (hS : WfS tp tl mn wd) (MT : MtV h tp tl mn wd nu) (s i t u n : Int32) : Sp (Rn (d + 3)) 242 [.ref (71), .int (s), .int (i), .int (t), .int (u), .int (n)] h (fun r9 h9 => r9 = some (.int (pasteA s i t u n mn wd)) ∧ h9.length = h.length ∧ (∀ k, k ≠ 71 → k ≠ 75 → k ≠ 76 → k < 81 ∨ 85 ≤ k → h9[k]? = h[k]?) ∧ (∀ th sz at9 fr tk vl fk fp il up lo, isO h 71 9 (MoF th (nI tl) sz at9 fr tk vl fk fp il up lo) → isO h9 71 9 (MoF th (nI (tl)) sz at9 fr tk vl fk fp il up lo)) ∧ isB h9 75 1200 (tp) ∧ (∃ fv', isI h9 76 5 fv') ∧ isI h9 81 4 (mn) ∧ isI h9 82 4 (wd) ∧ isJ h9 83 240 (pasteN s i t u n mn wd nu) ∧ ∃ mv', isJ h9 84 60 mv') := by
  obtain ⟨th, sz, at9, fr, tk, vl, fk, fp, il, up, lo, fv, mv, q0, q1, q2, q3, q4, q5, q6⟩ := id MT
  have hT := hS.1
  refine Sp_of (by decide) (Nat.le_of_ble_eq_true rfl) ?_
  show Wn _ _ 0 [(0, .ref (71)), (1, .int (s)), (2, .int (i)), (3, .int (t)), (4, .int (u)), (5, .int (n))] [] _ _
  refine wn_ld (pc' := 1) (q := 1) (kin := 0) (v := .int (s)) rfl (fun _ _ _ => rfl) rfl rfl ?_
  refine wn_staI (pc' := 4) rfl rfl (by decide) rfl rfl (Nat.le_of_ble_eq_true rfl) (m_isSlot _ _ _) ?_
  refine wn_ifeqB (t := 14) (f := 7) rfl rfl rfl (fun c1 => ?_) (fun c1 => ?_)
  · have c1 : ¬ (iin s 4) := c1
    refine wn_bp (pc' := 16) (w := -2) rfl rfl (by decide) ?_
    refine wn_iret rfl rfl rfl ⟨congrArg (fun z => some (Value.int z)) ?_, rfl, fun _ _ _ _ _ => rfl, fun _ _ _ _ _ _ _ _ _ _ _ q => q, q1, ⟨_, q2⟩, ?_, ?_, ?_, _, q6⟩
    · exact (qI_f (fun q => c1 q.1)).symm
    · exact q3
    · exact q4
    · rw [show pasteN s i t u n mn wd nu = nu from qN_f (fun q => (fun q => c1 q.1) q.1)]; exact q5
  · have c1 : (iin s 4) := c1
    obtain ⟨s9, hs9, rfl⟩ := iin_of c1
    have ti_s := nI_toInt (n := s9) (show s9 < 2 ^ 31 by omega)
    have cl_s := nI_clamp (n := s9) (show s9 < 2 ^ 31 by omega)
    refine wn_ld (pc' := 8) (q := 3) (kin := 0) (v := .int (t)) rfl (fun _ _ _ => rfl) rfl rfl ?_
    refine wn_staI (pc' := 11) rfl rfl (by decide) rfl rfl (Nat.le_of_ble_eq_true rfl) (m_isSlot _ _ _) ?_
    refine wn_ifneB (t := 17) (f := 14) rfl rfl rfl (fun c2 => ?_) (fun c2 => ?_)
    · have c2 : (iin t 4) := c2
      obtain ⟨t9, ht9, rfl⟩ := iin_of c2
      have ti_t := nI_toInt (n := t9) (show t9 < 2 ^ 31 by omega)
      have cl_t := nI_clamp (n := t9) (show t9 < 2 ^ 31 by omega)
      refine wn_ld (pc' := 18) (q := 0) (kin := 2) (v := .ref (71)) rfl (fun _ _ _ => rfl) rfl rfl ?_
      refine wn_get (pc' := 21) (v := .ref (81)) rfl rfl q0 rfl ?_
      refine wn_ld (pc' := 22) (q := 1) (kin := 0) (v := .int (nI (s9))) rfl (fun _ _ _ => rfl) rfl rfl ?_
      refine wn_ialdv (pc' := 23) (j := s9) (v := (mn (s9))) rfl rfl q3 rfl (by omega) (by decide) (rfl) ?_
      refine wn_ic (pc' := 24) (w := -1) rfl rfl (by decide) ?_
      refine wn_icmp (t := 37) (f := 27) rfl rfl rfl (fun c3 => ?_) (fun c3 => ?_)
      · have c3 : ((mn (s9))) = ((-1)) := c3
        refine wn_bp (pc' := 39) (w := -6) rfl rfl (by decide) ?_
        have i2 : iin (nI s9) 4 ∧ iin (nI t9) 4 := ⟨iin_nI (by omega) (by omega), iin_nI (by omega) (by omega)⟩
        have b6 : mn s9 = -1 ∨ mn t9 = -1 := Or.inl c3
        refine wn_iret rfl rfl rfl ⟨congrArg (fun z => some (Value.int z)) ?_, rfl, fun _ _ _ _ _ => rfl, fun _ _ _ _ _ _ _ _ _ _ _ q => q, q1, ⟨_, q2⟩, ?_, ?_, ?_, _, q6⟩
        · unfold pasteA; rw [qI_t i2, cl_s, cl_t, qI_t b6]
        · exact q3
        · exact q4
        · rw [show pasteN (nI s9) i (nI t9) u n mn wd nu = nu from qN_f (fun q => by have q2 := q.2.1; rw [cl_s, cl_t] at q2; exact q2 b6)]; exact q5
      · have c3 : ¬ ((mn (s9))) = ((-1)) := c3
        refine wn_ld (pc' := 28) (q := 0) (kin := 2) (v := .ref (71)) rfl (fun _ _ _ => rfl) rfl rfl ?_
        refine wn_get (pc' := 31) (v := .ref (81)) rfl rfl q0 rfl ?_
        refine wn_ld (pc' := 32) (q := 3) (kin := 0) (v := .int (nI (t9))) rfl (fun _ _ _ => rfl) rfl rfl ?_
        refine wn_ialdv (pc' := 33) (j := t9) (v := (mn (t9))) rfl rfl q3 rfl (by omega) (by decide) (rfl) ?_
        refine wn_ic (pc' := 34) (w := -1) rfl rfl (by decide) ?_
        refine wn_icmp (t := 40) (f := 37) rfl rfl rfl (fun c4 => ?_) (fun c4 => ?_)
        · have c4 : ¬ ((mn (t9))) = ((-1)) := c4
          refine wn_ld (pc' := 41) (q := 0) (kin := 2) (v := .ref (71)) rfl (fun _ _ _ => rfl) rfl rfl ?_
          refine wn_get (pc' := 44) (v := .ref (82)) rfl rfl q0 rfl ?_
          refine wn_ld (pc' := 45) (q := 1) (kin := 0) (v := .int (nI (s9))) rfl (fun _ _ _ => rfl) rfl rfl ?_
          refine wn_ialdv (pc' := 46) (j := s9) (v := (wd (s9))) rfl rfl q4 rfl (by omega) (by decide) (rfl) ?_
          refine wn_ld (pc' := 47) (q := 0) (kin := 2) (v := .ref (71)) rfl (fun _ _ _ => rfl) rfl rfl ?_
          refine wn_get (pc' := 50) (v := .ref (82)) rfl rfl q0 rfl ?_
          refine wn_ld (pc' := 51) (q := 3) (kin := 0) (v := .int (nI (t9))) rfl (fun _ _ _ => rfl) rfl rfl ?_
          refine wn_ialdv (pc' := 52) (j := t9) (v := (wd (t9))) rfl rfl q4 rfl (by omega) (by decide) (rfl) ?_
          refine wn_icmp (t := 58) (f := 55) rfl rfl rfl (fun c5 => ?_) (fun c5 => ?_)
          · have c5 : ((wd (s9))) = ((wd (t9))) := c5
            obtain ⟨m_s9, hm_s9, em_s9⟩ := (hS.2.2 s9 (by omega)).1.resolve_left c3
            have tm_s9 : (mn s9).toInt = (m_s9 : Int) := by rw [em_s9]; exact nI_toInt (by omega)
            obtain ⟨m_t9, hm_t9, em_t9⟩ := (hS.2.2 t9 (by omega)).1.resolve_left c4
            have tm_t9 : (mn t9).toInt = (m_t9 : Int) := by rw [em_t9]; exact nI_toInt (by omega)
            refine wn_ld (pc' := 59) (q := 2) (kin := 0) (v := .int (i)) rfl (fun _ _ _ => rfl) rfl rfl ?_
            refine wn_ifc (t := 107) (f := 62) rfl rfl rfl (fun c6 => ?_) (fun c6 => ?_)
            · have c6 : ((i)) < 0 := c6
              refine wn_bp (pc' := 109) (w := -7) rfl rfl (by decide) ?_
              have i2 : iin (nI s9) 4 ∧ iin (nI t9) 4 := ⟨iin_nI (by omega) (by omega), iin_nI (by omega) (by omega)⟩
              have b6 : ¬ (mn s9 = -1 ∨ mn t9 = -1) := fun q => q.elim c3 c4
              have wn : ¬ psR mn s9 t9 i u n := fun q => by obtain ⟨q1, q2, q3, q4, q5⟩ := q; have e9 := c6; simp only [Int32.lt_iff_toInt_lt, Int32.le_iff_toInt_le, i2l_int, Int32.toInt_zero, iin, add2l] at e9; omega
              refine wn_iret rfl rfl rfl ⟨congrArg (fun z => some (Value.int z)) ?_, rfl, fun _ _ _ _ _ => rfl, fun _ _ _ _ _ _ _ _ _ _ _ q => q, q1, ⟨_, q2⟩, ?_, ?_, ?_, _, q6⟩
              · unfold pasteA; rw [qI_t i2, cl_s, cl_t, qI_f b6, qI_t c5, qI_f wn]
              · exact q3
              · exact q4
              · rw [show pasteN (nI s9) i (nI t9) u n mn wd nu = nu from qN_f (fun q => by have q2 := q.2.2.2; rw [cl_s, cl_t] at q2; exact wn q2)]; exact q5
            · have c6 : 0 ≤ ((i)) := c6
              refine wn_ld (pc' := 64) (q := 4) (kin := 0) (v := .int (u)) rfl (fun _ _ _ => rfl) rfl rfl ?_
              refine wn_ifc (t := 107) (f := 67) rfl rfl rfl (fun c7 => ?_) (fun c7 => ?_)
              · have c7 : ((u)) < 0 := c7
                refine wn_bp (pc' := 109) (w := -7) rfl rfl (by decide) ?_
                have i2 : iin (nI s9) 4 ∧ iin (nI t9) 4 := ⟨iin_nI (by omega) (by omega), iin_nI (by omega) (by omega)⟩
                have b6 : ¬ (mn s9 = -1 ∨ mn t9 = -1) := fun q => q.elim c3 c4
                have wn : ¬ psR mn s9 t9 i u n := fun q => by obtain ⟨q1, q2, q3, q4, q5⟩ := q; have e9 := c7; simp only [Int32.lt_iff_toInt_lt, Int32.le_iff_toInt_le, i2l_int, Int32.toInt_zero, iin, add2l] at e9; omega
                refine wn_iret rfl rfl rfl ⟨congrArg (fun z => some (Value.int z)) ?_, rfl, fun _ _ _ _ _ => rfl, fun _ _ _ _ _ _ _ _ _ _ _ q => q, q1, ⟨_, q2⟩, ?_, ?_, ?_, _, q6⟩
                · unfold pasteA; rw [qI_t i2, cl_s, cl_t, qI_f b6, qI_t c5, qI_f wn]
                · exact q3
                · exact q4
                · rw [show pasteN (nI s9) i (nI t9) u n mn wd nu = nu from qN_f (fun q => by have q2 := q.2.2.2; rw [cl_s, cl_t] at q2; exact wn q2)]; exact q5
              · have c7 : 0 ≤ ((u)) := c7
                refine wn_ld (pc' := 69) (q := 5) (kin := 0) (v := .int (n)) rfl (fun _ _ _ => rfl) rfl rfl ?_
                refine wn_ifc (t := 107) (f := 72) rfl rfl rfl (fun c8 => ?_) (fun c8 => ?_)
                · have c8 : ((n)) < 0 := c8
                  refine wn_bp (pc' := 109) (w := -7) rfl rfl (by decide) ?_
                  have i2 : iin (nI s9) 4 ∧ iin (nI t9) 4 := ⟨iin_nI (by omega) (by omega), iin_nI (by omega) (by omega)⟩
                  have b6 : ¬ (mn s9 = -1 ∨ mn t9 = -1) := fun q => q.elim c3 c4
                  have wn : ¬ psR mn s9 t9 i u n := fun q => by obtain ⟨q1, q2, q3, q4, q5⟩ := q; have e9 := c8; simp only [Int32.lt_iff_toInt_lt, Int32.le_iff_toInt_le, i2l_int, Int32.toInt_zero, iin, add2l] at e9; omega
                  refine wn_iret rfl rfl rfl ⟨congrArg (fun z => some (Value.int z)) ?_, rfl, fun _ _ _ _ _ => rfl, fun _ _ _ _ _ _ _ _ _ _ _ q => q, q1, ⟨_, q2⟩, ?_, ?_, ?_, _, q6⟩
                  · unfold pasteA; rw [qI_t i2, cl_s, cl_t, qI_f b6, qI_t c5, qI_f wn]
                  · exact q3
                  · exact q4
                  · rw [show pasteN (nI s9) i (nI t9) u n mn wd nu = nu from qN_f (fun q => by have q2 := q.2.2.2; rw [cl_s, cl_t] at q2; exact wn q2)]; exact q5
                · have c8 : 0 ≤ ((n)) := c8
                  refine wn_ld (pc' := 73) (q := 2) (kin := 0) (v := .int (i)) rfl (fun _ _ _ => rfl) rfl rfl ?_
                  refine wn_pu (pc' := 74) (st' := [.long (Int32.toInt64 (i))]) rfl (fun _ _ _ => rfl) rfl rfl ?_
                  refine wn_ld (pc' := 76) (q := 5) (kin := 0) (v := .int (n)) rfl (fun _ _ _ => rfl) rfl rfl ?_
                  refine wn_pu (pc' := 77) (st' := [.long (Int32.toInt64 (n)), .long (Int32.toInt64 (i))]) rfl (fun _ _ _ => rfl) rfl rfl ?_
                  refine wn_pu (pc' := 78) (st' := [.long ((Int32.toInt64 (i)) + (Int32.toInt64 (n)))]) rfl (fun _ _ _ => rfl) rfl rfl ?_
                  refine wn_ld (pc' := 79) (q := 0) (kin := 2) (v := .ref (71)) rfl (fun _ _ _ => rfl) rfl rfl ?_
                  refine wn_get (pc' := 82) (v := .ref (81)) rfl rfl q0 rfl ?_
                  refine wn_ld (pc' := 83) (q := 1) (kin := 0) (v := .int (nI (s9))) rfl (fun _ _ _ => rfl) rfl rfl ?_
                  refine wn_ialdv (pc' := 84) (j := s9) (v := (mn (s9))) rfl rfl q3 rfl (by omega) (by decide) (rfl) ?_
                  refine wn_pu (pc' := 85) (st' := [.long (Int32.toInt64 (mn (s9))), .long ((Int32.toInt64 (i)) + (Int32.toInt64 (n)))]) rfl (fun _ _ _ => rfl) rfl rfl ?_
                  refine wn_pu (pc' := 86) (st' := [.int (lg_cmp ((Int32.toInt64 (i)) + (Int32.toInt64 (n))) (Int32.toInt64 (mn (s9))))]) rfl (fun _ _ _ => rfl) rfl rfl ?_
                  refine wn_lc (t := 107) (f := 89) rfl rfl rfl (fun c9 => ?_) (fun c9 => ?_)
                  · have c9 : ((Int32.toInt64 (i)) + (Int32.toInt64 (n))).toInt > (Int32.toInt64 (mn (s9))).toInt := c9
                    refine wn_bp (pc' := 109) (w := -7) rfl rfl (by decide) ?_
                    have i2 : iin (nI s9) 4 ∧ iin (nI t9) 4 := ⟨iin_nI (by omega) (by omega), iin_nI (by omega) (by omega)⟩
                    have b6 : ¬ (mn s9 = -1 ∨ mn t9 = -1) := fun q => q.elim c3 c4
                    have wn : ¬ psR mn s9 t9 i u n := fun q => by obtain ⟨q1, q2, q3, q4, q5⟩ := q; have e9 := c9; simp only [Int32.lt_iff_toInt_lt, Int32.le_iff_toInt_le, i2l_int, Int32.toInt_zero, iin, add2l] at e9; omega
                    refine wn_iret rfl rfl rfl ⟨congrArg (fun z => some (Value.int z)) ?_, rfl, fun _ _ _ _ _ => rfl, fun _ _ _ _ _ _ _ _ _ _ _ q => q, q1, ⟨_, q2⟩, ?_, ?_, ?_, _, q6⟩
                    · unfold pasteA; rw [qI_t i2, cl_s, cl_t, qI_f b6, qI_t c5, qI_f wn]
                    · exact q3
                    · exact q4
                    · rw [show pasteN (nI s9) i (nI t9) u n mn wd nu = nu from qN_f (fun q => by have q2 := q.2.2.2; rw [cl_s, cl_t] at q2; exact wn q2)]; exact q5
                  · have c9 : ¬ (((Int32.toInt64 (i)) + (Int32.toInt64 (n))).toInt > (Int32.toInt64 (mn (s9))).toInt) := c9
                    refine wn_ld (pc' := 91) (q := 4) (kin := 0) (v := .int (u)) rfl (fun _ _ _ => rfl) rfl rfl ?_
                    refine wn_pu (pc' := 92) (st' := [.long (Int32.toInt64 (u))]) rfl (fun _ _ _ => rfl) rfl rfl ?_
                    refine wn_ld (pc' := 94) (q := 5) (kin := 0) (v := .int (n)) rfl (fun _ _ _ => rfl) rfl rfl ?_
                    refine wn_pu (pc' := 95) (st' := [.long (Int32.toInt64 (n)), .long (Int32.toInt64 (u))]) rfl (fun _ _ _ => rfl) rfl rfl ?_
                    refine wn_pu (pc' := 96) (st' := [.long ((Int32.toInt64 (u)) + (Int32.toInt64 (n)))]) rfl (fun _ _ _ => rfl) rfl rfl ?_
                    refine wn_ld (pc' := 97) (q := 0) (kin := 2) (v := .ref (71)) rfl (fun _ _ _ => rfl) rfl rfl ?_
                    refine wn_get (pc' := 100) (v := .ref (81)) rfl rfl q0 rfl ?_
                    refine wn_ld (pc' := 101) (q := 3) (kin := 0) (v := .int (nI (t9))) rfl (fun _ _ _ => rfl) rfl rfl ?_
                    refine wn_ialdv (pc' := 102) (j := t9) (v := (mn (t9))) rfl rfl q3 rfl (by omega) (by decide) (rfl) ?_
                    refine wn_pu (pc' := 103) (st' := [.long (Int32.toInt64 (mn (t9))), .long ((Int32.toInt64 (u)) + (Int32.toInt64 (n)))]) rfl (fun _ _ _ => rfl) rfl rfl ?_
                    refine wn_pu (pc' := 104) (st' := [.int (lg_cmp ((Int32.toInt64 (u)) + (Int32.toInt64 (n))) (Int32.toInt64 (mn (t9))))]) rfl (fun _ _ _ => rfl) rfl rfl ?_
                    refine wn_lc (t := 110) (f := 107) rfl rfl rfl (fun c10 => ?_) (fun c10 => ?_)
                    · have c10 : ((Int32.toInt64 (u)) + (Int32.toInt64 (n))).toInt ≤ (Int32.toInt64 (mn (t9))).toInt := c10
                      simp only [Int32.lt_iff_toInt_lt, Int32.le_iff_toInt_le, i2l_int, Int32.toInt_zero, iin, add2l] at c6
                      simp only [Int32.lt_iff_toInt_lt, Int32.le_iff_toInt_le, i2l_int, Int32.toInt_zero, iin, add2l] at c7
                      simp only [Int32.lt_iff_toInt_lt, Int32.le_iff_toInt_le, i2l_int, Int32.toInt_zero, iin, add2l] at c8
                      simp only [Int32.lt_iff_toInt_lt, Int32.le_iff_toInt_le, i2l_int, Int32.toInt_zero, iin, add2l] at c9
                      simp only [Int32.lt_iff_toInt_lt, Int32.le_iff_toInt_le, i2l_int, Int32.toInt_zero, iin, add2l] at c10
                      have i9i : iin i 61 := ⟨by omega, by omega⟩
                      obtain ⟨i9, hi9, rfl⟩ := iin_of i9i
                      have ti_i := nI_toInt (n := i9) (show i9 < 2 ^ 31 by omega)
                      have cl_i := nI_clamp (n := i9) (show i9 < 2 ^ 31 by omega)
                      have u9i : iin u 61 := ⟨by omega, by omega⟩
                      obtain ⟨u9, hu9, rfl⟩ := iin_of u9i
                      have ti_u := nI_toInt (n := u9) (show u9 < 2 ^ 31 by omega)
                      have cl_u := nI_clamp (n := u9) (show u9 < 2 ^ 31 by omega)
                      have n9i : iin n 61 := ⟨by omega, by omega⟩
                      obtain ⟨n9, hn9, rfl⟩ := iin_of n9i
                      have ti_n := nI_toInt (n := n9) (show n9 < 2 ^ 31 by omega)
                      have cl_n := nI_clamp (n := n9) (show n9 < 2 ^ 31 by omega)
                      have hr_s9 : i9 + n9 ≤ m_s9 := by omega
                      have hr_t9 : u9 + n9 ≤ m_t9 := by omega
                      refine wn_ic (pc' := 111) (w := nI 0) rfl rfl (by decide) ?_
                      refine wn_st (pc' := 113) (q := 6) (kin := 0) (lv' := [(0, .ref (71)), (1, .int (nI (s9))), (2, .int (nI (i9))), (3, .int (nI (t9))), (4, .int (nI (u9))), (5, .int (nI (n9))), (6, .int (nI (0)))]) rfl (fun _ _ _ => rfl) rfl (Nat.le_of_ble_eq_true rfl) rfl ?_
                      have lp12 : ∀ (n_lp12 : Nat) (g11 : aH) (mv1 : Nat → Int64) (y : Nat), n9 + 1 ≤ y + n_lp12 → Fr [83, 84] h g11 → isJ g11 83 240 nu → isJ g11 84 60 mv1 → y ≤ n9 → (∀ q, q < y → mv1 q = nu (60 * s9 + i9 + q)) → Wn (Rn (d + 2)) 242 113 [(0, .ref (71)), (1, .int (nI (s9))), (2, .int (nI (i9))), (3, .int (nI (t9))), (4, .int (nI (u9))), (5, .int (nI (n9))), (6, .int (nI (y)))] [] (g11) (fun r9 h9 => r9 = some (.int (pasteA (nI s9) (nI i9) (nI t9) (nI u9) (nI n9) mn wd)) ∧ h9.length = h.length ∧ (∀ k, k ≠ 71 → k ≠ 75 → k ≠ 76 → k < 81 ∨ 85 ≤ k → h9[k]? = h[k]?) ∧ (∀ th sz at9 fr tk vl fk fp il up lo, isO h 71 9 (MoF th (nI tl) sz at9 fr tk vl fk fp il up lo) → isO h9 71 9 (MoF th (nI (tl)) sz at9 fr tk vl fk fp il up lo)) ∧ isB h9 75 1200 (tp) ∧ (∃ fv', isI h9 76 5 fv') ∧ isI h9 81 4 (mn) ∧ isI h9 82 4 (wd) ∧ isJ h9 83 240 (pasteN (nI s9) (nI i9) (nI t9) (nI u9) (nI n9) mn wd nu) ∧ ∃ mv', isJ h9 84 60 mv') := by
                        intro n_lp12
                        induction n_lp12 with
                        | zero => intro g11 mv1 y hm_lp12 hf_g11 c_83_g11 c_84_g11 hy hM; exfalso; omega
                        | succ n_lp12 ih_lp12 =>
                          intro g11 mv1 y hm_lp12 hf_g11 c_83_g11 c_84_g11 hy hM
                          refine wn_ld (pc' := 115) (q := 6) (kin := 0) (v := .int (nI (y))) rfl (fun _ _ _ => rfl) rfl rfl ?_
                          refine wn_ld (pc' := 117) (q := 5) (kin := 0) (v := .int (nI (n9))) rfl (fun _ _ _ => rfl) rfl rfl ?_
                          refine wn_icmpN (t := 147) (f := 120) rfl rfl rfl (by omega) (by omega) (fun c13 => ?_) (fun c13 => ?_)
                          · have c13 : n9 ≤ y := c13
                            obtain rfl : n9 = y := by omega
                            refine wn_ic (pc' := 148) (w := nI 0) rfl rfl (by decide) ?_
                            refine wn_st (pc' := 150) (q := 6) (kin := 0) (lv' := [(0, .ref (71)), (1, .int (nI (s9))), (2, .int (nI (i9))), (3, .int (nI (t9))), (4, .int (nI (u9))), (5, .int (nI (n9))), (6, .int (nI (0)))]) rfl (fun _ _ _ => rfl) rfl (Nat.le_of_ble_eq_true rfl) rfl ?_
                            have lp15 : ∀ (n_lp15 : Nat) (g14 : aH) (nu1 : Nat → Int64) (y : Nat), n9 + 1 ≤ y + n_lp15 → Fr [83, 84] h g14 → isJ g14 83 240 nu1 → isJ g14 84 60 mv1 → y ≤ n9 → nu1 = pcp nu (60 * s9 + i9) (60 * t9 + u9) y → Wn (Rn (d + 2)) 242 150 [(0, .ref (71)), (1, .int (nI (s9))), (2, .int (nI (i9))), (3, .int (nI (t9))), (4, .int (nI (u9))), (5, .int (nI (n9))), (6, .int (nI (y)))] [] (g14) (fun r9 h9 => r9 = some (.int (pasteA (nI s9) (nI i9) (nI t9) (nI u9) (nI n9) mn wd)) ∧ h9.length = h.length ∧ (∀ k, k ≠ 71 → k ≠ 75 → k ≠ 76 → k < 81 ∨ 85 ≤ k → h9[k]? = h[k]?) ∧ (∀ th sz at9 fr tk vl fk fp il up lo, isO h 71 9 (MoF th (nI tl) sz at9 fr tk vl fk fp il up lo) → isO h9 71 9 (MoF th (nI (tl)) sz at9 fr tk vl fk fp il up lo)) ∧ isB h9 75 1200 (tp) ∧ (∃ fv', isI h9 76 5 fv') ∧ isI h9 81 4 (mn) ∧ isI h9 82 4 (wd) ∧ isJ h9 83 240 (pasteN (nI s9) (nI i9) (nI t9) (nI u9) (nI n9) mn wd nu) ∧ ∃ mv', isJ h9 84 60 mv') := by
                              intro n_lp15
                              induction n_lp15 with
                              | zero => intro g14 nu1 y hm_lp15 hf_g14 c_83_g14 c_84_g14 hy hZ; exfalso; omega
                              | succ n_lp15 ih_lp15 =>
                                intro g14 nu1 y hm_lp15 hf_g14 c_83_g14 c_84_g14 hy hZ
                                refine wn_ld (pc' := 152) (q := 6) (kin := 0) (v := .int (nI (y))) rfl (fun _ _ _ => rfl) rfl rfl ?_
                                refine wn_ld (pc' := 154) (q := 5) (kin := 0) (v := .int (nI (n9))) rfl (fun _ _ _ => rfl) rfl rfl ?_
                                refine wn_icmpN (t := 185) (f := 157) rfl rfl rfl (by omega) (by omega) (fun c16 => ?_) (fun c16 => ?_)
                                · have c16 : n9 ≤ y := c16
                                  obtain rfl : n9 = y := by omega
                                  refine wn_ic (pc' := 186) (w := nI 0) rfl rfl (by decide) ?_
                                  have i2 : iin (nI s9) 4 ∧ iin (nI t9) 4 := ⟨iin_nI (by omega) (by omega), iin_nI (by omega) (by omega)⟩
                                  have b6 : ¬ (mn s9 = -1 ∨ mn t9 = -1) := fun q => q.elim c3 c4
                                  have wy : psR mn s9 t9 (nI i9) (nI u9) (nI n9) := ⟨by omega, by omega, by omega, by omega, by omega⟩
                                  have hG : pasteG (nI s9) (nI i9) (nI t9) (nI u9) (nI n9) mn wd := ⟨i2, by rw [cl_s, cl_t]; exact ⟨b6, c5, wy⟩⟩
                                  refine wn_iret rfl rfl rfl ⟨congrArg (fun z => some (Value.int z)) ?_, hf_g14.1, fun k p1 p2 p3 p4 => hf_g14.2 k (by simp only [List.mem_cons, List.not_mem_nil, or_false]; omega), fun _ _ _ _ _ _ _ _ _ _ _ q => (hf_g14.2 71 (by decide)).trans q, (hf_g14.2 75 (by decide)).trans q1, ⟨_, (hf_g14.2 76 (by decide)).trans q2⟩, (hf_g14.2 81 (by decide)).trans q3, (hf_g14.2 82 (by decide)).trans q4, ?_, _, c_84_g14⟩
                                  · unfold pasteA; rw [qI_t i2, cl_s, cl_t, qI_f b6, qI_t c5, qI_t wy]
                                  · unfold pasteN; rw [qN_t hG, cl_s, cl_t, cl_i, cl_u, cl_n, ← hZ]; exact c_83_g14
                                · have c16 : y < n9 := c16
                                  refine wn_ld (pc' := 158) (q := 0) (kin := 2) (v := .ref (71)) rfl (fun _ _ _ => rfl) rfl rfl ?_
                                  refine wn_get (pc' := 161) (v := .ref (83)) rfl rfl ((hf_g14.2 71 (by decide)).trans q0) rfl ?_
                                  refine wn_bp (pc' := 163) (w := nI 60) rfl rfl (by decide) ?_
                                  refine wn_ld (pc' := 164) (q := 3) (kin := 0) (v := .int (nI (t9))) rfl (fun _ _ _ => rfl) rfl rfl ?_
                                  refine wn_mulN (pc' := 165) rfl rfl ?_
                                  refine wn_ld (pc' := 167) (q := 4) (kin := 0) (v := .int (nI (u9))) rfl (fun _ _ _ => rfl) rfl rfl ?_
                                  refine wn_addN (pc' := 168) rfl rfl ?_
                                  refine wn_ld (pc' := 170) (q := 6) (kin := 0) (v := .int (nI (y))) rfl (fun _ _ _ => rfl) rfl rfl ?_
                                  refine wn_addN (pc' := 171) rfl rfl ?_
                                  refine wn_ld (pc' := 172) (q := 0) (kin := 2) (v := .ref (71)) rfl (fun _ _ _ => rfl) rfl rfl ?_
                                  refine wn_get (pc' := 175) (v := .ref (84)) rfl rfl ((hf_g14.2 71 (by decide)).trans q0) rfl ?_
                                  refine wn_ld (pc' := 177) (q := 6) (kin := 0) (v := .int (nI (y))) rfl (fun _ _ _ => rfl) rfl rfl ?_
                                  refine wn_laldv (pc' := 178) (j := y) (v := (nu (60 * s9 + i9 + y))) rfl rfl c_84_g14 rfl (by omega) (by decide) (hM y (by omega)) ?_
                                  refine wn_last (pc' := 179) (j := ((60 * t9) + u9) + y) rfl rfl c_83_g14 rfl (by omega) (by decide) ?_
                                  refine wn_incN (n := 1) (pc' := 182) (lv' := [(0, .ref (71)), (1, .int (nI (s9))), (2, .int (nI (i9))), (3, .int (nI (t9))), (4, .int (nI (u9))), (5, .int (nI (n9))), (6, .int (nI (y + 1)))]) rfl rfl rfl (Nat.le_of_ble_eq_true rfl) rfl (by decide) ?_
                                  refine wn_jp (pc' := 150) rfl rfl ?_
                                  refine wn_weak (lv' := [(0, .ref (71)), (1, .int (nI (s9))), (2, .int (nI (i9))), (3, .int (nI (t9))), (4, .int (nI (u9))), (5, .int (nI (n9))), (6, .int (nI (y + 1)))]) (by simp) ?_
                                  have z9 := ih_lp15 (g14.set 83 (.inl (3, 240, .inr (.inl (vp_updL nu1 (((60 * t9) + u9) + y) ((nu (60 * s9 + i9 + y)))))))) (vp_updL nu1 (((60 * t9) + u9) + y) ((nu (60 * s9 + i9 + y)))) (y + 1) (by omega) (Fr.st hf_g14 (by decide)) (gs_self c_83_g14) (gs_ne (by decide) c_84_g14) (by omega) (by rw [hZ]; exact pcp_s)
                                  exact z9
                            refine wn_weak (lv' := [(0, .ref (71)), (1, .int (nI (s9))), (2, .int (nI (i9))), (3, .int (nI (t9))), (4, .int (nI (u9))), (5, .int (nI (n9))), (6, .int (nI (0)))]) (by simp) ?_
                            have z9 := lp15 (n9 + 1) g11 nu 0 (by omega) hf_g11 c_83_g11 c_84_g11 (by omega) pcp_0
                            exact z9
                          · have c13 : y < n9 := c13
                            refine wn_ld (pc' := 121) (q := 0) (kin := 2) (v := .ref (71)) rfl (fun _ _ _ => rfl) rfl rfl ?_
                            refine wn_get (pc' := 124) (v := .ref (84)) rfl rfl ((hf_g11.2 71 (by decide)).trans q0) rfl ?_
                            refine wn_ld (pc' := 126) (q := 6) (kin := 0) (v := .int (nI (y))) rfl (fun _ _ _ => rfl) rfl rfl ?_
                            refine wn_ld (pc' := 127) (q := 0) (kin := 2) (v := .ref (71)) rfl (fun _ _ _ => rfl) rfl rfl ?_
                            refine wn_get (pc' := 130) (v := .ref (83)) rfl rfl ((hf_g11.2 71 (by decide)).trans q0) rfl ?_
                            refine wn_bp (pc' := 132) (w := nI 60) rfl rfl (by decide) ?_
                            refine wn_ld (pc' := 133) (q := 1) (kin := 0) (v := .int (nI (s9))) rfl (fun _ _ _ => rfl) rfl rfl ?_
                            refine wn_mulN (pc' := 134) rfl rfl ?_
                            refine wn_ld (pc' := 135) (q := 2) (kin := 0) (v := .int (nI (i9))) rfl (fun _ _ _ => rfl) rfl rfl ?_
                            refine wn_addN (pc' := 136) rfl rfl ?_
                            refine wn_ld (pc' := 138) (q := 6) (kin := 0) (v := .int (nI (y))) rfl (fun _ _ _ => rfl) rfl rfl ?_
                            refine wn_addN (pc' := 139) rfl rfl ?_
                            refine wn_laldv (pc' := 140) (j := ((60 * s9) + i9) + y) (v := (nu (((60 * s9) + i9) + y))) rfl rfl c_83_g11 rfl (by omega) (by decide) (rfl) ?_
                            refine wn_last (pc' := 141) (j := y) rfl rfl c_84_g11 rfl (by omega) (by decide) ?_
                            refine wn_incN (n := 1) (pc' := 144) (lv' := [(0, .ref (71)), (1, .int (nI (s9))), (2, .int (nI (i9))), (3, .int (nI (t9))), (4, .int (nI (u9))), (5, .int (nI (n9))), (6, .int (nI (y + 1)))]) rfl rfl rfl (Nat.le_of_ble_eq_true rfl) rfl (by decide) ?_
                            refine wn_jp (pc' := 113) rfl rfl ?_
                            refine wn_weak (lv' := [(0, .ref (71)), (1, .int (nI (s9))), (2, .int (nI (i9))), (3, .int (nI (t9))), (4, .int (nI (u9))), (5, .int (nI (n9))), (6, .int (nI (y + 1)))]) (by simp) ?_
                            have z9 := ih_lp12 (g11.set 84 (.inl (3, 60, .inr (.inl (vp_updL mv1 (y) ((nu (((60 * s9) + i9) + y)))))))) (vp_updL mv1 (y) ((nu (((60 * s9) + i9) + y)))) (y + 1) (by omega) (Fr.st hf_g11 (by decide)) (gs_ne (by decide) c_83_g11) (gs_self c_84_g11) (by omega) (fun q hq => by by_cases e : q = y; (subst e; exact pk_uLs); (rw [pk_uLn e]; exact hM q (by omega)))
                            exact z9
                      refine wn_weak (lv' := [(0, .ref (71)), (1, .int (nI (s9))), (2, .int (nI (i9))), (3, .int (nI (t9))), (4, .int (nI (u9))), (5, .int (nI (n9))), (6, .int (nI (0)))]) (by simp) ?_
                      have z9 := lp12 (n9 + 1) h mv 0 (by omega) (Fr.rfl' [83, 84] h) q5 q6 (by omega) (fun _ q => absurd q (by omega))
                      exact z9
                    · have c10 : ¬ (((Int32.toInt64 (u)) + (Int32.toInt64 (n))).toInt ≤ (Int32.toInt64 (mn (t9))).toInt) := c10
                      refine wn_bp (pc' := 109) (w := -7) rfl rfl (by decide) ?_
                      have i2 : iin (nI s9) 4 ∧ iin (nI t9) 4 := ⟨iin_nI (by omega) (by omega), iin_nI (by omega) (by omega)⟩
                      have b6 : ¬ (mn s9 = -1 ∨ mn t9 = -1) := fun q => q.elim c3 c4
                      have wn : ¬ psR mn s9 t9 i u n := fun q => by obtain ⟨q1, q2, q3, q4, q5⟩ := q; have e9 := c10; simp only [Int32.lt_iff_toInt_lt, Int32.le_iff_toInt_le, i2l_int, Int32.toInt_zero, iin, add2l] at e9; omega
                      refine wn_iret rfl rfl rfl ⟨congrArg (fun z => some (Value.int z)) ?_, rfl, fun _ _ _ _ _ => rfl, fun _ _ _ _ _ _ _ _ _ _ _ q => q, q1, ⟨_, q2⟩, ?_, ?_, ?_, _, q6⟩
                      · unfold pasteA; rw [qI_t i2, cl_s, cl_t, qI_f b6, qI_t c5, qI_f wn]
                      · exact q3
                      · exact q4
                      · rw [show pasteN (nI s9) i (nI t9) u n mn wd nu = nu from qN_f (fun q => by have q2 := q.2.2.2; rw [cl_s, cl_t] at q2; exact wn q2)]; exact q5
          · have c5 : ¬ ((wd (s9))) = ((wd (t9))) := c5
            refine wn_bp (pc' := 57) (w := -8) rfl rfl (by decide) ?_
            have i2 : iin (nI s9) 4 ∧ iin (nI t9) 4 := ⟨iin_nI (by omega) (by omega), iin_nI (by omega) (by omega)⟩
            have b6 : ¬ (mn s9 = -1 ∨ mn t9 = -1) := fun q => q.elim c3 c4
            refine wn_iret rfl rfl rfl ⟨congrArg (fun z => some (Value.int z)) ?_, rfl, fun _ _ _ _ _ => rfl, fun _ _ _ _ _ _ _ _ _ _ _ q => q, q1, ⟨_, q2⟩, ?_, ?_, ?_, _, q6⟩
            · unfold pasteA; rw [qI_t i2, cl_s, cl_t, qI_f b6, qI_f c5]
            · exact q3
            · exact q4
            · rw [show pasteN (nI s9) i (nI t9) u n mn wd nu = nu from qN_f (fun q => by have q2 := q.2.2.1; rw [cl_s, cl_t] at q2; exact c5 q2)]; exact q5
        · have c4 : ((mn (t9))) = ((-1)) := c4
          refine wn_bp (pc' := 39) (w := -6) rfl rfl (by decide) ?_
          have i2 : iin (nI s9) 4 ∧ iin (nI t9) 4 := ⟨iin_nI (by omega) (by omega), iin_nI (by omega) (by omega)⟩
          have b6 : mn s9 = -1 ∨ mn t9 = -1 := Or.inr c4
          refine wn_iret rfl rfl rfl ⟨congrArg (fun z => some (Value.int z)) ?_, rfl, fun _ _ _ _ _ => rfl, fun _ _ _ _ _ _ _ _ _ _ _ q => q, q1, ⟨_, q2⟩, ?_, ?_, ?_, _, q6⟩
          · unfold pasteA; rw [qI_t i2, cl_s, cl_t, qI_t b6]
          · exact q3
          · exact q4
          · rw [show pasteN (nI s9) i (nI t9) u n mn wd nu = nu from qN_f (fun q => by have q2 := q.2.1; rw [cl_s, cl_t] at q2; exact q2 b6)]; exact q5
    · have c2 : ¬ (iin t 4) := c2
      refine wn_bp (pc' := 16) (w := -2) rfl rfl (by decide) ?_
      refine wn_iret rfl rfl rfl ⟨congrArg (fun z => some (Value.int z)) ?_, rfl, fun _ _ _ _ _ => rfl, fun _ _ _ _ _ _ _ _ _ _ _ q => q, q1, ⟨_, q2⟩, ?_, ?_, ?_, _, q6⟩
      · exact (qI_f (fun q => c2 q.2)).symm
      · exact q3
      · exact q4
      · rw [show pasteN (nI s9) i t u n mn wd nu = nu from qN_f (fun q => (fun q => c2 q.2) q.1)]; exact q5

