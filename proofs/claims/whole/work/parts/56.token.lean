/-! TOKENS -/
def blk (b : Int32) : Prop := b = nI 32 ∨ b = nI 10
def chK (b : Int32) : Nat := if 97 ≤ b.toInt ∧ b.toInt ≤ 122 then 1 else if 48 ≤ b.toInt ∧ b.toInt ≤ 57 then 2 else if b.toInt = 59 then 3 else 4
theorem chK_le (b : Int32) : chK b ≤ 4 := by unfold chK; split <;> (try split) <;> (try split) <;> omega
theorem chK_ge (b : Int32) : 1 ≤ chK b := by unfold chK; split <;> (try split) <;> (try split) <;> omega
noncomputable def rnF (P : Nat → Prop) (n : Nat) : Nat → Nat → Nat
  | 0, p => p
  | f + 1, p => @ite Nat (p < n ∧ P p) (Classical.propDecidable _) (rnF P n f (p + 1)) p
noncomputable def rnE (P : Nat → Prop) (n p : Nat) : Nat := rnF P n (n - p) p
theorem rn_t {P : Nat → Prop} {n p : Nat} (h : p < n) (q : P p) : rnE P n p = rnE P n (p + 1) := by
  unfold rnE
  rw [show n - p = n - (p + 1) + 1 by omega]
  exact if_pos ⟨h, q⟩
theorem rn_f {P : Nat → Prop} {n p : Nat} (h : ¬ (p < n ∧ P p)) : rnE P n p = p := by
  unfold rnE
  cases n - p with
  | zero => rfl
  | succ f => exact if_neg h
theorem rn_b {P : Nat → Prop} {n : Nat} : ∀ k p, n - p = k → p ≤ rnE P n p ∧ (p ≤ n → rnE P n p ≤ n) := by
  intro k
  induction k with
  | zero => intro p h; rw [rn_f (by omega)]; exact ⟨Nat.le_refl _, fun q => q⟩
  | succ k ih =>
    intro p h
    by_cases c : P p
    · rw [rn_t (by omega) c]
      have := ih (p + 1) (by omega)
      exact ⟨by omega, fun _ => this.2 (by omega)⟩
    · rw [rn_f (fun q => c q.2)]; exact ⟨Nat.le_refl _, fun q => q⟩
theorem rn_ge (P : Nat → Prop) (n p : Nat) : p ≤ rnE P n p := (rn_b _ p rfl).1
theorem rn_le {P : Nat → Prop} {n p : Nat} (h : p ≤ n) : rnE P n p ≤ n := (rn_b _ p rfl).2 h
noncomputable def tkF (t : Nat → Int32) (n p : Nat) : Nat := rnE (fun q => blk (t q)) n p
noncomputable def tkK (t : Nat → Int32) (n p : Nat) : Nat := if tkF t n p < n then chK (t (tkF t n p)) else 0
noncomputable def tkA (t : Nat → Int32) (n p : Nat) : Nat := if tkF t n p < n then (if chK (t (tkF t n p)) = 1 then rnE (fun q => chK (t q) = 1) n (tkF t n p) else if chK (t (tkF t n p)) = 2 then rnE (fun q => chK (t q) = 2) n (tkF t n p) else tkF t n p + 1) else tkF t n p
def dgt (b : Int32) : Nat := b.toInt.toNat - 48
def nvD (t : Nat → Int32) (f : Nat) : Nat → Nat
  | 0 => 0
  | k + 1 => 10 * nvD t f k + dgt (t (f + k))
noncomputable def tkV (t : Nat → Int32) (n p : Nat) : Nat := nvD t (tkF t n p) (tkA t n p - tkF t n p)
section TK
variable {t : Nat → Int32} {n p : Nat}
theorem tkF_ge : p ≤ tkF t n p := rn_ge _ _ _
theorem tkF_le (h : p ≤ n) : tkF t n p ≤ n := rn_le h
theorem tkA_ge : tkF t n p ≤ tkA t n p := by
  unfold tkA
  split
  · split
    · exact rn_ge _ _ _
    · split
      · exact rn_ge _ _ _
      · omega
  · exact Nat.le_refl _
theorem tkA_le (h : p ≤ n) : tkA t n p ≤ n := by
  have := tkF_le (t := t) h
  unfold tkA
  split
  · split
    · exact rn_le this
    · split
      · exact rn_le this
      · omega
  · exact this
theorem tkK_0 : tkK t n p = 0 ↔ ¬ tkF t n p < n := by
  unfold tkK
  have := chK_ge (t (tkF t n p))
  split
  · exact ⟨fun q => by omega, fun q => by omega⟩
  · exact ⟨fun _ => by omega, fun _ => rfl⟩
theorem tkK_le : tkK t n p ≤ 4 := by
  unfold tkK
  have := chK_le (t (tkF t n p))
  split <;> omega
/-- a token that is one takes a byte at least -/
theorem tkA_gt (h : tkK t n p ≠ 0) : tkF t n p < tkA t n p := by
  have c : tkF t n p < n := Classical.byContradiction (fun q => h (tkK_0.mpr q))
  unfold tkA
  rw [if_pos c]
  by_cases c1 : chK (t (tkF t n p)) = 1
  · rw [if_pos c1, rn_t c c1]
    have := rn_ge (fun q => chK (t q) = 1) n (tkF t n p + 1)
    omega
  · rw [if_neg c1]
    by_cases c2 : chK (t (tkF t n p)) = 2
    · rw [if_pos c2, rn_t c c2]
      have := rn_ge (fun q => chK (t q) = 2) n (tkF t n p + 1)
      omega
    · rw [if_neg c2]; omega
end TK
noncomputable def nbC (t : Nat → Int32) (n p : Nat) : Nat := if tkK t n p = 2 then min (tkV t n p) 1000000 else 0
theorem by_rng {b : Int32} (h : b.toInt8.toInt32 = b) : -128 ≤ b.toInt ∧ b.toInt < 128 := by
  have e := Int8.toInt_toInt32 b.toInt8
  rw [h] at e
  have h1 := b.toInt8.toInt_lt
  have h2 := b.toInt8.le_toInt
  omega
theorem dgt_of {b : Int32} (h : chK b = 2) : 48 ≤ b.toInt ∧ b.toInt ≤ 57 ∧ b.toInt = (dgt b : Int) + 48 ∧ dgt b ≤ 9 := by
  unfold chK at h
  by_cases c : 97 ≤ b.toInt ∧ b.toInt ≤ 122
  · rw [if_pos c] at h; omega
  · rw [if_neg c] at h
    by_cases d : 48 ≤ b.toInt ∧ b.toInt ≤ 57
    · unfold dgt; omega
    · rw [if_neg d] at h
      split at h <;> omega
theorem min_st {x d M : Nat} (hM : 1 ≤ M) : min (min x M * 10 + d) M = min (10 * x + d) M := by omega
theorem x_kindOf (d : Nat) (h : aH) (b : Int32) : Rn (d + 1) 41 [.int (b)] h (some (.int (nI (chK b)))) h 0 0 := by
  refine Rn_of (by decide) (Nat.le_of_ble_eq_true rfl) ?_
  show Wn _ _ 0 [(0, .int (b))] [] _ _
  refine wn_ld (pc' := 1) (q := 0) (kin := 0) (v := .int (b)) rfl (fun _ _ _ => rfl) rfl rfl ?_
  refine wn_bp (pc' := 3) (w := nI 97) rfl rfl (by decide) ?_
  refine wn_icmp (t := 14) (f := 6) rfl rfl rfl (fun c1 => ?_) (fun c1 => ?_)
  · have c1 : ((b)) < ((nI (97))) := c1
    refine wn_ld (pc' := 15) (q := 0) (kin := 0) (v := .int (b)) rfl (fun _ _ _ => rfl) rfl rfl ?_
    refine wn_bp (pc' := 17) (w := nI 48) rfl rfl (by decide) ?_
    refine wn_icmp (t := 28) (f := 20) rfl rfl rfl (fun c2 => ?_) (fun c2 => ?_)
    · have c2 : ((b)) < ((nI (48))) := c2
      refine wn_ld (pc' := 29) (q := 0) (kin := 0) (v := .int (b)) rfl (fun _ _ _ => rfl) rfl rfl ?_
      refine wn_bp (pc' := 31) (w := nI 59) rfl rfl (by decide) ?_
      refine wn_icmp (t := 38) (f := 34) rfl rfl rfl (fun c3 => ?_) (fun c3 => ?_)
      · have c3 : ¬ ((b)) = ((nI (59))) := c3
        refine wn_ic (pc' := 39) (w := nI 4) rfl rfl (by decide) ?_
        have e97 : (nI 97).toInt = 97 := by decide
        have e122 : (nI 122).toInt = 122 := by decide
        have e48 : (nI 48).toInt = 48 := by decide
        have e57 : (nI 57).toInt = 57 := by decide
        have e59 : (nI 59).toInt = 59 := by decide
        try simp only [Int32.lt_iff_toInt_lt, Int32.le_iff_toInt_le, i2l_int, Int32.toInt_zero, iin] at c1
        try simp only [Int32.lt_iff_toInt_lt, Int32.le_iff_toInt_le, i2l_int, Int32.toInt_zero, iin] at c2
        try have c3i := congrArg Int32.toInt c3
        try have c3i : ¬ _ := fun q => c3 (Int32.toInt_inj.mp q)
        try simp only [Int32.lt_iff_toInt_lt, Int32.le_iff_toInt_le, i2l_int, Int32.toInt_zero, iin] at c3
        refine wn_iret rfl rfl rfl ⟨congrArg (fun z => some (Value.int z)) (congrArg nI ?_), rfl⟩
        unfold chK
        rw [if_neg (by omega), if_neg (by omega), if_neg (by omega)]
      · have c3 : ((b)) = ((nI (59))) := c3
        refine wn_ic (pc' := 35) (w := nI 3) rfl rfl (by decide) ?_
        refine wn_jp (pc' := 39) rfl rfl ?_
        have e97 : (nI 97).toInt = 97 := by decide
        have e122 : (nI 122).toInt = 122 := by decide
        have e48 : (nI 48).toInt = 48 := by decide
        have e57 : (nI 57).toInt = 57 := by decide
        have e59 : (nI 59).toInt = 59 := by decide
        try simp only [Int32.lt_iff_toInt_lt, Int32.le_iff_toInt_le, i2l_int, Int32.toInt_zero, iin] at c1
        try simp only [Int32.lt_iff_toInt_lt, Int32.le_iff_toInt_le, i2l_int, Int32.toInt_zero, iin] at c2
        try have c3i := congrArg Int32.toInt c3
        try have c3i : ¬ _ := fun q => c3 (Int32.toInt_inj.mp q)
        try simp only [Int32.lt_iff_toInt_lt, Int32.le_iff_toInt_le, i2l_int, Int32.toInt_zero, iin] at c3
        refine wn_iret rfl rfl rfl ⟨congrArg (fun z => some (Value.int z)) (congrArg nI ?_), rfl⟩
        unfold chK
        rw [if_neg (by omega), if_neg (by omega), if_pos (by omega)]
    · have c2 : ((nI (48))) ≤ ((b)) := c2
      refine wn_ld (pc' := 21) (q := 0) (kin := 0) (v := .int (b)) rfl (fun _ _ _ => rfl) rfl rfl ?_
      refine wn_bp (pc' := 23) (w := nI 57) rfl rfl (by decide) ?_
      refine wn_icmp (t := 28) (f := 26) rfl rfl rfl (fun c4 => ?_) (fun c4 => ?_)
      · have c4 : ((nI (57))) < ((b)) := c4
        refine wn_ld (pc' := 29) (q := 0) (kin := 0) (v := .int (b)) rfl (fun _ _ _ => rfl) rfl rfl ?_
        refine wn_bp (pc' := 31) (w := nI 59) rfl rfl (by decide) ?_
        refine wn_icmp (t := 38) (f := 34) rfl rfl rfl (fun c5 => ?_) (fun c5 => ?_)
        · have c5 : ¬ ((b)) = ((nI (59))) := c5
          refine wn_ic (pc' := 39) (w := nI 4) rfl rfl (by decide) ?_
          have e97 : (nI 97).toInt = 97 := by decide
          have e122 : (nI 122).toInt = 122 := by decide
          have e48 : (nI 48).toInt = 48 := by decide
          have e57 : (nI 57).toInt = 57 := by decide
          have e59 : (nI 59).toInt = 59 := by decide
          try simp only [Int32.lt_iff_toInt_lt, Int32.le_iff_toInt_le, i2l_int, Int32.toInt_zero, iin] at c1
          try simp only [Int32.lt_iff_toInt_lt, Int32.le_iff_toInt_le, i2l_int, Int32.toInt_zero, iin] at c2
          try simp only [Int32.lt_iff_toInt_lt, Int32.le_iff_toInt_le, i2l_int, Int32.toInt_zero, iin] at c4
          try have c5i := congrArg Int32.toInt c5
          try have c5i : ¬ _ := fun q => c5 (Int32.toInt_inj.mp q)
          try simp only [Int32.lt_iff_toInt_lt, Int32.le_iff_toInt_le, i2l_int, Int32.toInt_zero, iin] at c5
          refine wn_iret rfl rfl rfl ⟨congrArg (fun z => some (Value.int z)) (congrArg nI ?_), rfl⟩
          unfold chK
          rw [if_neg (by omega), if_neg (by omega), if_neg (by omega)]
        · have c5 : ((b)) = ((nI (59))) := c5
          refine wn_ic (pc' := 35) (w := nI 3) rfl rfl (by decide) ?_
          refine wn_jp (pc' := 39) rfl rfl ?_
          have e97 : (nI 97).toInt = 97 := by decide
          have e122 : (nI 122).toInt = 122 := by decide
          have e48 : (nI 48).toInt = 48 := by decide
          have e57 : (nI 57).toInt = 57 := by decide
          have e59 : (nI 59).toInt = 59 := by decide
          try simp only [Int32.lt_iff_toInt_lt, Int32.le_iff_toInt_le, i2l_int, Int32.toInt_zero, iin] at c1
          try simp only [Int32.lt_iff_toInt_lt, Int32.le_iff_toInt_le, i2l_int, Int32.toInt_zero, iin] at c2
          try simp only [Int32.lt_iff_toInt_lt, Int32.le_iff_toInt_le, i2l_int, Int32.toInt_zero, iin] at c4
          try have c5i := congrArg Int32.toInt c5
          try have c5i : ¬ _ := fun q => c5 (Int32.toInt_inj.mp q)
          try simp only [Int32.lt_iff_toInt_lt, Int32.le_iff_toInt_le, i2l_int, Int32.toInt_zero, iin] at c5
          refine wn_iret rfl rfl rfl ⟨congrArg (fun z => some (Value.int z)) (congrArg nI ?_), rfl⟩
          unfold chK
          rw [if_neg (by omega), if_neg (by omega), if_pos (by omega)]
      · have c4 : ((b)) ≤ ((nI (57))) := c4
        refine wn_ic (pc' := 27) (w := nI 2) rfl rfl (by decide) ?_
        have e97 : (nI 97).toInt = 97 := by decide
        have e122 : (nI 122).toInt = 122 := by decide
        have e48 : (nI 48).toInt = 48 := by decide
        have e57 : (nI 57).toInt = 57 := by decide
        have e59 : (nI 59).toInt = 59 := by decide
        try simp only [Int32.lt_iff_toInt_lt, Int32.le_iff_toInt_le, i2l_int, Int32.toInt_zero, iin] at c1
        try simp only [Int32.lt_iff_toInt_lt, Int32.le_iff_toInt_le, i2l_int, Int32.toInt_zero, iin] at c2
        try simp only [Int32.lt_iff_toInt_lt, Int32.le_iff_toInt_le, i2l_int, Int32.toInt_zero, iin] at c4
        refine wn_iret rfl rfl rfl ⟨congrArg (fun z => some (Value.int z)) (congrArg nI ?_), rfl⟩
        unfold chK
        rw [if_neg (by omega), if_pos (by omega)]
  · have c1 : ((nI (97))) ≤ ((b)) := c1
    refine wn_ld (pc' := 7) (q := 0) (kin := 0) (v := .int (b)) rfl (fun _ _ _ => rfl) rfl rfl ?_
    refine wn_bp (pc' := 9) (w := nI 122) rfl rfl (by decide) ?_
    refine wn_icmp (t := 14) (f := 12) rfl rfl rfl (fun c6 => ?_) (fun c6 => ?_)
    · have c6 : ((nI (122))) < ((b)) := c6
      refine wn_ld (pc' := 15) (q := 0) (kin := 0) (v := .int (b)) rfl (fun _ _ _ => rfl) rfl rfl ?_
      refine wn_bp (pc' := 17) (w := nI 48) rfl rfl (by decide) ?_
      refine wn_icmp (t := 28) (f := 20) rfl rfl rfl (fun c7 => ?_) (fun c7 => ?_)
      · have c7 : ((b)) < ((nI (48))) := c7
        refine wn_ld (pc' := 29) (q := 0) (kin := 0) (v := .int (b)) rfl (fun _ _ _ => rfl) rfl rfl ?_
        refine wn_bp (pc' := 31) (w := nI 59) rfl rfl (by decide) ?_
        refine wn_icmp (t := 38) (f := 34) rfl rfl rfl (fun c8 => ?_) (fun c8 => ?_)
        · have c8 : ¬ ((b)) = ((nI (59))) := c8
          refine wn_ic (pc' := 39) (w := nI 4) rfl rfl (by decide) ?_
          have e97 : (nI 97).toInt = 97 := by decide
          have e122 : (nI 122).toInt = 122 := by decide
          have e48 : (nI 48).toInt = 48 := by decide
          have e57 : (nI 57).toInt = 57 := by decide
          have e59 : (nI 59).toInt = 59 := by decide
          try simp only [Int32.lt_iff_toInt_lt, Int32.le_iff_toInt_le, i2l_int, Int32.toInt_zero, iin] at c1
          try simp only [Int32.lt_iff_toInt_lt, Int32.le_iff_toInt_le, i2l_int, Int32.toInt_zero, iin] at c6
          try simp only [Int32.lt_iff_toInt_lt, Int32.le_iff_toInt_le, i2l_int, Int32.toInt_zero, iin] at c7
          try have c8i := congrArg Int32.toInt c8
          try have c8i : ¬ _ := fun q => c8 (Int32.toInt_inj.mp q)
          try simp only [Int32.lt_iff_toInt_lt, Int32.le_iff_toInt_le, i2l_int, Int32.toInt_zero, iin] at c8
          refine wn_iret rfl rfl rfl ⟨congrArg (fun z => some (Value.int z)) (congrArg nI ?_), rfl⟩
          unfold chK
          rw [if_neg (by omega), if_neg (by omega), if_neg (by omega)]
        · have c8 : ((b)) = ((nI (59))) := c8
          refine wn_ic (pc' := 35) (w := nI 3) rfl rfl (by decide) ?_
          refine wn_jp (pc' := 39) rfl rfl ?_
          have e97 : (nI 97).toInt = 97 := by decide
          have e122 : (nI 122).toInt = 122 := by decide
          have e48 : (nI 48).toInt = 48 := by decide
          have e57 : (nI 57).toInt = 57 := by decide
          have e59 : (nI 59).toInt = 59 := by decide
          try simp only [Int32.lt_iff_toInt_lt, Int32.le_iff_toInt_le, i2l_int, Int32.toInt_zero, iin] at c1
          try simp only [Int32.lt_iff_toInt_lt, Int32.le_iff_toInt_le, i2l_int, Int32.toInt_zero, iin] at c6
          try simp only [Int32.lt_iff_toInt_lt, Int32.le_iff_toInt_le, i2l_int, Int32.toInt_zero, iin] at c7
          try have c8i := congrArg Int32.toInt c8
          try have c8i : ¬ _ := fun q => c8 (Int32.toInt_inj.mp q)
          try simp only [Int32.lt_iff_toInt_lt, Int32.le_iff_toInt_le, i2l_int, Int32.toInt_zero, iin] at c8
          refine wn_iret rfl rfl rfl ⟨congrArg (fun z => some (Value.int z)) (congrArg nI ?_), rfl⟩
          unfold chK
          rw [if_neg (by omega), if_neg (by omega), if_pos (by omega)]
      · have c7 : ((nI (48))) ≤ ((b)) := c7
        refine wn_ld (pc' := 21) (q := 0) (kin := 0) (v := .int (b)) rfl (fun _ _ _ => rfl) rfl rfl ?_
        refine wn_bp (pc' := 23) (w := nI 57) rfl rfl (by decide) ?_
        refine wn_icmp (t := 28) (f := 26) rfl rfl rfl (fun c9 => ?_) (fun c9 => ?_)
        · have c9 : ((nI (57))) < ((b)) := c9
          refine wn_ld (pc' := 29) (q := 0) (kin := 0) (v := .int (b)) rfl (fun _ _ _ => rfl) rfl rfl ?_
          refine wn_bp (pc' := 31) (w := nI 59) rfl rfl (by decide) ?_
          refine wn_icmp (t := 38) (f := 34) rfl rfl rfl (fun c10 => ?_) (fun c10 => ?_)
          · have c10 : ¬ ((b)) = ((nI (59))) := c10
            refine wn_ic (pc' := 39) (w := nI 4) rfl rfl (by decide) ?_
            have e97 : (nI 97).toInt = 97 := by decide
            have e122 : (nI 122).toInt = 122 := by decide
            have e48 : (nI 48).toInt = 48 := by decide
            have e57 : (nI 57).toInt = 57 := by decide
            have e59 : (nI 59).toInt = 59 := by decide
            try simp only [Int32.lt_iff_toInt_lt, Int32.le_iff_toInt_le, i2l_int, Int32.toInt_zero, iin] at c1
            try simp only [Int32.lt_iff_toInt_lt, Int32.le_iff_toInt_le, i2l_int, Int32.toInt_zero, iin] at c6
            try simp only [Int32.lt_iff_toInt_lt, Int32.le_iff_toInt_le, i2l_int, Int32.toInt_zero, iin] at c7
            try simp only [Int32.lt_iff_toInt_lt, Int32.le_iff_toInt_le, i2l_int, Int32.toInt_zero, iin] at c9
            try have c10i := congrArg Int32.toInt c10
            try have c10i : ¬ _ := fun q => c10 (Int32.toInt_inj.mp q)
            try simp only [Int32.lt_iff_toInt_lt, Int32.le_iff_toInt_le, i2l_int, Int32.toInt_zero, iin] at c10
            refine wn_iret rfl rfl rfl ⟨congrArg (fun z => some (Value.int z)) (congrArg nI ?_), rfl⟩
            unfold chK
            rw [if_neg (by omega), if_neg (by omega), if_neg (by omega)]
          · have c10 : ((b)) = ((nI (59))) := c10
            refine wn_ic (pc' := 35) (w := nI 3) rfl rfl (by decide) ?_
            refine wn_jp (pc' := 39) rfl rfl ?_
            have e97 : (nI 97).toInt = 97 := by decide
            have e122 : (nI 122).toInt = 122 := by decide
            have e48 : (nI 48).toInt = 48 := by decide
            have e57 : (nI 57).toInt = 57 := by decide
            have e59 : (nI 59).toInt = 59 := by decide
            try simp only [Int32.lt_iff_toInt_lt, Int32.le_iff_toInt_le, i2l_int, Int32.toInt_zero, iin] at c1
            try simp only [Int32.lt_iff_toInt_lt, Int32.le_iff_toInt_le, i2l_int, Int32.toInt_zero, iin] at c6
            try simp only [Int32.lt_iff_toInt_lt, Int32.le_iff_toInt_le, i2l_int, Int32.toInt_zero, iin] at c7
            try simp only [Int32.lt_iff_toInt_lt, Int32.le_iff_toInt_le, i2l_int, Int32.toInt_zero, iin] at c9
            try have c10i := congrArg Int32.toInt c10
            try have c10i : ¬ _ := fun q => c10 (Int32.toInt_inj.mp q)
            try simp only [Int32.lt_iff_toInt_lt, Int32.le_iff_toInt_le, i2l_int, Int32.toInt_zero, iin] at c10
            refine wn_iret rfl rfl rfl ⟨congrArg (fun z => some (Value.int z)) (congrArg nI ?_), rfl⟩
            unfold chK
            rw [if_neg (by omega), if_neg (by omega), if_pos (by omega)]
        · have c9 : ((b)) ≤ ((nI (57))) := c9
          refine wn_ic (pc' := 27) (w := nI 2) rfl rfl (by decide) ?_
          have e97 : (nI 97).toInt = 97 := by decide
          have e122 : (nI 122).toInt = 122 := by decide
          have e48 : (nI 48).toInt = 48 := by decide
          have e57 : (nI 57).toInt = 57 := by decide
          have e59 : (nI 59).toInt = 59 := by decide
          try simp only [Int32.lt_iff_toInt_lt, Int32.le_iff_toInt_le, i2l_int, Int32.toInt_zero, iin] at c1
          try simp only [Int32.lt_iff_toInt_lt, Int32.le_iff_toInt_le, i2l_int, Int32.toInt_zero, iin] at c6
          try simp only [Int32.lt_iff_toInt_lt, Int32.le_iff_toInt_le, i2l_int, Int32.toInt_zero, iin] at c7
          try simp only [Int32.lt_iff_toInt_lt, Int32.le_iff_toInt_le, i2l_int, Int32.toInt_zero, iin] at c9
          refine wn_iret rfl rfl rfl ⟨congrArg (fun z => some (Value.int z)) (congrArg nI ?_), rfl⟩
          unfold chK
          rw [if_neg (by omega), if_pos (by omega)]
    · have c6 : ((b)) ≤ ((nI (122))) := c6
      refine wn_ic (pc' := 13) (w := nI 1) rfl rfl (by decide) ?_
      have e97 : (nI 97).toInt = 97 := by decide
      have e122 : (nI 122).toInt = 122 := by decide
      have e48 : (nI 48).toInt = 48 := by decide
      have e57 : (nI 57).toInt = 57 := by decide
      have e59 : (nI 59).toInt = 59 := by decide
      try simp only [Int32.lt_iff_toInt_lt, Int32.le_iff_toInt_le, i2l_int, Int32.toInt_zero, iin] at c1
      try simp only [Int32.lt_iff_toInt_lt, Int32.le_iff_toInt_le, i2l_int, Int32.toInt_zero, iin] at c6
      refine wn_iret rfl rfl rfl ⟨congrArg (fun z => some (Value.int z)) (congrArg nI ?_), rfl⟩
      unfold chK
      rw [if_pos (by omega)]

