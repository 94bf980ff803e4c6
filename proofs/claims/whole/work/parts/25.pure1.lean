/-! ===== Int32 by its bits: bt x i ===== -/
def bt (x : Int32) (i : Nat) : Bool := x.toBitVec.getLsbD i
theorem b_ext {x y : Int32} (h : ∀ i, i < 32 → bt x i = bt y i) : x = y := Int32.toBitVec_inj.mp (BitVec.eq_of_getLsbD_eq (fun i hi => h i hi))
theorem b_or (x y : Int32) (i : Nat) : bt (x ||| y) i = (bt x i || bt y i) := by unfold bt; rw [Int32.toBitVec_or, BitVec.getLsbD_or]
theorem b_and (x y : Int32) (i : Nat) : bt (x &&& y) i = (bt x i && bt y i) := by unfold bt; rw [Int32.toBitVec_and, BitVec.getLsbD_and]
theorem b_xor (x y : Int32) (i : Nat) : bt (x ^^^ y) i = (bt x i ^^ bt y i) := by unfold bt; rw [Int32.toBitVec_xor, BitVec.getLsbD_xor]
theorem b_big {x : Int32} {i : Nat} (h : 32 ≤ i) : bt x i = false := BitVec.getLsbD_of_ge _ _ h
theorem b_255 (i : Nat) : bt 255 i = decide (i < 8) := by
  rcases Nat.lt_or_ge i 32 with h | h
  · exact (by decide +kernel : ∀ i, i < 32 → bt 255 i = decide (i < 8)) i h
  · rw [b_big h, decide_eq_false (by omega)]
theorem b_65535 (i : Nat) : bt 65535 i = decide (i < 16) := by
  rcases Nat.lt_or_ge i 32 with h | h
  · exact (by decide +kernel : ∀ i, i < 32 → bt 65535 i = decide (i < 16)) i h
  · rw [b_big h, decide_eq_false (by omega)]
theorem b_m1 : ∀ i, i < 32 → bt (-1) i = true := by decide +kernel
theorem b_0 (i : Nat) : bt 0 i = false := BitVec.getLsbD_zero
theorem s_l : ∀ n, n < 32 → ((nI n &&& 31).toBitVec.smod 32).toNat = n := by decide +kernel
theorem s_u : ∀ n, n < 32 → (((nI n).toUInt32 &&& Int32.toUInt32 31).toBitVec % 32).toNat = n := by decide +kernel
theorem b_shl (n : Nat) (hn : n < 32) (x : Int32) {i : Nat} (hi : i < 32) : bt (x <<< (nI n &&& 31)) i = (decide (n ≤ i) && bt x (i - n)) := by
  unfold bt
  rw [Int32.toBitVec_shiftLeft]
  show (x.toBitVec <<< ((nI n &&& 31).toBitVec.smod 32).toNat).getLsbD i = _
  rw [s_l n hn, BitVec.getLsbD_shiftLeft]
  rcases Nat.lt_or_ge i n with h | h
  · simp [h, Nat.not_le.mpr h]
  · simp [hi, h, Nat.not_lt.mpr h]
theorem b_ushr (n : Nat) (hn : n < 32) (x : Int32) (i : Nat) : bt ((x.toUInt32 >>> ((nI n).toUInt32 &&& Int32.toUInt32 31)).toInt32) i = bt x (n + i) := by
  show (x.toUInt32 >>> ((nI n).toUInt32 &&& Int32.toUInt32 31)).toBitVec.getLsbD i = x.toUInt32.toBitVec.getLsbD (n + i)
  rw [UInt32.toBitVec_shiftRight]
  show (x.toUInt32.toBitVec >>> (((nI n).toUInt32 &&& Int32.toUInt32 31).toBitVec % 32).toNat).getLsbD i = _
  rw [s_u n hn, BitVec.getLsbD_ushiftRight]
theorem b_sshr (n : Nat) (hn : n < 32) (x : Int32) {i : Nat} (hi : i < 32) : bt (x >>> (nI n &&& 31)) i = if n + i < 32 then bt x (n + i) else bt x 31 := by
  unfold bt
  rw [Int32.toBitVec_shiftRight]
  show (x.toBitVec.sshiftRight ((nI n &&& 31).toBitVec.smod 32).toNat).getLsbD i = _
  rw [s_l n hn, BitVec.getLsbD_sshiftRight, BitVec.msb_eq_getLsbD_last]
  simp [hi]
theorem b_shl8 (x : Int32) {i : Nat} (hi : i < 32) : bt (x <<< ((8 : Int32) &&& 31)) i = (decide (8 ≤ i) && bt x (i - 8)) := b_shl 8 (by omega) x hi
theorem b_shl16 (x : Int32) {i : Nat} (hi : i < 32) : bt (x <<< ((16 : Int32) &&& 31)) i = (decide (16 ≤ i) && bt x (i - 16)) := b_shl 16 (by omega) x hi
theorem b_shl24 (x : Int32) {i : Nat} (hi : i < 32) : bt (x <<< ((24 : Int32) &&& 31)) i = (decide (24 ≤ i) && bt x (i - 24)) := b_shl 24 (by omega) x hi
theorem b_sshr8 (x : Int32) {i : Nat} (hi : i < 32) : bt (x >>> ((8 : Int32) &&& 31)) i = if 8 + i < 32 then bt x (8 + i) else bt x 31 := b_sshr 8 (by omega) x hi
theorem bt_1 : ∀ i, i < 32 → bt (nI 1) i = decide (i = 0) := by decide +kernel
theorem bt_one {o i : Nat} (ho : o < 32) (hi : i < 32) : bt (nI 1 <<< (nI o &&& 31)) i = decide (i = o) := by
  rw [b_shl o ho _ hi, bt_1 _ (by omega)]
  by_cases e : i = o
  · subst e; simp
  · by_cases g : o ≤ i
    · simp [e]; omega
    · simp [e, g]
theorem tst_b {x : Int32} {o : Nat} (ho : o < 31) : (x >>> (nI o &&& 31)) &&& nI 1 = bI (bt x o = true) := by
  apply b_ext
  intro i hi
  rw [b_and, bt_1 i hi, b_sshr o (by omega) x hi]
  by_cases e : i = 0
  · subst e
    rw [if_pos (by omega)]
    by_cases q : bt x o = true
    · rw [bI_t q]; simp [q]; decide
    · rw [bI_f q]; simp at q; simp [q]; decide
  · have g : ∀ p : Prop, bt (bI p) i = false := by
      intro p
      by_cases q : p
      · rw [bI_t q]; exact (by rw [show (1 : Int32) = nI 1 by decide, bt_1 i hi]; simp [e])
      · rw [bI_f q]; exact b_0 i
    rw [g]; simp [e]
theorem tst_0 {x : Int32} {o : Nat} (ho : o < 31) : ((x >>> (nI o &&& 31)) &&& nI 1 = 0) ↔ ¬ bt x o = true := by
  rw [tst_b ho]
  by_cases q : bt x o = true
  · rw [bI_t q]; simp [q]
  · rw [bI_f q]; simp [q]
theorem bitP_bt {p : Nat → Prop} {n o : Nat} (hn : n ≤ 32) (ho : o < 32) : bt (bitP p n) o = true ↔ (o < n ∧ p o) := by
  induction n with
  | zero =>
    show bt (nI 0) o = true ↔ _
    rw [nI_0, b_0]; simp
  | succ n ih =>
    have ih := ih (by omega)
    by_cases q : p n
    · rw [bitP_t q, b_or, bt_one (by omega) ho, Bool.or_eq_true, ih, decide_eq_true_eq]
      constructor
      · rintro (⟨h1, h2⟩ | h)
        · exact ⟨by omega, h2⟩
        · subst h; exact ⟨by omega, q⟩
      · rintro ⟨h1, h2⟩
        by_cases e : o = n
        · exact Or.inr e
        · exact Or.inl ⟨by omega, h2⟩
    · rw [bitP_f q, ih]
      constructor
      · rintro ⟨h1, h2⟩; exact ⟨by omega, h2⟩
      · rintro ⟨h1, h2⟩
        by_cases e : o = n
        · subst e; exact absurd h2 q
        · exact ⟨by omega, h2⟩
/-! neighbours -/
theorem oth_is {w : Nat → Int32} (hWf : WfW w) {r v o : Nat} (hr : r < nrW w) (h : othW w r v = some o) : o < nvW w ∧ o ≠ v ∧ ((rdA w r = v ∧ rdB w r = o) ∨ (rdB w r = v ∧ rdA w r = o)) := by
  have b := wf_rdb hWf hr
  unfold othW at h
  by_cases c : rdA w r = v
  · rw [if_pos c] at h; cases h; exact ⟨b.2.1, by omega, Or.inl ⟨c, rfl⟩⟩
  · rw [if_neg c] at h
    by_cases c2 : rdB w r = v
    · rw [if_pos c2] at h; cases h; exact ⟨b.1, by omega, Or.inr ⟨c2, rfl⟩⟩
    · rw [if_neg c2] at h; cases h
theorem neW_n {w : Nat → Int32} {S : Nat → Nat → Nat} {v i a r : Nat} (h : othW w r v = none) : neW w S v i a (r + 1) = neW w S v i a r := by
  show neW w S v i a r + dI _ = _
  rw [h, dI_f (by rintro ⟨o, h1, _⟩; cases h1)]; rfl
theorem neW_f {w : Nat → Int32} {S : Nat → Nat → Nat} {v i a r o : Nat} (h : othW w r v = some o) (h2 : ¬ S o i = a) : neW w S v i a (r + 1) = neW w S v i a r := by
  show neW w S v i a r + dI _ = _
  rw [h, dI_f (by rintro ⟨o9, h1, h3⟩; cases h1; exact h2 h3)]; rfl
theorem neW_t {w : Nat → Int32} {S : Nat → Nat → Nat} {v i a r o : Nat} (h : othW w r v = some o) (h2 : S o i = a) : neW w S v i a (r + 1) = neW w S v i a r + 1 := by
  show neW w S v i a r + dI _ = _
  rw [h, dI_t ⟨o, rfl, h2⟩]
theorem neW_le (w : Nat → Int32) (S : Nat → Nat → Nat) (v i a r : Nat) : neW w S v i a r ≤ r := by
  induction r with
  | zero => exact Nat.le_refl _
  | succ r ih =>
    show neW w S v i a r + dI _ ≤ _
    unfold dI
    split <;> omega
theorem msW_n {w : Nat → Int32} {S : Nat → Nat → Nat} {v i a r : Nat} (h : othW w r v = none) : msW w S v i a (r + 1) = msW w S v i a r := by
  show msW w S v i a r + (match othW w r v with | some o => _ | none => 0) = _
  rw [h]; rfl
theorem msW_f {w : Nat → Int32} {S : Nat → Nat → Nat} {v i a r o : Nat} (h : othW w r v = some o) (h2 : ¬ (S o i = a ∧ ∀ r', r' < r → othW w r' v ≠ some o)) : msW w S v i a (r + 1) = msW w S v i a r := by
  show msW w S v i a r + (match othW w r v with | some o => dI (S o i = a ∧ ∀ r', r' < r → othW w r' v ≠ some o) * szW w o | none => 0) = _
  rw [h]
  show msW w S v i a r + dI (S o i = a ∧ ∀ r', r' < r → othW w r' v ≠ some o) * szW w o = _
  rw [dI_f h2]; omega
theorem msW_t {w : Nat → Int32} {S : Nat → Nat → Nat} {v i a r o : Nat} (h : othW w r v = some o) (h2 : S o i = a ∧ ∀ r', r' < r → othW w r' v ≠ some o) : msW w S v i a (r + 1) = msW w S v i a r + szW w o := by
  show msW w S v i a r + (match othW w r v with | some o => dI (S o i = a ∧ ∀ r', r' < r → othW w r' v ≠ some o) * szW w o | none => 0) = _
  rw [h]
  show msW w S v i a r + dI (S o i = a ∧ ∀ r', r' < r → othW w r' v ≠ some o) * szW w o = _
  rw [dI_t h2]; omega
theorem msW_le {w : Nat → Int32} (hWf : WfW w) (S : Nat → Nat → Nat) (v i a r : Nat) (hr : r ≤ nrW w) : msW w S v i a r ≤ 99 * r := by
  induction r with
  | zero => exact Nat.le_refl _
  | succ r ih =>
    have ih := ih (by omega)
    cases h : othW w r v with
    | none => rw [msW_n h]; omega
    | some o =>
      have := wf_szb hWf (oth_is hWf (by omega) h).1
      by_cases q : S o i = a ∧ ∀ r', r' < r → othW w r' v ≠ some o
      · rw [msW_t h q]; omega
      · rw [msW_f h q]; omega
/-! a PART's value -/
theorem ptW_k {w : Nat → Int32} {S : Nat → Nat → Nat} {y v i k a n : Nat} (ha : w (577 + 3 * k) = nI a) (h4 : a ≤ 4) (hn : w (578 + 3 * k) = nI n) (h9 : n ≤ 999) : ptW w S y v i k = if a = 0 then n else if a = 1 then neW w S v i n (nrW w) else if a = 2 then msW w S v i n (nrW w) else if a = 3 then szW w v else y := by
  unfold ptW
  rw [ha, hn, nI_clamp (by omega), nI_clamp (by omega)]
  rcases (show a = 0 ∨ a = 1 ∨ a = 2 ∨ a = 3 ∨ a = 4 by omega) with rfl | rfl | rfl | rfl | rfl <;> rfl
theorem ptW_le {w : Nat → Int32} (hWf : WfW w) {S : Nat → Nat → Nat} {y v i k : Nat} (hv : v < nvW w) (hy : y ≤ 60) (hk : k < npW w) : ptW w S y v i k ≤ 4000 := by
  obtain ⟨⟨a, h4, ha⟩, n, h9, hn, _⟩ := hWf.2.2.2.2.2.2 k hk
  rw [ptW_k ha h4 hn h9]
  have b1 := neW_le w S v i n (nrW w)
  have b2 := msW_le hWf S v i n (nrW w) (Nat.le_refl _)
  have b3 := wf_szb hWf hv
  have b4 := hWf.1.2.2.1.2
  split
  · omega
  · split
    · omega
    · split
      · omega
      · split <;> omega
/-! a SUM, part by part -/
def stpW (jn : Nat → Int32) (vl : Nat → Nat) (k : Nat) (s : Int × Int × Int) : Option (Int × Int × Int) := if jn k = 3 then (if s.2.2 * vl k > 1000000000 then none else some (s.1, s.2.1, s.2.2 * vl k)) else (if s.1 + s.2.1 * s.2.2 > 1000000000 ∨ s.1 + s.2.1 * s.2.2 < -1000000000 then none else some (s.1 + s.2.1 * s.2.2, (if jn k = 2 then -1 else 1), (vl k : Int)))
theorem wkW_s (jn : Nat → Int32) (vl : Nat → Nat) (n k : Nat) (t g p : Int) : wkW jn vl (n + 1) k t g p = (stpW jn vl k (t, g, p)).bind (fun s => wkW jn vl n (k + 1) s.1 s.2.1 s.2.2) := by
  unfold stpW
  show (if jn k = 3 then (if p * vl k > 1000000000 then none else wkW jn vl n (k + 1) t g (p * vl k)) else (if t + g * p > 1000000000 ∨ t + g * p < -1000000000 then none else wkW jn vl n (k + 1) (t + g * p) (if jn k = 2 then -1 else 1) (vl k))) = _
  split
  · dsimp only
    split <;> rfl
  · dsimp only
    split <;> rfl
theorem wkW_e (jn : Nat → Int32) (vl : Nat → Nat) (n : Nat) : ∀ (k : Nat) (t g p : Int), wkW jn vl (n + 1) k t g p = (wkW jn vl n k t g p).bind (stpW jn vl (k + n)) := by
  induction n with
  | zero =>
    intro k t g p
    rw [wkW_s]
    show (stpW jn vl k (t, g, p)).bind (fun s => some (s.1, s.2.1, s.2.2)) = stpW jn vl k (t, g, p)
    cases stpW jn vl k (t, g, p) <;> rfl
  | succ n ih =>
    intro k t g p
    rw [wkW_s, wkW_s jn vl n k]
    cases h : stpW jn vl k (t, g, p) with
    | none => rfl
    | some s =>
      show wkW jn vl (n + 1) (k + 1) s.1 s.2.1 s.2.2 = (wkW jn vl n (k + 1) s.1 s.2.1 s.2.2).bind _
      rw [ih (k + 1), show k + 1 + n = k + (n + 1) by omega]
theorem wkW_none {jn : Nat → Int32} {vl : Nat → Nat} {n k : Nat} {t g p : Int} (h : wkW jn vl n k t g p = none) (m : Nat) : wkW jn vl (n + m) k t g p = none := by
  induction m with
  | zero => exact h
  | succ m ih => rw [show n + (m + 1) = n + m + 1 by omega, wkW_e, ih]; rfl
/-- as far as part k, from b on -/
def rnW (jn : Nat → Int32) (vl : Nat → Nat) (b k : Nat) : Option (Int × Int × Int) := wkW jn vl (k - b) b 0 1 0
theorem rnW_0 (jn : Nat → Int32) (vl : Nat → Nat) (b : Nat) : rnW jn vl b b = some (0, 1, 0) := by
  unfold rnW
  rw [Nat.sub_self]; rfl
theorem rnW_s {jn : Nat → Int32} {vl : Nat → Nat} {b k : Nat} (h : b ≤ k) : rnW jn vl b (k + 1) = (rnW jn vl b k).bind (stpW jn vl k) := by
  unfold rnW
  rw [show k + 1 - b = (k - b) + 1 by omega, wkW_e, show b + (k - b) = k by omega]
theorem rnW_none {jn : Nat → Int32} {vl : Nat → Nat} {b k e : Nat} (hb : b ≤ k) (hk : k ≤ e) (h : rnW jn vl b k = none) : rnW jn vl b e = none := by
  unfold rnW at *
  rw [show e - b = (k - b) + (e - k) by omega]
  exact wkW_none h _
theorem smW_r (jn : Nat → Int32) (vl : Nat → Nat) (b e : Nat) : smW jn vl b e = match rnW jn vl b e with | none => none | some (t, g, p) => if t + g * p > 1000000000 ∨ t + g * p < -1000000000 then none else some (t + g * p) := rfl
theorem smW_some {jn : Nat → Int32} {vl : Nat → Nat} {b e : Nat} {t g p : Int} (h : rnW jn vl b e = some (t, g, p)) (h1 : t + g * p ≤ 1000000000) (h2 : -1000000000 ≤ t + g * p) : smW jn vl b e = some (t + g * p) := by
  rw [smW_r, h]
  exact if_neg (by omega)
theorem smW_far {jn : Nat → Int32} {vl : Nat → Nat} {b e : Nat} {t g p : Int} (h : rnW jn vl b e = some (t, g, p)) (h1 : t + g * p > 1000000000 ∨ t + g * p < -1000000000) : smW jn vl b e = none := by
  rw [smW_r, h]
  exact if_pos h1
theorem smW_none {jn : Nat → Int32} {vl : Nat → Nat} {b e : Nat} (h : rnW jn vl b e = none) : smW jn vl b e = none := by
  rw [smW_r, h]
theorem stpW_c {jn jn' : Nat → Int32} {vl : Nat → Nat} {k : Nat} (h3 : jn k = 3 ↔ jn' k = 3) (h2 : jn k = 2 ↔ jn' k = 2) (s : Int × Int × Int) : stpW jn vl k s = stpW jn' vl k s := by
  unfold stpW
  by_cases c : jn k = 3
  · rw [if_pos c, if_pos (h3.mp c)]
  · rw [if_neg c, if_neg (fun q => c (h3.mpr q))]
    by_cases c2 : jn k = 2
    · rw [if_pos c2, if_pos (h2.mp c2)]
    · rw [if_neg c2, if_neg (fun q => c2 (h2.mpr q))]
theorem rnW_c {jn jn' : Nat → Int32} {vl : Nat → Nat} {b e : Nat} (hb : b ≤ e) (h : ∀ k, b ≤ k → k < e → (jn k = 3 ↔ jn' k = 3) ∧ (jn k = 2 ↔ jn' k = 2)) : rnW jn vl b e = rnW jn' vl b e := by
  induction e with
  | zero => have : b = 0 := by omega
            subst this; rw [rnW_0, rnW_0]
  | succ e ih =>
    by_cases q : b = e + 1
    · subst q; rw [rnW_0, rnW_0]
    · have g := h e (by omega) (by omega)
      rw [rnW_s (by omega), rnW_s (by omega), ih (by omega) (fun k h1 h2 => h k h1 (by omega)), show stpW jn vl e = stpW jn' vl e from funext (fun s => stpW_c g.1 g.2 s)]

