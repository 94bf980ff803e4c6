/-! bits: Integer.bitCount; sets of items and villages -/
theorem bt_nI (n : Nat) {i : Nat} (hi : i < 32) : bt (nI n) i = n.testBit i := by
  show (BitVec.ofNat 32 n).getLsbD i = _
  rw [BitVec.getLsbD_ofNat]; simp [hi]
theorem nI_and (a b : Nat) : nI a &&& nI b = nI (a &&& b) := b_ext (fun i hi => by rw [b_and, bt_nI _ hi, bt_nI _ hi, bt_nI _ hi, Nat.testBit_and])
theorem and2 {q d Q D : Nat} (hd : d < 2 ^ 8) (hD : D < 2 ^ 8) : (2 ^ 8 * q + d) &&& (2 ^ 8 * Q + D) = 2 ^ 8 * (q &&& Q) + (d &&& D) := by
  apply Nat.eq_of_testBit_eq
  intro i
  rw [Nat.testBit_and, Nat.testBit_two_pow_mul_add _ hd, Nat.testBit_two_pow_mul_add _ hD, Nat.testBit_two_pow_mul_add _ (Nat.and_lt_two_pow _ hD)]
  split <;> rw [Nat.testBit_and]
theorem and3 {a b c m : Nat} (ha : a < 256) (hb : b < 256) (hc : c < 256) (hm : m < 256) : (a + 256 * b + 65536 * c) &&& (m + 256 * m + 65536 * m + 16777216 * m) = (a &&& m) + 256 * (b &&& m) + 65536 * (c &&& m) := by
  rw [show a + 256 * b + 65536 * c = 2 ^ 8 * (2 ^ 8 * (2 ^ 8 * 0 + c) + b) + a by omega, show m + 256 * m + 65536 * m + 16777216 * m = 2 ^ 8 * (2 ^ 8 * (2 ^ 8 * m + m) + m) + m by omega, and2 (by omega) (by omega), and2 (by omega) (by omega), and2 (by omega) (by omega), Nat.zero_and]
  omega
def pc1 (a : Nat) : Nat := a - (a / 2 &&& 85)
def pc2 (a : Nat) : Nat := (pc1 a &&& 51) + (pc1 a / 4 &&& 51)
def pc3 (a : Nat) : Nat := (pc2 a + pc2 a / 16) % 16
def cntB (f : Nat → Bool) : Nat → Nat
  | 0 => 0
  | k + 1 => cntB f k + (if f k then 1 else 0)
theorem cntP_B (f : Nat → Bool) (n : Nat) : cntP (fun k => f k = true) n = cntB f n := by
  induction n with
  | zero => rfl
  | succ n ih =>
    show _ = cntB f n + (if f n then 1 else 0)
    by_cases h : f n = true
    · rw [cntP_t (p := fun k => f k = true) h, if_pos h, ih]
    · rw [cntP_f (p := fun k => f k = true) h, if_neg h, ih]; rfl
theorem tb1 : ∀ a, a < 256 → ∀ r, r < 2 → (a / 2 + 128 * r) &&& 85 = a / 2 &&& 85 ∧ (a / 2 &&& 85) ≤ a ∧ pc1 a < 256 := by decide +kernel
theorem tb2 : ∀ a, a < 256 → ∀ r, r < 4 → (a / 4 + 64 * r) &&& 51 = a / 4 &&& 51 ∧ (a &&& 51) ≤ 51 := by decide +kernel
theorem tb3 : ∀ a, a < 256 → pc2 a ≤ 68 ∧ pc2 a % 16 ≤ 4 ∧ pc3 a = cntB (fun k => a.testBit k) 8 ∧ pc3 a ≤ 8 := by decide +kernel
def bcF (x : Int32) : Int32 :=
  let a := x - ((x.toUInt32 >>> ((nI 1).toUInt32 &&& Int32.toUInt32 31)).toInt32 &&& 1431655765)
  let b := (a &&& 858993459) + ((a.toUInt32 >>> ((nI 2).toUInt32 &&& Int32.toUInt32 31)).toInt32 &&& 858993459)
  let c := (b + (b.toUInt32 >>> ((nI 4).toUInt32 &&& Int32.toUInt32 31)).toInt32) &&& 252645135
  let d := c + (c.toUInt32 >>> ((nI 8).toUInt32 &&& Int32.toUInt32 31)).toInt32
  let e := d + (d.toUInt32 >>> ((nI 16).toUInt32 &&& Int32.toUInt32 31)).toInt32
  e &&& nI 63
theorem bcF_n {a b c : Nat} (ha : a < 256) (hb : b < 256) (hc : c < 256) : bcF (nI (a + 256 * b + 65536 * c)) = nI (pc3 a + pc3 b + pc3 c) := by
  obtain ⟨a1, a2, a3⟩ := tb1 a ha (b % 2) (by omega)
  obtain ⟨b1, b2, b3⟩ := tb1 b hb (c % 2) (by omega)
  obtain ⟨c1, c2, c3⟩ := tb1 c hc 0 (by omega)
  obtain ⟨a4, a5⟩ := tb2 (pc1 a) a3 (pc1 b % 4) (by omega)
  obtain ⟨b4, b5⟩ := tb2 (pc1 b) b3 (pc1 c % 4) (by omega)
  obtain ⟨c4, c5⟩ := tb2 (pc1 c) c3 0 (by omega)
  obtain ⟨a6, a7, _, a8⟩ := tb3 a ha
  obtain ⟨b6, b7, _, b8⟩ := tb3 b hb
  obtain ⟨c6, c7, _, c8⟩ := tb3 c hc
  have s1 : nI (a + 256 * b + 65536 * c) - (((nI (a + 256 * b + 65536 * c)).toUInt32 >>> ((nI 1).toUInt32 &&& Int32.toUInt32 31)).toInt32 &&& 1431655765) = nI (pc1 a + 256 * pc1 b + 65536 * pc1 c) := by
    rw [pk_ushrN (by omega) _ 1 (by decide), show (1431655765 : Int32) = nI (85 + 256 * 85 + 65536 * 85 + 16777216 * 85) by decide, nI_and, show (a + 256 * b + 65536 * c) / 2 ^ 1 = (a / 2 + 128 * (b % 2)) + 256 * (b / 2 + 128 * (c % 2)) + 65536 * (c / 2 + 128 * 0) by omega, and3 (by omega) (by omega) (by omega) (by omega), a1, b1, c1, pk_sub (by omega)]
    congr 1
    unfold pc1
    omega
  have s2 : (nI (pc1 a + 256 * pc1 b + 65536 * pc1 c) &&& 858993459) + (((nI (pc1 a + 256 * pc1 b + 65536 * pc1 c)).toUInt32 >>> ((nI 2).toUInt32 &&& Int32.toUInt32 31)).toInt32 &&& 858993459) = nI (pc2 a + 256 * pc2 b + 65536 * pc2 c) := by
    rw [pk_ushrN (by omega) _ 2 (by decide), show (858993459 : Int32) = nI (51 + 256 * 51 + 65536 * 51 + 16777216 * 51) by decide, nI_and, nI_and, and3 a3 b3 c3 (by omega), show (pc1 a + 256 * pc1 b + 65536 * pc1 c) / 2 ^ 2 = (pc1 a / 4 + 64 * (pc1 b % 4)) + 256 * (pc1 b / 4 + 64 * (pc1 c % 4)) + 65536 * (pc1 c / 4 + 64 * 0) by omega, and3 (by omega) (by omega) (by omega) (by omega), a4, b4, c4, nI_add]
    congr 1
    unfold pc2
    omega
  have s3 : (nI (pc2 a + 256 * pc2 b + 65536 * pc2 c) + ((nI (pc2 a + 256 * pc2 b + 65536 * pc2 c)).toUInt32 >>> ((nI 4).toUInt32 &&& Int32.toUInt32 31)).toInt32) &&& 252645135 = nI (pc3 a + 256 * pc3 b + 65536 * pc3 c) := by
    have m15 : ∀ x : Nat, x &&& 15 = x % 16 := fun x => Nat.and_two_pow_sub_one_eq_mod x 4
    rw [pk_ushrN (by omega) _ 4 (by decide), show (252645135 : Int32) = nI (15 + 256 * 15 + 65536 * 15 + 16777216 * 15) by decide, nI_add, nI_and, show pc2 a + 256 * pc2 b + 65536 * pc2 c + (pc2 a + 256 * pc2 b + 65536 * pc2 c) / 2 ^ 4 = (pc2 a + pc2 a / 16 + 16 * (pc2 b % 16)) + 256 * (pc2 b + pc2 b / 16 + 16 * (pc2 c % 16)) + 65536 * (pc2 c + pc2 c / 16) by omega, and3 (by omega) (by omega) (by omega) (by omega), m15, m15, m15]
    congr 1
    unfold pc3
    omega
  unfold bcF
  simp only []
  rw [s1, s2, s3, pk_ushrN (by omega) _ 8 (by decide), nI_add, pk_ushrN (by omega) _ 16 (by decide), nI_add, pk_andN (by omega) 6 (by decide)]
  congr 1
  generalize pc3 a = p at a8
  generalize pc3 b = q at b8
  generalize pc3 c = r at c8
  have x1 : (p + 256 * q + 65536 * r) / 2 ^ 8 = q + 256 * r := by omega
  have x2 : (p + 256 * q + 65536 * r + (q + 256 * r)) / 2 ^ 16 = r := by omega
  rw [x1, x2]
  clear x1 x2
  omega
theorem cntP_add (p : Nat → Prop) (m n : Nat) : cntP p (m + n) = cntP p m + cntP (fun k => p (m + k)) n := by
  induction n with
  | zero => rfl
  | succ n ih =>
    by_cases h : p (m + n)
    · rw [show m + (n + 1) = (m + n) + 1 from rfl, cntP_t h, cntP_t (p := fun k => p (m + k)) h, ih]; omega
    · rw [show m + (n + 1) = (m + n) + 1 from rfl, cntP_f h, cntP_f (p := fun k => p (m + k)) h, ih]
theorem bcF_p (x : Int32) (hx : ∀ k, 24 ≤ k → k < 32 → bt x k = false) : bcF x = nI (cntP (fun k => bt x k = true) 24) := by
  obtain ⟨n, hn, e⟩ : ∃ n, n < 2 ^ 24 ∧ x = nI n := by
    refine ⟨x.toBitVec.toNat % 2 ^ 24, Nat.mod_lt _ (by decide), b_ext (fun i hi => ?_)⟩
    rw [bt_nI _ hi, Nat.testBit_mod_two_pow]
    by_cases c : i < 24
    · simp only [c, decide_true, Bool.true_and]; exact BitVec.testBit_toNat x.toBitVec |>.symm
    · simp only [c, decide_false, Bool.false_and]; exact hx i (by omega) hi
  subst e
  obtain ⟨a, b, c, ha, hb, hc, e⟩ : ∃ a b c, a < 256 ∧ b < 256 ∧ c < 256 ∧ n = a + 256 * b + 65536 * c := ⟨n % 256, n / 256 % 256, n / 65536, by omega, by omega, by omega, by omega⟩
  rw [show cntP (fun k => bt (nI n) k = true) 24 = cntP (fun k => n.testBit k = true) 24 from cntP_c (fun k hk => by rw [bt_nI _ (by omega)]), show (24 : Nat) = 8 + (8 + 8) from rfl, cntP_add, cntP_add, e, bcF_n ha hb hc, (tb3 a ha).2.2.1, (tb3 b hb).2.2.1, (tb3 c hc).2.2.1, ← cntP_B, ← cntP_B, ← cntP_B]
  have t : ∀ k, (a + 256 * b + 65536 * c).testBit k = if k < 8 then a.testBit k else if k - 8 < 8 then b.testBit (k - 8) else c.testBit (k - 8 - 8) := fun k => by
    rw [show a + 256 * b + 65536 * c = 2 ^ 8 * (2 ^ 8 * c + b) + a by omega, Nat.testBit_two_pow_mul_add _ (by omega), Nat.testBit_two_pow_mul_add _ (by omega)]
  congr 1
  rw [cntP_c (p := fun k => a.testBit k = true) (q := fun k => (a + 256 * b + 65536 * c).testBit k = true) (fun k hk => by rw [t, if_pos hk]), cntP_c (p := fun k => b.testBit k = true) (q := fun k => (a + 256 * b + 65536 * c).testBit (8 + k) = true) (fun k hk => by rw [t, if_neg (by omega), if_pos (by omega), show 8 + k - 8 = k by omega]), cntP_c (p := fun k => c.testBit k = true) (q := fun k => (a + 256 * b + 65536 * c).testBit (8 + (8 + k)) = true) (fun k hk => by rw [t, if_neg (by omega), if_neg (by omega), show 8 + (8 + k) - 8 - 8 = k by omega]), Nat.add_assoc]
theorem bitP_hi {p : Nat → Prop} {n : Nat} (hn : n ≤ 24) : ∀ k, 24 ≤ k → k < 32 → bt (bitP p n) k = false := fun k h1 h2 => by
  cases e : bt (bitP p n) k with
  | false => rfl
  | true => exact absurd ((bitP_bt (by omega) h2).mp e).1 (by omega)
theorem cntP_z {p : Nat → Prop} {n m : Nat} (h : ∀ k, n ≤ k → k < n + m → ¬ p k) : cntP p (n + m) = cntP p n := by
  induction m with
  | zero => rfl
  | succ m ih => rw [show n + (m + 1) = (n + m) + 1 from rfl, cntP_f (h _ (by omega) (by omega)), ih (fun k h1 h2 => h k h1 (by omega))]
theorem bitP_cnt {p : Nat → Prop} {n : Nat} (hn : n ≤ 24) : cntP (fun k => bt (bitP p n) k = true) 24 = cntP p n := by
  have e := cntP_z (p := fun k => bt (bitP p n) k = true) (n := n) (m := 24 - n) (fun k h1 h2 q => absurd ((bitP_bt (by omega) (by omega)).mp q).1 (by omega))
  rw [show n + (24 - n) = 24 by omega] at e
  rw [e]
  exact cntP_c (fun k hk => (bitP_bt (by omega) (by omega)).trans ⟨fun q => q.2, fun q => ⟨hk, q⟩⟩)
theorem bitP_or {p q : Nat → Prop} {n : Nat} (hn : n ≤ 24) : bitP p n ||| bitP q n = bitP (fun k => p k ∨ q k) n := b_ext (fun i hi => by
  rw [b_or]
  apply Bool.eq_iff_iff.mpr
  rw [Bool.or_eq_true, bitP_bt (by omega) hi, bitP_bt (by omega) hi, bitP_bt (by omega) hi]
  constructor
  · rintro (⟨h1, h2⟩ | ⟨h1, h2⟩)
    · exact ⟨h1, Or.inl h2⟩
    · exact ⟨h1, Or.inr h2⟩
  · rintro ⟨h1, h2 | h2⟩
    · exact Or.inl ⟨h1, h2⟩
    · exact Or.inr ⟨h1, h2⟩)
theorem bitP_ext {p q : Nat → Prop} {n : Nat} (hn : n ≤ 24) : bitP p n = bitP q n ↔ ∀ k, k < n → (p k ↔ q k) := by
  refine ⟨fun e k hk => ?_, fun h => bitP_c h⟩
  have a := bitP_bt (p := p) (n := n) (o := k) (by omega) (by omega)
  have b := bitP_bt (p := q) (n := n) (o := k) (by omega) (by omega)
  rw [e] at a
  exact ⟨fun h => (b.mp (a.mpr ⟨hk, h⟩)).2, fun h => (a.mp (b.mpr ⟨hk, h⟩)).2⟩
theorem hdN_c (w : Nat → Int32) (n : Nat) : hdN w n = cntP (fun k => ¬ w (178 + 4 * k) = -1) n := by
  induction n with
  | zero => rfl
  | succ n ih =>
    show hdN w n + (if w (178 + 4 * n) = -1 then 0 else 1) = _
    by_cases h : w (178 + 4 * n) = -1
    · rw [if_pos h, cntP_f (p := fun k => ¬ w (178 + 4 * k) = -1) (fun q => q h), ih]; rfl
    · rw [if_neg h, cntP_t (p := fun k => ¬ w (178 + 4 * k) = -1) h, ih]
theorem cnt_all {p q : Nat → Prop} (n : Nat) : cntP (fun k => p k ∧ q k) n = cntP p n ↔ ∀ k, k < n → p k → q k := by
  induction n with
  | zero => exact ⟨fun _ k hk => absurd hk (by omega), fun _ => rfl⟩
  | succ n ih =>
    have le := cntP_im (p := fun k => p k ∧ q k) (q := p) n (fun k _ h => h.1)
    by_cases hp : p n
    · by_cases hq : q n
      · rw [cntP_t (p := fun k => p k ∧ q k) ⟨hp, hq⟩, cntP_t hp]
        constructor
        · intro e k hk hpk
          by_cases c : k = n
          · rw [c]; exact hq
          · exact ih.mp (by omega) k (by omega) hpk
        · intro h; rw [ih.mpr (fun k hk => h k (by omega))]
      · rw [cntP_f (p := fun k => p k ∧ q k) (fun h => hq h.2), cntP_t hp]
        exact ⟨fun e => absurd e (by omega), fun h => absurd (h n (by omega) hp) hq⟩
    · rw [cntP_f (p := fun k => p k ∧ q k) (fun h => hp h.1), cntP_f hp]
      constructor
      · intro e k hk hpk
        by_cases c : k = n
        · rw [c] at hpk; exact absurd hpk hp
        · exact ih.mp e k (by omega) hpk
      · intro h; exact ih.mpr (fun k hk => h k (by omega))
/-- what a village fits, what is heard, as sets of items -/
noncomputable def fiW (w : Nat → Int32) (y v : Nat) : Int32 := bitP (fun k => (¬ w (178 + 4 * k) = -1) ∧ fitW w y v k) (ntW w)
noncomputable def hrW (w : Nat → Int32) : Int32 := bitP (fun k => ¬ w (178 + 4 * k) = -1) (ntW w)
theorem fi_hr {w : Nat → Int32} (hWf : WfW w) (y v : Nat) : fiW w y v = hrW w ↔ ftN w y v = hdN w (ntW w) := by
  have := hWf.1.2.2.2.1.2
  rw [hdN_c]
  refine (bitP_ext (by omega)).trans (Iff.trans ?_ (cnt_all _).symm)
  exact ⟨fun h k hk hp => ((h k hk).mpr hp).2, fun h k hk => ⟨fun q => q.1, fun q => ⟨q, h k hk q⟩⟩⟩
theorem fi_cnt {w : Nat → Int32} (hWf : WfW w) (y v : Nat) : bcF (fiW w y v) = nI (ftN w y v) := by
  have := hWf.1.2.2.2.1.2
  exact (bcF_p _ (bitP_hi (by omega))).trans (congrArg nI (bitP_cnt (by omega)))
theorem fi_or {w : Nat → Int32} (hWf : WfW w) (y v u : Nat) : bcF (fiW w y v ||| fiW w y u) = nI (twG w y v u) := by
  have := hWf.1.2.2.2.1.2
  unfold fiW
  rw [bitP_or (by omega)]
  refine (bcF_p _ (bitP_hi (by omega))).trans (congrArg nI ((bitP_cnt (by omega)).trans ?_))
  exact cntP_c (fun k _ => ⟨fun q => q.elim (fun q => ⟨q.1, Or.inl q.2⟩) (fun q => ⟨q.1, Or.inr q.2⟩), fun ⟨q1, q2⟩ => q2.imp (fun q => ⟨q1, q⟩) (fun q => ⟨q1, q⟩)⟩)
theorem wh_cnt {w : Nat → Int32} (hWf : WfW w) (y : Nat) : bcF (whW w y) = nI (cntP (fun k => bt (whW w y) k = true) 24) := bcF_p _ (bitP_hi hWf.1.2.1.2)
/-- a pair of items in a set -/
theorem pair_in {x : Int32} {i j : Nat} (hi : i < 32) (hj : j < 32) : x &&& (nI 1 <<< (nI i &&& 31) ||| nI 1 <<< (nI j &&& 31)) = (nI 1 <<< (nI i &&& 31) ||| nI 1 <<< (nI j &&& 31)) ↔ (bt x i = true ∧ bt x j = true) := by
  constructor
  · intro e
    have a := congrArg (fun z => bt z i) e
    have b := congrArg (fun z => bt z j) e
    simp only [b_and, b_or, bt_one hi hi, bt_one hj hi, bt_one hi hj, bt_one hj hj, decide_true, Bool.true_or, Bool.or_true, Bool.and_true] at a b
    exact ⟨a, b⟩
  · rintro ⟨h1, h2⟩
    refine b_ext (fun k hk => ?_)
    rw [b_and, b_or, bt_one hi hk, bt_one hj hk]
    by_cases c : k = i
    · rw [c, h1]; rfl
    · by_cases d : k = j
      · rw [d, h2]; rfl
      · simp [c, d]
theorem mxP_u {f g : Nat → Nat} {b : Nat} (h : ∀ a, a ≠ b → g a = f a) (hb : f b ≤ g b) : ∀ n, mxP g n = if b < n then max (mxP f n) (g b) else mxP f n := by
  intro n
  induction n with
  | zero => rfl
  | succ n ih =>
    show max (mxP g n) (g n) = if b < n + 1 then max (max (mxP f n) (f n)) (g b) else max (mxP f n) (f n)
    by_cases c : b = n
    · subst c
      rw [ih, if_neg (by omega), if_pos (by omega)]
      omega
    · rw [ih, h n (fun q => c q.symm)]
      by_cases d : b < n
      · rw [if_pos d, if_pos (by omega)]; omega
      · rw [if_neg d, if_neg (by omega)]
theorem hc_iff {w hc : Nat → Int32} (hWf : WfW w) (y4 : ∀ i, i < ntW w → w (178 + 4 * i) ≠ -1 → hc i = w (179 + 4 * i)) {k : Nat} (hk : k < ntW w) (n3 : ¬ w (178 + 4 * k) = -1) : ¬ hc k = 0 ↔ w (179 + 4 * k) = nI 1 := by
  rw [y4 k hk n3]
  rcases (hWf.2.2.2.1 k hk).2.2.2 with e | e
  · rw [e]; decide
  · rw [e]; decide
theorem x_bitCount (d : Nat) (h : aH) (x : Int32) : Rn (d + 1) 243 [.int (x)] h (some (.int (bcF x))) h 0 0 := by
  refine Rn_of (by decide) (Nat.le_of_ble_eq_true rfl) ?_
  show Wn _ _ 0 [(0, .int (x))] [] _ _
  refine wn_ld (pc' := 1) (q := 0) (kin := 0) (v := .int (x)) rfl (fun _ _ _ => rfl) rfl rfl ?_
  refine wn_ld (pc' := 2) (q := 0) (kin := 0) (v := .int (x)) rfl (fun _ _ _ => rfl) rfl rfl ?_
  refine wn_ic (pc' := 3) (w := nI 1) rfl rfl (by decide) ?_
  refine wn_pu (pc' := 4) (st' := [.int (((x).toUInt32 >>> ((nI (1)).toUInt32 &&& Int32.toUInt32 31)).toInt32), .int (x)]) rfl (fun _ _ _ => rfl) rfl rfl ?_
  refine wn_go (pc' := 7) (lv' := [(0, .int (x))]) (st' := [.int (1431655765), .int (((x).toUInt32 >>> ((nI (1)).toUInt32 &&& Int32.toUInt32 31)).toInt32), .int (x)]) rfl (fun _ _ _ k9 => k9) ?_
  refine wn_pu (pc' := 8) (st' := [.int ((((x).toUInt32 >>> ((nI (1)).toUInt32 &&& Int32.toUInt32 31)).toInt32) &&& (1431655765)), .int (x)]) rfl (fun _ _ _ => rfl) rfl rfl ?_
  refine wn_pu (pc' := 9) (st' := [.int ((x) - ((((x).toUInt32 >>> ((nI (1)).toUInt32 &&& Int32.toUInt32 31)).toInt32) &&& (1431655765)))]) rfl (fun _ _ _ => rfl) rfl rfl ?_
  refine wn_st (pc' := 10) (q := 0) (kin := 0) (lv' := [(0, .int ((x) - ((((x).toUInt32 >>> ((nI (1)).toUInt32 &&& Int32.toUInt32 31)).toInt32) &&& (1431655765))))]) rfl (fun _ _ _ => rfl) rfl (Nat.le_of_ble_eq_true rfl) rfl ?_
  refine wn_ld (pc' := 11) (q := 0) (kin := 0) (v := .int ((x) - ((((x).toUInt32 >>> ((nI (1)).toUInt32 &&& Int32.toUInt32 31)).toInt32) &&& (1431655765)))) rfl (fun _ _ _ => rfl) rfl rfl ?_
  refine wn_go (pc' := 14) (lv' := [(0, .int ((x) - ((((x).toUInt32 >>> ((nI (1)).toUInt32 &&& Int32.toUInt32 31)).toInt32) &&& (1431655765))))]) (st' := [.int (858993459), .int ((x) - ((((x).toUInt32 >>> ((nI (1)).toUInt32 &&& Int32.toUInt32 31)).toInt32) &&& (1431655765)))]) rfl (fun _ _ _ k9 => k9) ?_
  refine wn_pu (pc' := 15) (st' := [.int (((x) - ((((x).toUInt32 >>> ((nI (1)).toUInt32 &&& Int32.toUInt32 31)).toInt32) &&& (1431655765))) &&& (858993459))]) rfl (fun _ _ _ => rfl) rfl rfl ?_
  refine wn_ld (pc' := 16) (q := 0) (kin := 0) (v := .int ((x) - ((((x).toUInt32 >>> ((nI (1)).toUInt32 &&& Int32.toUInt32 31)).toInt32) &&& (1431655765)))) rfl (fun _ _ _ => rfl) rfl rfl ?_
  refine wn_ic (pc' := 17) (w := nI 2) rfl rfl (by decide) ?_
  refine wn_pu (pc' := 18) (st' := [.int ((((x) - ((((x).toUInt32 >>> ((nI (1)).toUInt32 &&& Int32.toUInt32 31)).toInt32) &&& (1431655765))).toUInt32 >>> ((nI (2)).toUInt32 &&& Int32.toUInt32 31)).toInt32), .int (((x) - ((((x).toUInt32 >>> ((nI (1)).toUInt32 &&& Int32.toUInt32 31)).toInt32) &&& (1431655765))) &&& (858993459))]) rfl (fun _ _ _ => rfl) rfl rfl ?_
  refine wn_go (pc' := 21) (lv' := [(0, .int ((x) - ((((x).toUInt32 >>> ((nI (1)).toUInt32 &&& Int32.toUInt32 31)).toInt32) &&& (1431655765))))]) (st' := [.int (858993459), .int ((((x) - ((((x).toUInt32 >>> ((nI (1)).toUInt32 &&& Int32.toUInt32 31)).toInt32) &&& (1431655765))).toUInt32 >>> ((nI (2)).toUInt32 &&& Int32.toUInt32 31)).toInt32), .int (((x) - ((((x).toUInt32 >>> ((nI (1)).toUInt32 &&& Int32.toUInt32 31)).toInt32) &&& (1431655765))) &&& (858993459))]) rfl (fun _ _ _ k9 => k9) ?_
  refine wn_pu (pc' := 22) (st' := [.int (((((x) - ((((x).toUInt32 >>> ((nI (1)).toUInt32 &&& Int32.toUInt32 31)).toInt32) &&& (1431655765))).toUInt32 >>> ((nI (2)).toUInt32 &&& Int32.toUInt32 31)).toInt32) &&& (858993459)), .int (((x) - ((((x).toUInt32 >>> ((nI (1)).toUInt32 &&& Int32.toUInt32 31)).toInt32) &&& (1431655765))) &&& (858993459))]) rfl (fun _ _ _ => rfl) rfl rfl ?_
  refine wn_pu (pc' := 23) (st' := [.int ((((x) - ((((x).toUInt32 >>> ((nI (1)).toUInt32 &&& Int32.toUInt32 31)).toInt32) &&& (1431655765))) &&& (858993459)) + (((((x) - ((((x).toUInt32 >>> ((nI (1)).toUInt32 &&& Int32.toUInt32 31)).toInt32) &&& (1431655765))).toUInt32 >>> ((nI (2)).toUInt32 &&& Int32.toUInt32 31)).toInt32) &&& (858993459)))]) rfl (fun _ _ _ => rfl) rfl rfl ?_
  refine wn_st (pc' := 24) (q := 0) (kin := 0) (lv' := [(0, .int ((((x) - ((((x).toUInt32 >>> ((nI (1)).toUInt32 &&& Int32.toUInt32 31)).toInt32) &&& (1431655765))) &&& (858993459)) + (((((x) - ((((x).toUInt32 >>> ((nI (1)).toUInt32 &&& Int32.toUInt32 31)).toInt32) &&& (1431655765))).toUInt32 >>> ((nI (2)).toUInt32 &&& Int32.toUInt32 31)).toInt32) &&& (858993459))))]) rfl (fun _ _ _ => rfl) rfl (Nat.le_of_ble_eq_true rfl) rfl ?_
  refine wn_ld (pc' := 25) (q := 0) (kin := 0) (v := .int ((((x) - ((((x).toUInt32 >>> ((nI (1)).toUInt32 &&& Int32.toUInt32 31)).toInt32) &&& (1431655765))) &&& (858993459)) + (((((x) - ((((x).toUInt32 >>> ((nI (1)).toUInt32 &&& Int32.toUInt32 31)).toInt32) &&& (1431655765))).toUInt32 >>> ((nI (2)).toUInt32 &&& Int32.toUInt32 31)).toInt32) &&& (858993459)))) rfl (fun _ _ _ => rfl) rfl rfl ?_
  refine wn_ld (pc' := 26) (q := 0) (kin := 0) (v := .int ((((x) - ((((x).toUInt32 >>> ((nI (1)).toUInt32 &&& Int32.toUInt32 31)).toInt32) &&& (1431655765))) &&& (858993459)) + (((((x) - ((((x).toUInt32 >>> ((nI (1)).toUInt32 &&& Int32.toUInt32 31)).toInt32) &&& (1431655765))).toUInt32 >>> ((nI (2)).toUInt32 &&& Int32.toUInt32 31)).toInt32) &&& (858993459)))) rfl (fun _ _ _ => rfl) rfl rfl ?_
  refine wn_ic (pc' := 27) (w := nI 4) rfl rfl (by decide) ?_
  refine wn_pu (pc' := 28) (st' := [.int ((((((x) - ((((x).toUInt32 >>> ((nI (1)).toUInt32 &&& Int32.toUInt32 31)).toInt32) &&& (1431655765))) &&& (858993459)) + (((((x) - ((((x).toUInt32 >>> ((nI (1)).toUInt32 &&& Int32.toUInt32 31)).toInt32) &&& (1431655765))).toUInt32 >>> ((nI (2)).toUInt32 &&& Int32.toUInt32 31)).toInt32) &&& (858993459))).toUInt32 >>> ((nI (4)).toUInt32 &&& Int32.toUInt32 31)).toInt32), .int ((((x) - ((((x).toUInt32 >>> ((nI (1)).toUInt32 &&& Int32.toUInt32 31)).toInt32) &&& (1431655765))) &&& (858993459)) + (((((x) - ((((x).toUInt32 >>> ((nI (1)).toUInt32 &&& Int32.toUInt32 31)).toInt32) &&& (1431655765))).toUInt32 >>> ((nI (2)).toUInt32 &&& Int32.toUInt32 31)).toInt32) &&& (858993459)))]) rfl (fun _ _ _ => rfl) rfl rfl ?_
  refine wn_pu (pc' := 29) (st' := [.int (((((x) - ((((x).toUInt32 >>> ((nI (1)).toUInt32 &&& Int32.toUInt32 31)).toInt32) &&& (1431655765))) &&& (858993459)) + (((((x) - ((((x).toUInt32 >>> ((nI (1)).toUInt32 &&& Int32.toUInt32 31)).toInt32) &&& (1431655765))).toUInt32 >>> ((nI (2)).toUInt32 &&& Int32.toUInt32 31)).toInt32) &&& (858993459))) + ((((((x) - ((((x).toUInt32 >>> ((nI (1)).toUInt32 &&& Int32.toUInt32 31)).toInt32) &&& (1431655765))) &&& (858993459)) + (((((x) - ((((x).toUInt32 >>> ((nI (1)).toUInt32 &&& Int32.toUInt32 31)).toInt32) &&& (1431655765))).toUInt32 >>> ((nI (2)).toUInt32 &&& Int32.toUInt32 31)).toInt32) &&& (858993459))).toUInt32 >>> ((nI (4)).toUInt32 &&& Int32.toUInt32 31)).toInt32))]) rfl (fun _ _ _ => rfl) rfl rfl ?_
  refine wn_go (pc' := 32) (lv' := [(0, .int ((((x) - ((((x).toUInt32 >>> ((nI (1)).toUInt32 &&& Int32.toUInt32 31)).toInt32) &&& (1431655765))) &&& (858993459)) + (((((x) - ((((x).toUInt32 >>> ((nI (1)).toUInt32 &&& Int32.toUInt32 31)).toInt32) &&& (1431655765))).toUInt32 >>> ((nI (2)).toUInt32 &&& Int32.toUInt32 31)).toInt32) &&& (858993459))))]) (st' := [.int (252645135), .int (((((x) - ((((x).toUInt32 >>> ((nI (1)).toUInt32 &&& Int32.toUInt32 31)).toInt32) &&& (1431655765))) &&& (858993459)) + (((((x) - ((((x).toUInt32 >>> ((nI (1)).toUInt32 &&& Int32.toUInt32 31)).toInt32) &&& (1431655765))).toUInt32 >>> ((nI (2)).toUInt32 &&& Int32.toUInt32 31)).toInt32) &&& (858993459))) + ((((((x) - ((((x).toUInt32 >>> ((nI (1)).toUInt32 &&& Int32.toUInt32 31)).toInt32) &&& (1431655765))) &&& (858993459)) + (((((x) - ((((x).toUInt32 >>> ((nI (1)).toUInt32 &&& Int32.toUInt32 31)).toInt32) &&& (1431655765))).toUInt32 >>> ((nI (2)).toUInt32 &&& Int32.toUInt32 31)).toInt32) &&& (858993459))).toUInt32 >>> ((nI (4)).toUInt32 &&& Int32.toUInt32 31)).toInt32))]) rfl (fun _ _ _ k9 => k9) ?_
  refine wn_pu (pc' := 33) (st' := [.int ((((((x) - ((((x).toUInt32 >>> ((nI (1)).toUInt32 &&& Int32.toUInt32 31)).toInt32) &&& (1431655765))) &&& (858993459)) + (((((x) - ((((x).toUInt32 >>> ((nI (1)).toUInt32 &&& Int32.toUInt32 31)).toInt32) &&& (1431655765))).toUInt32 >>> ((nI (2)).toUInt32 &&& Int32.toUInt32 31)).toInt32) &&& (858993459))) + ((((((x) - ((((x).toUInt32 >>> ((nI (1)).toUInt32 &&& Int32.toUInt32 31)).toInt32) &&& (1431655765))) &&& (858993459)) + (((((x) - ((((x).toUInt32 >>> ((nI (1)).toUInt32 &&& Int32.toUInt32 31)).toInt32) &&& (1431655765))).toUInt32 >>> ((nI (2)).toUInt32 &&& Int32.toUInt32 31)).toInt32) &&& (858993459))).toUInt32 >>> ((nI (4)).toUInt32 &&& Int32.toUInt32 31)).toInt32)) &&& (252645135))]) rfl (fun _ _ _ => rfl) rfl rfl ?_
  refine wn_st (pc' := 34) (q := 0) (kin := 0) (lv' := [(0, .int ((((((x) - ((((x).toUInt32 >>> ((nI (1)).toUInt32 &&& Int32.toUInt32 31)).toInt32) &&& (1431655765))) &&& (858993459)) + (((((x) - ((((x).toUInt32 >>> ((nI (1)).toUInt32 &&& Int32.toUInt32 31)).toInt32) &&& (1431655765))).toUInt32 >>> ((nI (2)).toUInt32 &&& Int32.toUInt32 31)).toInt32) &&& (858993459))) + ((((((x) - ((((x).toUInt32 >>> ((nI (1)).toUInt32 &&& Int32.toUInt32 31)).toInt32) &&& (1431655765))) &&& (858993459)) + (((((x) - ((((x).toUInt32 >>> ((nI (1)).toUInt32 &&& Int32.toUInt32 31)).toInt32) &&& (1431655765))).toUInt32 >>> ((nI (2)).toUInt32 &&& Int32.toUInt32 31)).toInt32) &&& (858993459))).toUInt32 >>> ((nI (4)).toUInt32 &&& Int32.toUInt32 31)).toInt32)) &&& (252645135)))]) rfl (fun _ _ _ => rfl) rfl (Nat.le_of_ble_eq_true rfl) rfl ?_
  refine wn_ld (pc' := 35) (q := 0) (kin := 0) (v := .int ((((((x) - ((((x).toUInt32 >>> ((nI (1)).toUInt32 &&& Int32.toUInt32 31)).toInt32) &&& (1431655765))) &&& (858993459)) + (((((x) - ((((x).toUInt32 >>> ((nI (1)).toUInt32 &&& Int32.toUInt32 31)).toInt32) &&& (1431655765))).toUInt32 >>> ((nI (2)).toUInt32 &&& Int32.toUInt32 31)).toInt32) &&& (858993459))) + ((((((x) - ((((x).toUInt32 >>> ((nI (1)).toUInt32 &&& Int32.toUInt32 31)).toInt32) &&& (1431655765))) &&& (858993459)) + (((((x) - ((((x).toUInt32 >>> ((nI (1)).toUInt32 &&& Int32.toUInt32 31)).toInt32) &&& (1431655765))).toUInt32 >>> ((nI (2)).toUInt32 &&& Int32.toUInt32 31)).toInt32) &&& (858993459))).toUInt32 >>> ((nI (4)).toUInt32 &&& Int32.toUInt32 31)).toInt32)) &&& (252645135))) rfl (fun _ _ _ => rfl) rfl rfl ?_
  refine wn_ld (pc' := 36) (q := 0) (kin := 0) (v := .int ((((((x) - ((((x).toUInt32 >>> ((nI (1)).toUInt32 &&& Int32.toUInt32 31)).toInt32) &&& (1431655765))) &&& (858993459)) + (((((x) - ((((x).toUInt32 >>> ((nI (1)).toUInt32 &&& Int32.toUInt32 31)).toInt32) &&& (1431655765))).toUInt32 >>> ((nI (2)).toUInt32 &&& Int32.toUInt32 31)).toInt32) &&& (858993459))) + ((((((x) - ((((x).toUInt32 >>> ((nI (1)).toUInt32 &&& Int32.toUInt32 31)).toInt32) &&& (1431655765))) &&& (858993459)) + (((((x) - ((((x).toUInt32 >>> ((nI (1)).toUInt32 &&& Int32.toUInt32 31)).toInt32) &&& (1431655765))).toUInt32 >>> ((nI (2)).toUInt32 &&& Int32.toUInt32 31)).toInt32) &&& (858993459))).toUInt32 >>> ((nI (4)).toUInt32 &&& Int32.toUInt32 31)).toInt32)) &&& (252645135))) rfl (fun _ _ _ => rfl) rfl rfl ?_
  refine wn_bp (pc' := 38) (w := nI 8) rfl rfl (by decide) ?_
  refine wn_pu (pc' := 39) (st' := [.int ((((((((x) - ((((x).toUInt32 >>> ((nI (1)).toUInt32 &&& Int32.toUInt32 31)).toInt32) &&& (1431655765))) &&& (858993459)) + (((((x) - ((((x).toUInt32 >>> ((nI (1)).toUInt32 &&& Int32.toUInt32 31)).toInt32) &&& (1431655765))).toUInt32 >>> ((nI (2)).toUInt32 &&& Int32.toUInt32 31)).toInt32) &&& (858993459))) + ((((((x) - ((((x).toUInt32 >>> ((nI (1)).toUInt32 &&& Int32.toUInt32 31)).toInt32) &&& (1431655765))) &&& (858993459)) + (((((x) - ((((x).toUInt32 >>> ((nI (1)).toUInt32 &&& Int32.toUInt32 31)).toInt32) &&& (1431655765))).toUInt32 >>> ((nI (2)).toUInt32 &&& Int32.toUInt32 31)).toInt32) &&& (858993459))).toUInt32 >>> ((nI (4)).toUInt32 &&& Int32.toUInt32 31)).toInt32)) &&& (252645135)).toUInt32 >>> ((nI (8)).toUInt32 &&& Int32.toUInt32 31)).toInt32), .int ((((((x) - ((((x).toUInt32 >>> ((nI (1)).toUInt32 &&& Int32.toUInt32 31)).toInt32) &&& (1431655765))) &&& (858993459)) + (((((x) - ((((x).toUInt32 >>> ((nI (1)).toUInt32 &&& Int32.toUInt32 31)).toInt32) &&& (1431655765))).toUInt32 >>> ((nI (2)).toUInt32 &&& Int32.toUInt32 31)).toInt32) &&& (858993459))) + ((((((x) - ((((x).toUInt32 >>> ((nI (1)).toUInt32 &&& Int32.toUInt32 31)).toInt32) &&& (1431655765))) &&& (858993459)) + (((((x) - ((((x).toUInt32 >>> ((nI (1)).toUInt32 &&& Int32.toUInt32 31)).toInt32) &&& (1431655765))).toUInt32 >>> ((nI (2)).toUInt32 &&& Int32.toUInt32 31)).toInt32) &&& (858993459))).toUInt32 >>> ((nI (4)).toUInt32 &&& Int32.toUInt32 31)).toInt32)) &&& (252645135))]) rfl (fun _ _ _ => rfl) rfl rfl ?_
  refine wn_pu (pc' := 40) (st' := [.int (((((((x) - ((((x).toUInt32 >>> ((nI (1)).toUInt32 &&& Int32.toUInt32 31)).toInt32) &&& (1431655765))) &&& (858993459)) + (((((x) - ((((x).toUInt32 >>> ((nI (1)).toUInt32 &&& Int32.toUInt32 31)).toInt32) &&& (1431655765))).toUInt32 >>> ((nI (2)).toUInt32 &&& Int32.toUInt32 31)).toInt32) &&& (858993459))) + ((((((x) - ((((x).toUInt32 >>> ((nI (1)).toUInt32 &&& Int32.toUInt32 31)).toInt32) &&& (1431655765))) &&& (858993459)) + (((((x) - ((((x).toUInt32 >>> ((nI (1)).toUInt32 &&& Int32.toUInt32 31)).toInt32) &&& (1431655765))).toUInt32 >>> ((nI (2)).toUInt32 &&& Int32.toUInt32 31)).toInt32) &&& (858993459))).toUInt32 >>> ((nI (4)).toUInt32 &&& Int32.toUInt32 31)).toInt32)) &&& (252645135)) + ((((((((x) - ((((x).toUInt32 >>> ((nI (1)).toUInt32 &&& Int32.toUInt32 31)).toInt32) &&& (1431655765))) &&& (858993459)) + (((((x) - ((((x).toUInt32 >>> ((nI (1)).toUInt32 &&& Int32.toUInt32 31)).toInt32) &&& (1431655765))).toUInt32 >>> ((nI (2)).toUInt32 &&& Int32.toUInt32 31)).toInt32) &&& (858993459))) + ((((((x) - ((((x).toUInt32 >>> ((nI (1)).toUInt32 &&& Int32.toUInt32 31)).toInt32) &&& (1431655765))) &&& (858993459)) + (((((x) - ((((x).toUInt32 >>> ((nI (1)).toUInt32 &&& Int32.toUInt32 31)).toInt32) &&& (1431655765))).toUInt32 >>> ((nI (2)).toUInt32 &&& Int32.toUInt32 31)).toInt32) &&& (858993459))).toUInt32 >>> ((nI (4)).toUInt32 &&& Int32.toUInt32 31)).toInt32)) &&& (252645135)).toUInt32 >>> ((nI (8)).toUInt32 &&& Int32.toUInt32 31)).toInt32))]) rfl (fun _ _ _ => rfl) rfl rfl ?_
  refine wn_st (pc' := 41) (q := 0) (kin := 0) (lv' := [(0, .int (((((((x) - ((((x).toUInt32 >>> ((nI (1)).toUInt32 &&& Int32.toUInt32 31)).toInt32) &&& (1431655765))) &&& (858993459)) + (((((x) - ((((x).toUInt32 >>> ((nI (1)).toUInt32 &&& Int32.toUInt32 31)).toInt32) &&& (1431655765))).toUInt32 >>> ((nI (2)).toUInt32 &&& Int32.toUInt32 31)).toInt32) &&& (858993459))) + ((((((x) - ((((x).toUInt32 >>> ((nI (1)).toUInt32 &&& Int32.toUInt32 31)).toInt32) &&& (1431655765))) &&& (858993459)) + (((((x) - ((((x).toUInt32 >>> ((nI (1)).toUInt32 &&& Int32.toUInt32 31)).toInt32) &&& (1431655765))).toUInt32 >>> ((nI (2)).toUInt32 &&& Int32.toUInt32 31)).toInt32) &&& (858993459))).toUInt32 >>> ((nI (4)).toUInt32 &&& Int32.toUInt32 31)).toInt32)) &&& (252645135)) + ((((((((x) - ((((x).toUInt32 >>> ((nI (1)).toUInt32 &&& Int32.toUInt32 31)).toInt32) &&& (1431655765))) &&& (858993459)) + (((((x) - ((((x).toUInt32 >>> ((nI (1)).toUInt32 &&& Int32.toUInt32 31)).toInt32) &&& (1431655765))).toUInt32 >>> ((nI (2)).toUInt32 &&& Int32.toUInt32 31)).toInt32) &&& (858993459))) + ((((((x) - ((((x).toUInt32 >>> ((nI (1)).toUInt32 &&& Int32.toUInt32 31)).toInt32) &&& (1431655765))) &&& (858993459)) + (((((x) - ((((x).toUInt32 >>> ((nI (1)).toUInt32 &&& Int32.toUInt32 31)).toInt32) &&& (1431655765))).toUInt32 >>> ((nI (2)).toUInt32 &&& Int32.toUInt32 31)).toInt32) &&& (858993459))).toUInt32 >>> ((nI (4)).toUInt32 &&& Int32.toUInt32 31)).toInt32)) &&& (252645135)).toUInt32 >>> ((nI (8)).toUInt32 &&& Int32.toUInt32 31)).toInt32)))]) rfl (fun _ _ _ => rfl) rfl (Nat.le_of_ble_eq_true rfl) rfl ?_
  refine wn_ld (pc' := 42) (q := 0) (kin := 0) (v := .int (((((((x) - ((((x).toUInt32 >>> ((nI (1)).toUInt32 &&& Int32.toUInt32 31)).toInt32) &&& (1431655765))) &&& (858993459)) + (((((x) - ((((x).toUInt32 >>> ((nI (1)).toUInt32 &&& Int32.toUInt32 31)).toInt32) &&& (1431655765))).toUInt32 >>> ((nI (2)).toUInt32 &&& Int32.toUInt32 31)).toInt32) &&& (858993459))) + ((((((x) - ((((x).toUInt32 >>> ((nI (1)).toUInt32 &&& Int32.toUInt32 31)).toInt32) &&& (1431655765))) &&& (858993459)) + (((((x) - ((((x).toUInt32 >>> ((nI (1)).toUInt32 &&& Int32.toUInt32 31)).toInt32) &&& (1431655765))).toUInt32 >>> ((nI (2)).toUInt32 &&& Int32.toUInt32 31)).toInt32) &&& (858993459))).toUInt32 >>> ((nI (4)).toUInt32 &&& Int32.toUInt32 31)).toInt32)) &&& (252645135)) + ((((((((x) - ((((x).toUInt32 >>> ((nI (1)).toUInt32 &&& Int32.toUInt32 31)).toInt32) &&& (1431655765))) &&& (858993459)) + (((((x) - ((((x).toUInt32 >>> ((nI (1)).toUInt32 &&& Int32.toUInt32 31)).toInt32) &&& (1431655765))).toUInt32 >>> ((nI (2)).toUInt32 &&& Int32.toUInt32 31)).toInt32) &&& (858993459))) + ((((((x) - ((((x).toUInt32 >>> ((nI (1)).toUInt32 &&& Int32.toUInt32 31)).toInt32) &&& (1431655765))) &&& (858993459)) + (((((x) - ((((x).toUInt32 >>> ((nI (1)).toUInt32 &&& Int32.toUInt32 31)).toInt32) &&& (1431655765))).toUInt32 >>> ((nI (2)).toUInt32 &&& Int32.toUInt32 31)).toInt32) &&& (858993459))).toUInt32 >>> ((nI (4)).toUInt32 &&& Int32.toUInt32 31)).toInt32)) &&& (252645135)).toUInt32 >>> ((nI (8)).toUInt32 &&& Int32.toUInt32 31)).toInt32))) rfl (fun _ _ _ => rfl) rfl rfl ?_
  refine wn_ld (pc' := 43) (q := 0) (kin := 0) (v := .int (((((((x) - ((((x).toUInt32 >>> ((nI (1)).toUInt32 &&& Int32.toUInt32 31)).toInt32) &&& (1431655765))) &&& (858993459)) + (((((x) - ((((x).toUInt32 >>> ((nI (1)).toUInt32 &&& Int32.toUInt32 31)).toInt32) &&& (1431655765))).toUInt32 >>> ((nI (2)).toUInt32 &&& Int32.toUInt32 31)).toInt32) &&& (858993459))) + ((((((x) - ((((x).toUInt32 >>> ((nI (1)).toUInt32 &&& Int32.toUInt32 31)).toInt32) &&& (1431655765))) &&& (858993459)) + (((((x) - ((((x).toUInt32 >>> ((nI (1)).toUInt32 &&& Int32.toUInt32 31)).toInt32) &&& (1431655765))).toUInt32 >>> ((nI (2)).toUInt32 &&& Int32.toUInt32 31)).toInt32) &&& (858993459))).toUInt32 >>> ((nI (4)).toUInt32 &&& Int32.toUInt32 31)).toInt32)) &&& (252645135)) + ((((((((x) - ((((x).toUInt32 >>> ((nI (1)).toUInt32 &&& Int32.toUInt32 31)).toInt32) &&& (1431655765))) &&& (858993459)) + (((((x) - ((((x).toUInt32 >>> ((nI (1)).toUInt32 &&& Int32.toUInt32 31)).toInt32) &&& (1431655765))).toUInt32 >>> ((nI (2)).toUInt32 &&& Int32.toUInt32 31)).toInt32) &&& (858993459))) + ((((((x) - ((((x).toUInt32 >>> ((nI (1)).toUInt32 &&& Int32.toUInt32 31)).toInt32) &&& (1431655765))) &&& (858993459)) + (((((x) - ((((x).toUInt32 >>> ((nI (1)).toUInt32 &&& Int32.toUInt32 31)).toInt32) &&& (1431655765))).toUInt32 >>> ((nI (2)).toUInt32 &&& Int32.toUInt32 31)).toInt32) &&& (858993459))).toUInt32 >>> ((nI (4)).toUInt32 &&& Int32.toUInt32 31)).toInt32)) &&& (252645135)).toUInt32 >>> ((nI (8)).toUInt32 &&& Int32.toUInt32 31)).toInt32))) rfl (fun _ _ _ => rfl) rfl rfl ?_
  refine wn_bp (pc' := 45) (w := nI 16) rfl rfl (by decide) ?_
  refine wn_pu (pc' := 46) (st' := [.int (((((((((x) - ((((x).toUInt32 >>> ((nI (1)).toUInt32 &&& Int32.toUInt32 31)).toInt32) &&& (1431655765))) &&& (858993459)) + (((((x) - ((((x).toUInt32 >>> ((nI (1)).toUInt32 &&& Int32.toUInt32 31)).toInt32) &&& (1431655765))).toUInt32 >>> ((nI (2)).toUInt32 &&& Int32.toUInt32 31)).toInt32) &&& (858993459))) + ((((((x) - ((((x).toUInt32 >>> ((nI (1)).toUInt32 &&& Int32.toUInt32 31)).toInt32) &&& (1431655765))) &&& (858993459)) + (((((x) - ((((x).toUInt32 >>> ((nI (1)).toUInt32 &&& Int32.toUInt32 31)).toInt32) &&& (1431655765))).toUInt32 >>> ((nI (2)).toUInt32 &&& Int32.toUInt32 31)).toInt32) &&& (858993459))).toUInt32 >>> ((nI (4)).toUInt32 &&& Int32.toUInt32 31)).toInt32)) &&& (252645135)) + ((((((((x) - ((((x).toUInt32 >>> ((nI (1)).toUInt32 &&& Int32.toUInt32 31)).toInt32) &&& (1431655765))) &&& (858993459)) + (((((x) - ((((x).toUInt32 >>> ((nI (1)).toUInt32 &&& Int32.toUInt32 31)).toInt32) &&& (1431655765))).toUInt32 >>> ((nI (2)).toUInt32 &&& Int32.toUInt32 31)).toInt32) &&& (858993459))) + ((((((x) - ((((x).toUInt32 >>> ((nI (1)).toUInt32 &&& Int32.toUInt32 31)).toInt32) &&& (1431655765))) &&& (858993459)) + (((((x) - ((((x).toUInt32 >>> ((nI (1)).toUInt32 &&& Int32.toUInt32 31)).toInt32) &&& (1431655765))).toUInt32 >>> ((nI (2)).toUInt32 &&& Int32.toUInt32 31)).toInt32) &&& (858993459))).toUInt32 >>> ((nI (4)).toUInt32 &&& Int32.toUInt32 31)).toInt32)) &&& (252645135)).toUInt32 >>> ((nI (8)).toUInt32 &&& Int32.toUInt32 31)).toInt32)).toUInt32 >>> ((nI (16)).toUInt32 &&& Int32.toUInt32 31)).toInt32), .int (((((((x) - ((((x).toUInt32 >>> ((nI (1)).toUInt32 &&& Int32.toUInt32 31)).toInt32) &&& (1431655765))) &&& (858993459)) + (((((x) - ((((x).toUInt32 >>> ((nI (1)).toUInt32 &&& Int32.toUInt32 31)).toInt32) &&& (1431655765))).toUInt32 >>> ((nI (2)).toUInt32 &&& Int32.toUInt32 31)).toInt32) &&& (858993459))) + ((((((x) - ((((x).toUInt32 >>> ((nI (1)).toUInt32 &&& Int32.toUInt32 31)).toInt32) &&& (1431655765))) &&& (858993459)) + (((((x) - ((((x).toUInt32 >>> ((nI (1)).toUInt32 &&& Int32.toUInt32 31)).toInt32) &&& (1431655765))).toUInt32 >>> ((nI (2)).toUInt32 &&& Int32.toUInt32 31)).toInt32) &&& (858993459))).toUInt32 >>> ((nI (4)).toUInt32 &&& Int32.toUInt32 31)).toInt32)) &&& (252645135)) + ((((((((x) - ((((x).toUInt32 >>> ((nI (1)).toUInt32 &&& Int32.toUInt32 31)).toInt32) &&& (1431655765))) &&& (858993459)) + (((((x) - ((((x).toUInt32 >>> ((nI (1)).toUInt32 &&& Int32.toUInt32 31)).toInt32) &&& (1431655765))).toUInt32 >>> ((nI (2)).toUInt32 &&& Int32.toUInt32 31)).toInt32) &&& (858993459))) + ((((((x) - ((((x).toUInt32 >>> ((nI (1)).toUInt32 &&& Int32.toUInt32 31)).toInt32) &&& (1431655765))) &&& (858993459)) + (((((x) - ((((x).toUInt32 >>> ((nI (1)).toUInt32 &&& Int32.toUInt32 31)).toInt32) &&& (1431655765))).toUInt32 >>> ((nI (2)).toUInt32 &&& Int32.toUInt32 31)).toInt32) &&& (858993459))).toUInt32 >>> ((nI (4)).toUInt32 &&& Int32.toUInt32 31)).toInt32)) &&& (252645135)).toUInt32 >>> ((nI (8)).toUInt32 &&& Int32.toUInt32 31)).toInt32))]) rfl (fun _ _ _ => rfl) rfl rfl ?_
  refine wn_pu (pc' := 47) (st' := [.int ((((((((x) - ((((x).toUInt32 >>> ((nI (1)).toUInt32 &&& Int32.toUInt32 31)).toInt32) &&& (1431655765))) &&& (858993459)) + (((((x) - ((((x).toUInt32 >>> ((nI (1)).toUInt32 &&& Int32.toUInt32 31)).toInt32) &&& (1431655765))).toUInt32 >>> ((nI (2)).toUInt32 &&& Int32.toUInt32 31)).toInt32) &&& (858993459))) + ((((((x) - ((((x).toUInt32 >>> ((nI (1)).toUInt32 &&& Int32.toUInt32 31)).toInt32) &&& (1431655765))) &&& (858993459)) + (((((x) - ((((x).toUInt32 >>> ((nI (1)).toUInt32 &&& Int32.toUInt32 31)).toInt32) &&& (1431655765))).toUInt32 >>> ((nI (2)).toUInt32 &&& Int32.toUInt32 31)).toInt32) &&& (858993459))).toUInt32 >>> ((nI (4)).toUInt32 &&& Int32.toUInt32 31)).toInt32)) &&& (252645135)) + ((((((((x) - ((((x).toUInt32 >>> ((nI (1)).toUInt32 &&& Int32.toUInt32 31)).toInt32) &&& (1431655765))) &&& (858993459)) + (((((x) - ((((x).toUInt32 >>> ((nI (1)).toUInt32 &&& Int32.toUInt32 31)).toInt32) &&& (1431655765))).toUInt32 >>> ((nI (2)).toUInt32 &&& Int32.toUInt32 31)).toInt32) &&& (858993459))) + ((((((x) - ((((x).toUInt32 >>> ((nI (1)).toUInt32 &&& Int32.toUInt32 31)).toInt32) &&& (1431655765))) &&& (858993459)) + (((((x) - ((((x).toUInt32 >>> ((nI (1)).toUInt32 &&& Int32.toUInt32 31)).toInt32) &&& (1431655765))).toUInt32 >>> ((nI (2)).toUInt32 &&& Int32.toUInt32 31)).toInt32) &&& (858993459))).toUInt32 >>> ((nI (4)).toUInt32 &&& Int32.toUInt32 31)).toInt32)) &&& (252645135)).toUInt32 >>> ((nI (8)).toUInt32 &&& Int32.toUInt32 31)).toInt32)) + (((((((((x) - ((((x).toUInt32 >>> ((nI (1)).toUInt32 &&& Int32.toUInt32 31)).toInt32) &&& (1431655765))) &&& (858993459)) + (((((x) - ((((x).toUInt32 >>> ((nI (1)).toUInt32 &&& Int32.toUInt32 31)).toInt32) &&& (1431655765))).toUInt32 >>> ((nI (2)).toUInt32 &&& Int32.toUInt32 31)).toInt32) &&& (858993459))) + ((((((x) - ((((x).toUInt32 >>> ((nI (1)).toUInt32 &&& Int32.toUInt32 31)).toInt32) &&& (1431655765))) &&& (858993459)) + (((((x) - ((((x).toUInt32 >>> ((nI (1)).toUInt32 &&& Int32.toUInt32 31)).toInt32) &&& (1431655765))).toUInt32 >>> ((nI (2)).toUInt32 &&& Int32.toUInt32 31)).toInt32) &&& (858993459))).toUInt32 >>> ((nI (4)).toUInt32 &&& Int32.toUInt32 31)).toInt32)) &&& (252645135)) + ((((((((x) - ((((x).toUInt32 >>> ((nI (1)).toUInt32 &&& Int32.toUInt32 31)).toInt32) &&& (1431655765))) &&& (858993459)) + (((((x) - ((((x).toUInt32 >>> ((nI (1)).toUInt32 &&& Int32.toUInt32 31)).toInt32) &&& (1431655765))).toUInt32 >>> ((nI (2)).toUInt32 &&& Int32.toUInt32 31)).toInt32) &&& (858993459))) + ((((((x) - ((((x).toUInt32 >>> ((nI (1)).toUInt32 &&& Int32.toUInt32 31)).toInt32) &&& (1431655765))) &&& (858993459)) + (((((x) - ((((x).toUInt32 >>> ((nI (1)).toUInt32 &&& Int32.toUInt32 31)).toInt32) &&& (1431655765))).toUInt32 >>> ((nI (2)).toUInt32 &&& Int32.toUInt32 31)).toInt32) &&& (858993459))).toUInt32 >>> ((nI (4)).toUInt32 &&& Int32.toUInt32 31)).toInt32)) &&& (252645135)).toUInt32 >>> ((nI (8)).toUInt32 &&& Int32.toUInt32 31)).toInt32)).toUInt32 >>> ((nI (16)).toUInt32 &&& Int32.toUInt32 31)).toInt32))]) rfl (fun _ _ _ => rfl) rfl rfl ?_
  refine wn_st (pc' := 48) (q := 0) (kin := 0) (lv' := [(0, .int ((((((((x) - ((((x).toUInt32 >>> ((nI (1)).toUInt32 &&& Int32.toUInt32 31)).toInt32) &&& (1431655765))) &&& (858993459)) + (((((x) - ((((x).toUInt32 >>> ((nI (1)).toUInt32 &&& Int32.toUInt32 31)).toInt32) &&& (1431655765))).toUInt32 >>> ((nI (2)).toUInt32 &&& Int32.toUInt32 31)).toInt32) &&& (858993459))) + ((((((x) - ((((x).toUInt32 >>> ((nI (1)).toUInt32 &&& Int32.toUInt32 31)).toInt32) &&& (1431655765))) &&& (858993459)) + (((((x) - ((((x).toUInt32 >>> ((nI (1)).toUInt32 &&& Int32.toUInt32 31)).toInt32) &&& (1431655765))).toUInt32 >>> ((nI (2)).toUInt32 &&& Int32.toUInt32 31)).toInt32) &&& (858993459))).toUInt32 >>> ((nI (4)).toUInt32 &&& Int32.toUInt32 31)).toInt32)) &&& (252645135)) + ((((((((x) - ((((x).toUInt32 >>> ((nI (1)).toUInt32 &&& Int32.toUInt32 31)).toInt32) &&& (1431655765))) &&& (858993459)) + (((((x) - ((((x).toUInt32 >>> ((nI (1)).toUInt32 &&& Int32.toUInt32 31)).toInt32) &&& (1431655765))).toUInt32 >>> ((nI (2)).toUInt32 &&& Int32.toUInt32 31)).toInt32) &&& (858993459))) + ((((((x) - ((((x).toUInt32 >>> ((nI (1)).toUInt32 &&& Int32.toUInt32 31)).toInt32) &&& (1431655765))) &&& (858993459)) + (((((x) - ((((x).toUInt32 >>> ((nI (1)).toUInt32 &&& Int32.toUInt32 31)).toInt32) &&& (1431655765))).toUInt32 >>> ((nI (2)).toUInt32 &&& Int32.toUInt32 31)).toInt32) &&& (858993459))).toUInt32 >>> ((nI (4)).toUInt32 &&& Int32.toUInt32 31)).toInt32)) &&& (252645135)).toUInt32 >>> ((nI (8)).toUInt32 &&& Int32.toUInt32 31)).toInt32)) + (((((((((x) - ((((x).toUInt32 >>> ((nI (1)).toUInt32 &&& Int32.toUInt32 31)).toInt32) &&& (1431655765))) &&& (858993459)) + (((((x) - ((((x).toUInt32 >>> ((nI (1)).toUInt32 &&& Int32.toUInt32 31)).toInt32) &&& (1431655765))).toUInt32 >>> ((nI (2)).toUInt32 &&& Int32.toUInt32 31)).toInt32) &&& (858993459))) + ((((((x) - ((((x).toUInt32 >>> ((nI (1)).toUInt32 &&& Int32.toUInt32 31)).toInt32) &&& (1431655765))) &&& (858993459)) + (((((x) - ((((x).toUInt32 >>> ((nI (1)).toUInt32 &&& Int32.toUInt32 31)).toInt32) &&& (1431655765))).toUInt32 >>> ((nI (2)).toUInt32 &&& Int32.toUInt32 31)).toInt32) &&& (858993459))).toUInt32 >>> ((nI (4)).toUInt32 &&& Int32.toUInt32 31)).toInt32)) &&& (252645135)) + ((((((((x) - ((((x).toUInt32 >>> ((nI (1)).toUInt32 &&& Int32.toUInt32 31)).toInt32) &&& (1431655765))) &&& (858993459)) + (((((x) - ((((x).toUInt32 >>> ((nI (1)).toUInt32 &&& Int32.toUInt32 31)).toInt32) &&& (1431655765))).toUInt32 >>> ((nI (2)).toUInt32 &&& Int32.toUInt32 31)).toInt32) &&& (858993459))) + ((((((x) - ((((x).toUInt32 >>> ((nI (1)).toUInt32 &&& Int32.toUInt32 31)).toInt32) &&& (1431655765))) &&& (858993459)) + (((((x) - ((((x).toUInt32 >>> ((nI (1)).toUInt32 &&& Int32.toUInt32 31)).toInt32) &&& (1431655765))).toUInt32 >>> ((nI (2)).toUInt32 &&& Int32.toUInt32 31)).toInt32) &&& (858993459))).toUInt32 >>> ((nI (4)).toUInt32 &&& Int32.toUInt32 31)).toInt32)) &&& (252645135)).toUInt32 >>> ((nI (8)).toUInt32 &&& Int32.toUInt32 31)).toInt32)).toUInt32 >>> ((nI (16)).toUInt32 &&& Int32.toUInt32 31)).toInt32)))]) rfl (fun _ _ _ => rfl) rfl (Nat.le_of_ble_eq_true rfl) rfl ?_
  refine wn_ld (pc' := 49) (q := 0) (kin := 0) (v := .int ((((((((x) - ((((x).toUInt32 >>> ((nI (1)).toUInt32 &&& Int32.toUInt32 31)).toInt32) &&& (1431655765))) &&& (858993459)) + (((((x) - ((((x).toUInt32 >>> ((nI (1)).toUInt32 &&& Int32.toUInt32 31)).toInt32) &&& (1431655765))).toUInt32 >>> ((nI (2)).toUInt32 &&& Int32.toUInt32 31)).toInt32) &&& (858993459))) + ((((((x) - ((((x).toUInt32 >>> ((nI (1)).toUInt32 &&& Int32.toUInt32 31)).toInt32) &&& (1431655765))) &&& (858993459)) + (((((x) - ((((x).toUInt32 >>> ((nI (1)).toUInt32 &&& Int32.toUInt32 31)).toInt32) &&& (1431655765))).toUInt32 >>> ((nI (2)).toUInt32 &&& Int32.toUInt32 31)).toInt32) &&& (858993459))).toUInt32 >>> ((nI (4)).toUInt32 &&& Int32.toUInt32 31)).toInt32)) &&& (252645135)) + ((((((((x) - ((((x).toUInt32 >>> ((nI (1)).toUInt32 &&& Int32.toUInt32 31)).toInt32) &&& (1431655765))) &&& (858993459)) + (((((x) - ((((x).toUInt32 >>> ((nI (1)).toUInt32 &&& Int32.toUInt32 31)).toInt32) &&& (1431655765))).toUInt32 >>> ((nI (2)).toUInt32 &&& Int32.toUInt32 31)).toInt32) &&& (858993459))) + ((((((x) - ((((x).toUInt32 >>> ((nI (1)).toUInt32 &&& Int32.toUInt32 31)).toInt32) &&& (1431655765))) &&& (858993459)) + (((((x) - ((((x).toUInt32 >>> ((nI (1)).toUInt32 &&& Int32.toUInt32 31)).toInt32) &&& (1431655765))).toUInt32 >>> ((nI (2)).toUInt32 &&& Int32.toUInt32 31)).toInt32) &&& (858993459))).toUInt32 >>> ((nI (4)).toUInt32 &&& Int32.toUInt32 31)).toInt32)) &&& (252645135)).toUInt32 >>> ((nI (8)).toUInt32 &&& Int32.toUInt32 31)).toInt32)) + (((((((((x) - ((((x).toUInt32 >>> ((nI (1)).toUInt32 &&& Int32.toUInt32 31)).toInt32) &&& (1431655765))) &&& (858993459)) + (((((x) - ((((x).toUInt32 >>> ((nI (1)).toUInt32 &&& Int32.toUInt32 31)).toInt32) &&& (1431655765))).toUInt32 >>> ((nI (2)).toUInt32 &&& Int32.toUInt32 31)).toInt32) &&& (858993459))) + ((((((x) - ((((x).toUInt32 >>> ((nI (1)).toUInt32 &&& Int32.toUInt32 31)).toInt32) &&& (1431655765))) &&& (858993459)) + (((((x) - ((((x).toUInt32 >>> ((nI (1)).toUInt32 &&& Int32.toUInt32 31)).toInt32) &&& (1431655765))).toUInt32 >>> ((nI (2)).toUInt32 &&& Int32.toUInt32 31)).toInt32) &&& (858993459))).toUInt32 >>> ((nI (4)).toUInt32 &&& Int32.toUInt32 31)).toInt32)) &&& (252645135)) + ((((((((x) - ((((x).toUInt32 >>> ((nI (1)).toUInt32 &&& Int32.toUInt32 31)).toInt32) &&& (1431655765))) &&& (858993459)) + (((((x) - ((((x).toUInt32 >>> ((nI (1)).toUInt32 &&& Int32.toUInt32 31)).toInt32) &&& (1431655765))).toUInt32 >>> ((nI (2)).toUInt32 &&& Int32.toUInt32 31)).toInt32) &&& (858993459))) + ((((((x) - ((((x).toUInt32 >>> ((nI (1)).toUInt32 &&& Int32.toUInt32 31)).toInt32) &&& (1431655765))) &&& (858993459)) + (((((x) - ((((x).toUInt32 >>> ((nI (1)).toUInt32 &&& Int32.toUInt32 31)).toInt32) &&& (1431655765))).toUInt32 >>> ((nI (2)).toUInt32 &&& Int32.toUInt32 31)).toInt32) &&& (858993459))).toUInt32 >>> ((nI (4)).toUInt32 &&& Int32.toUInt32 31)).toInt32)) &&& (252645135)).toUInt32 >>> ((nI (8)).toUInt32 &&& Int32.toUInt32 31)).toInt32)).toUInt32 >>> ((nI (16)).toUInt32 &&& Int32.toUInt32 31)).toInt32))) rfl (fun _ _ _ => rfl) rfl rfl ?_
  refine wn_bp (pc' := 51) (w := nI 63) rfl rfl (by decide) ?_
  refine wn_pu (pc' := 52) (st' := [.int (((((((((x) - ((((x).toUInt32 >>> ((nI (1)).toUInt32 &&& Int32.toUInt32 31)).toInt32) &&& (1431655765))) &&& (858993459)) + (((((x) - ((((x).toUInt32 >>> ((nI (1)).toUInt32 &&& Int32.toUInt32 31)).toInt32) &&& (1431655765))).toUInt32 >>> ((nI (2)).toUInt32 &&& Int32.toUInt32 31)).toInt32) &&& (858993459))) + ((((((x) - ((((x).toUInt32 >>> ((nI (1)).toUInt32 &&& Int32.toUInt32 31)).toInt32) &&& (1431655765))) &&& (858993459)) + (((((x) - ((((x).toUInt32 >>> ((nI (1)).toUInt32 &&& Int32.toUInt32 31)).toInt32) &&& (1431655765))).toUInt32 >>> ((nI (2)).toUInt32 &&& Int32.toUInt32 31)).toInt32) &&& (858993459))).toUInt32 >>> ((nI (4)).toUInt32 &&& Int32.toUInt32 31)).toInt32)) &&& (252645135)) + ((((((((x) - ((((x).toUInt32 >>> ((nI (1)).toUInt32 &&& Int32.toUInt32 31)).toInt32) &&& (1431655765))) &&& (858993459)) + (((((x) - ((((x).toUInt32 >>> ((nI (1)).toUInt32 &&& Int32.toUInt32 31)).toInt32) &&& (1431655765))).toUInt32 >>> ((nI (2)).toUInt32 &&& Int32.toUInt32 31)).toInt32) &&& (858993459))) + ((((((x) - ((((x).toUInt32 >>> ((nI (1)).toUInt32 &&& Int32.toUInt32 31)).toInt32) &&& (1431655765))) &&& (858993459)) + (((((x) - ((((x).toUInt32 >>> ((nI (1)).toUInt32 &&& Int32.toUInt32 31)).toInt32) &&& (1431655765))).toUInt32 >>> ((nI (2)).toUInt32 &&& Int32.toUInt32 31)).toInt32) &&& (858993459))).toUInt32 >>> ((nI (4)).toUInt32 &&& Int32.toUInt32 31)).toInt32)) &&& (252645135)).toUInt32 >>> ((nI (8)).toUInt32 &&& Int32.toUInt32 31)).toInt32)) + (((((((((x) - ((((x).toUInt32 >>> ((nI (1)).toUInt32 &&& Int32.toUInt32 31)).toInt32) &&& (1431655765))) &&& (858993459)) + (((((x) - ((((x).toUInt32 >>> ((nI (1)).toUInt32 &&& Int32.toUInt32 31)).toInt32) &&& (1431655765))).toUInt32 >>> ((nI (2)).toUInt32 &&& Int32.toUInt32 31)).toInt32) &&& (858993459))) + ((((((x) - ((((x).toUInt32 >>> ((nI (1)).toUInt32 &&& Int32.toUInt32 31)).toInt32) &&& (1431655765))) &&& (858993459)) + (((((x) - ((((x).toUInt32 >>> ((nI (1)).toUInt32 &&& Int32.toUInt32 31)).toInt32) &&& (1431655765))).toUInt32 >>> ((nI (2)).toUInt32 &&& Int32.toUInt32 31)).toInt32) &&& (858993459))).toUInt32 >>> ((nI (4)).toUInt32 &&& Int32.toUInt32 31)).toInt32)) &&& (252645135)) + ((((((((x) - ((((x).toUInt32 >>> ((nI (1)).toUInt32 &&& Int32.toUInt32 31)).toInt32) &&& (1431655765))) &&& (858993459)) + (((((x) - ((((x).toUInt32 >>> ((nI (1)).toUInt32 &&& Int32.toUInt32 31)).toInt32) &&& (1431655765))).toUInt32 >>> ((nI (2)).toUInt32 &&& Int32.toUInt32 31)).toInt32) &&& (858993459))) + ((((((x) - ((((x).toUInt32 >>> ((nI (1)).toUInt32 &&& Int32.toUInt32 31)).toInt32) &&& (1431655765))) &&& (858993459)) + (((((x) - ((((x).toUInt32 >>> ((nI (1)).toUInt32 &&& Int32.toUInt32 31)).toInt32) &&& (1431655765))).toUInt32 >>> ((nI (2)).toUInt32 &&& Int32.toUInt32 31)).toInt32) &&& (858993459))).toUInt32 >>> ((nI (4)).toUInt32 &&& Int32.toUInt32 31)).toInt32)) &&& (252645135)).toUInt32 >>> ((nI (8)).toUInt32 &&& Int32.toUInt32 31)).toInt32)).toUInt32 >>> ((nI (16)).toUInt32 &&& Int32.toUInt32 31)).toInt32)) &&& (nI (63)))]) rfl (fun _ _ _ => rfl) rfl rfl ?_
  exact wn_iret rfl rfl rfl ⟨rfl, rfl⟩

