/-! RULES: divisions of longs, a truth against 1; PURE: sets as bits, choices, camps, pairs -/
section WN30
variable {C : aC} {i pc : Nat} {lv : aL} {st : List Value} {h : aH} {Q : Option Value → aH → Prop}
theorem wn_ldivN {a b pc' x y : Nat} (hi : ins i pc = some (.ldiv, a, b)) (hn : pc + 1 = pc') (hx : x < 2 ^ 63) (hy : 0 < y) (hy2 : y < 2 ^ 63) (kk : Wn C i pc' lv (.long (lN (x / y)) :: st) h Q) : Wn C i pc lv (.long (lN y) :: .long (lN x) :: st) h Q :=
  wn_ldiv hi hn (fun q => by have e := congrArg Int64.toInt q; rw [pk_lT hy2] at e; have : (0 : Int64).toInt = 0 := by decide
                             omega) (by rw [pk_lDiv hx hy hy2]; exact kk)
theorem wn_lremN {a b pc' x y : Nat} (hi : ins i pc = some (.lrem, a, b)) (hn : pc + 1 = pc') (hx : x < 2 ^ 63) (hy : 0 < y) (hy2 : y < 2 ^ 63) (kk : Wn C i pc' lv (.long (lN (x % y)) :: st) h Q) : Wn C i pc lv (.long (lN y) :: .long (lN x) :: st) h Q :=
  wn_lrem hi hn (fun q => by have e := congrArg Int64.toInt q; rw [pk_lT hy2] at e; have : (0 : Int64).toInt = 0 := by decide
                             omega) (by rw [pk_lRem hx hy hy2]; exact kk)
theorem wn_icneB1 {off : Int} {a b t f : Nat} {p : Prop} (hi : ins i pc = some (.if_icmp .ne off, a, b)) (ht : jmp pc off = t) (hf : pc + 3 = f) (kt : ¬ p → Wn C i t lv st h Q) (kf : p → Wn C i f lv st h Q) : Wn C i pc lv (.int (nI 1) :: .int (bI p) :: st) h Q := by
  refine wn_icmp hi ht hf (fun q => kt (fun hp => ?_)) (fun q => kf ?_)
  · have q : ¬ bI p = nI 1 := q
    exact q (bI_t hp)
  · have q : bI p = nI 1 := q
    by_cases hp : p
    · exact hp
    · rw [bI_f hp] at q; exact absurd q (by decide)
theorem wn_iceqB1 {off : Int} {a b t f : Nat} {p : Prop} (hi : ins i pc = some (.if_icmp .eq off, a, b)) (ht : jmp pc off = t) (hf : pc + 3 = f) (kt : p → Wn C i t lv st h Q) (kf : ¬ p → Wn C i f lv st h Q) : Wn C i pc lv (.int (nI 1) :: .int (bI p) :: st) h Q := by
  refine wn_icmp hi ht hf (fun q => kt ?_) (fun q => kf (fun hp => ?_))
  · have q : bI p = nI 1 := q
    by_cases hp : p
    · exact hp
    · rw [bI_f hp] at q; exact absurd q (by decide)
  · have q : ¬ bI p = nI 1 := q
    exact q (bI_t hp)
theorem wn_lsubN {a b pc' x y : Nat} (hi : ins i pc = some (.lsub, a, b)) (hn : pc + 1 = pc') (hl : y ≤ x) (kk : Wn C i pc' lv (.long (lN (x - y)) :: st) h Q) : Wn C i pc lv (.long (lN y) :: .long (lN x) :: st) h Q := by
  subst hn
  exact wn_go hi (fun K r h1 k9 => ⟨_, rfl, by rw [lN_sub hl]; exact k9⟩) kk
end WN30
theorem cnt_add (p : Nat → Prop) (k : Nat) : nI (cntP p (k + 1)) = nI (cntP p k) + bI (p k) := by
  by_cases q : p k
  · rw [cntP_t q, bI_t q, show (1 : Int32) = nI 1 from rfl, nI_add]
  · rw [cntP_f q, bI_f q]; exact (Int32.add_zero _).symm
/-! how many ways to choose k of n -/
def chs : Nat → Nat → Nat
  | _, 0 => 1
  | 0, _ + 1 => 0
  | n + 1, k + 1 => chs n k + chs n (k + 1)
theorem chs_0 (n : Nat) : chs n 0 = 1 := by cases n <;> rfl
theorem chs_1 (n k : Nat) : chs (n + 1) (k + 1) = chs n k + chs n (k + 1) := rfl
theorem chs_gt : ∀ (n k : Nat), n < k → chs n k = 0
  | 0, 0, h => by omega
  | 0, _ + 1, _ => rfl
  | n + 1, 0, h => by omega
  | n + 1, k + 1, h => by rw [chs_1, chs_gt n k (by omega), chs_gt n (k + 1) (by omega)]
theorem chs_s : ∀ (n i : Nat), (i + 1) * chs n (i + 1) = (n - i) * chs n i
  | 0, i => by
    rw [chs_gt 0 (i + 1) (by omega), show 0 - i = 0 by omega]; omega
  | n + 1, 0 => by
    have e := chs_s n 0
    rw [chs_0] at e
    rw [chs_1, chs_0, chs_0]
    omega
  | n + 1, i + 1 => by
    have e1 := chs_s n i
    have e2 := chs_s n (i + 1)
    by_cases g : i + 1 ≤ n
    · obtain ⟨m, hm⟩ : ∃ m, n = m + (i + 1) := ⟨n - (i + 1), by omega⟩
      rw [show n - i = m + 1 by omega] at e1
      rw [show n - (i + 1) = m by omega] at e2
      rw [chs_1, chs_1, show n + 1 - (i + 1) = m + 1 by omega, Nat.mul_add, Nat.mul_add, e2, ← e1, show i + 1 + 1 = (i + 1) + 1 from rfl, Nat.add_mul (i + 1) 1, Nat.add_mul m 1]
      omega
    · rw [chs_gt (n + 1) (i + 1 + 1) (by omega), show n + 1 - (i + 1) = 0 by omega]; omega
theorem chs_d (m i : Nat) (h : i ≤ m) : (i + 1) * chs (m + 1) (i + 1) = (m + 1) * chs m i := by
  rw [chs_1, Nat.mul_add, chs_s m i, ← Nat.add_mul, show i + 1 + (m - i) = m + 1 by omega]
theorem chs_le : ∀ (n k : Nat), chs n k ≤ 2 ^ n
  | n, 0 => by rw [chs_0]; exact Nat.one_le_two_pow
  | 0, _ + 1 => by show 0 ≤ _; omega
  | n + 1, k + 1 => by
    have a := chs_le n k
    have b := chs_le n (k + 1)
    rw [chs_1, Nat.pow_succ]; omega
theorem chs_b {n : Nat} (k : Nat) (h : n ≤ 40) : chs n k ≤ 1099511627776 := Nat.le_trans (chs_le n k) (Nat.le_trans (Nat.pow_le_pow_right (by omega) h) (by decide))
theorem chs_mb {n : Nat} (k : Nat) {q : Nat} (h : n ≤ 40) (hq : q ≤ 41) : chs n k * q ≤ 1099511627776 * 41 := Nat.mul_le_mul (chs_b k h) hq
theorem chs_q1 (n i : Nat) : chs n i * (n - i) / (i + 1) = chs n (i + 1) := by
  rw [Nat.mul_comm, ← chs_s, Nat.mul_div_cancel_left _ (by omega)]
theorem chs_q2 {m i : Nat} (h : i ≤ m) : chs m i * (m + 1) / (i + 1) = chs (m + 1) (i + 1) := by
  rw [Nat.mul_comm, ← chs_d m i h, Nat.mul_div_cancel_left _ (by omega)]
/-- the terms of the river's sum, n of them, from j on -/
def rvS (we al li : Nat) (j : Nat) : Nat → Nat
  | 0 => 0
  | k + 1 => rvS we al li j k + chs we (j + k) * chs (al - we) (li - (j + k))
theorem rvS_z {we al li j : Nat} {k m : Nat} (h : we < j + k) : rvS we al li j (k + m) = rvS we al li j k := by
  induction m with
  | zero => rfl
  | succ m ih =>
    show rvS we al li j (k + m) + chs we (j + (k + m)) * _ = _
    rw [ih, chs_gt we (j + (k + m)) (by omega)]; omega
/-! the fewest items -/
noncomputable def popc (n : Nat) : Nat := cntP (fun k => bt (nI n) k = true) 24
theorem popc_le (n : Nat) : popc n ≤ 24 := cntP_le _ _
def stN (w : Nat → Int32) : Nat := 2 ^ ntW w
theorem stN_le {w : Nat → Int32} (hWf : WfW w) : 1 ≤ stN w ∧ stN w ≤ 1024 := ⟨Nat.one_le_two_pow, Nat.le_trans (Nat.pow_le_pow_right (by omega) hWf.1.2.2.2.1.2) (by decide)⟩
theorem shl_p : ∀ n, n ≤ 10 → nI 1 <<< (nI n &&& 31) = nI (2 ^ n) := by decide +kernel
theorem shl_st {w : Nat → Int32} (hWf : WfW w) : nI 1 <<< (nI (ntW w) &&& 31) = nI (stN w) := shl_p _ hWf.1.2.2.2.1.2
noncomputable def fwS (p : Nat → Prop) (c : Nat → Nat) : Nat → Option Nat
  | 0 => none
  | k + 1 => match fwS p c k with
    | none => @ite (Option Nat) (p k) (Classical.propDecidable _) (some k) none
    | some b => @ite (Option Nat) (c k < c b ∧ p k) (Classical.propDecidable _) (some k) (some b)
theorem fwS_nt {p : Nat → Prop} {c : Nat → Nat} {k : Nat} (h : fwS p c k = none) (q : p k) : fwS p c (k + 1) = some k := by
  show (match fwS p c k with | none => _ | some b => _) = _
  rw [h]; exact if_pos q
theorem fwS_nf {p : Nat → Prop} {c : Nat → Nat} {k : Nat} (h : fwS p c k = none) (q : ¬ p k) : fwS p c (k + 1) = none := by
  show (match fwS p c k with | none => _ | some b => _) = _
  rw [h]; exact if_neg q
theorem fwS_st {p : Nat → Prop} {c : Nat → Nat} {k b : Nat} (h : fwS p c k = some b) (q : c k < c b ∧ p k) : fwS p c (k + 1) = some k := by
  show (match fwS p c k with | none => _ | some b => _) = _
  rw [h]; exact if_pos q
theorem fwS_sf {p : Nat → Prop} {c : Nat → Nat} {k b : Nat} (h : fwS p c k = some b) (q : ¬ (c k < c b ∧ p k)) : fwS p c (k + 1) = some b := by
  show (match fwS p c k with | none => _ | some b => _) = _
  rw [h]; exact if_neg q
theorem fwS_lt {p : Nat → Prop} {c : Nat → Nat} {k b : Nat} (h : fwS p c k = some b) : b < k := by
  induction k with
  | zero => cases h
  | succ k ih =>
    cases e : fwS p c k with
    | none =>
      by_cases q : p k
      · rw [fwS_nt e q] at h; cases h; omega
      · rw [fwS_nf e q] at h; cases h
    | some b' =>
      by_cases q : c k < c b' ∧ p k
      · rw [fwS_st e q] at h; cases h; omega
      · rw [fwS_sf e q] at h; cases h; have := ih e; omega
theorem fwS_c {p q : Nat → Prop} {c c' : Nat → Nat} {n : Nat} (h : ∀ k, k < n → (p k ↔ q k)) (hc : ∀ k, k < n → c k = c' k) : fwS p c n = fwS q c' n := by
  induction n with
  | zero => rfl
  | succ n ih =>
    have ih := ih (fun k hk => h k (by omega)) (fun k hk => hc k (by omega))
    cases e : fwS p c n with
    | none =>
      by_cases g : p n
      · rw [fwS_nt e g, fwS_nt (ih ▸ e) ((h n (by omega)).mp g)]
      · rw [fwS_nf e g, fwS_nf (ih ▸ e) (fun g' => g ((h n (by omega)).mpr g'))]
    | some b =>
      have hb := fwS_lt e
      by_cases g : c n < c b ∧ p n
      · rw [fwS_st e g, fwS_st (ih ▸ e) ⟨by rw [← hc n (by omega), ← hc b (by omega)]; exact g.1, (h n (by omega)).mp g.2⟩]
      · rw [fwS_sf e g, fwS_sf (ih ▸ e) (fun g' => g ⟨by rw [hc n (by omega), hc b (by omega)]; exact g'.1, (h n (by omega)).mpr g'.2⟩)]
def tdW (w : Nat → Int32) (y v u : Nat) (s : Int32) : Prop := ∃ i, i < ntW w ∧ bt s i = true ∧ ¬ sdW w y v i = sdW w y u i
def tlW (w : Nat → Int32) (y : Nat) (o s : Int32) : Prop := ∀ v u, u < v → v < nvW w → (o = -1 ∨ o = nI v ∨ o = nI u) → tdW w y v u s
/-! what fits -/
def fitW (w : Nat → Int32) (y v i : Nat) : Prop := nI (sdW w y v i) = w (178 + 4 * i) ∨ (w (179 + 4 * i) = nI 1 ∧ w (178 + 4 * i) = w (177 + 4 * i))
noncomputable def ftN (w : Nat → Int32) (y v : Nat) : Nat := cntP (fun k => (¬ w (178 + 4 * k) = -1) ∧ fitW w y v k) (ntW w)
theorem ftN_le {w : Nat → Int32} (hWf : WfW w) (y v : Nat) : ftN w y v ≤ 10 := Nat.le_trans (cntP_le _ _) hWf.1.2.2.2.1.2
noncomputable def whW (w : Nat → Int32) (y : Nat) : Int32 := bitP (fun v => ftN w y v = hdN w (ntW w)) (nvW w)
theorem hdN_le (w : Nat → Int32) (n : Nat) : hdN w n ≤ n := by
  induction n with
  | zero => exact Nat.le_refl _
  | succ n ih => show hdN w n + _ ≤ _; split <;> omega
/-! the greatest camp -/
def mxP (f : Nat → Nat) : Nat → Nat
  | 0 => 0
  | k + 1 => max (mxP f k) (f k)
theorem mxP_le {f : Nat → Nat} {b : Nat} (n : Nat) (h : ∀ k, k < n → f k ≤ b) : mxP f n ≤ b := by
  induction n with
  | zero => exact Nat.zero_le _
  | succ n ih => exact Nat.max_le.mpr ⟨ih (fun k hk => h k (by omega)), h n (by omega)⟩
noncomputable def cpN (w : Nat → Int32) (y : Nat) (s : Int32) (i a : Nat) : Nat := cntP (fun v => bt s v = true ∧ sdW w y v i = a) (nvW w)
theorem cpN_le {w : Nat → Int32} (hWf : WfW w) (y : Nat) (s : Int32) (i a : Nat) : cpN w y s i a ≤ 24 := Nat.le_trans (cntP_le _ _) hWf.1.2.1.2
noncomputable def nxS (w : Nat → Int32) (y : Nat) (s : Int32) : Nat → Int32 × Nat
  | 0 => (-1, cntP (fun k => bt s k = true) 24)
  | k + 1 => @ite (Int32 × Nat) (w (178 + 4 * k) = -1 ∧ mxP (cpN w y s k) 5 < (nxS w y s k).2) (Classical.propDecidable _) (nI k, mxP (cpN w y s k) 5) (nxS w y s k)
theorem nxS_t {w : Nat → Int32} {y : Nat} {s : Int32} {k : Nat} (h : w (178 + 4 * k) = -1 ∧ mxP (cpN w y s k) 5 < (nxS w y s k).2) : nxS w y s (k + 1) = (nI k, mxP (cpN w y s k) 5) := if_pos h
theorem nxS_f {w : Nat → Int32} {y : Nat} {s : Int32} {k : Nat} (h : ¬ (w (178 + 4 * k) = -1 ∧ mxP (cpN w y s k) 5 < (nxS w y s k).2)) : nxS w y s (k + 1) = nxS w y s k := if_neg h
theorem nxS_le {w : Nat → Int32} (hWf : WfW w) (y : Nat) (s : Int32) (k : Nat) : (nxS w y s k).2 ≤ 24 := by
  induction k with
  | zero => exact cntP_le _ _
  | succ k ih =>
    by_cases q : w (178 + 4 * k) = -1 ∧ mxP (cpN w y s k) 5 < (nxS w y s k).2
    · rw [nxS_t q]; have := q.2; show mxP _ _ ≤ _; omega
    · rw [nxS_f q]; exact ih
/-! the best pair -/
theorem mI_cmp {m n : Nat} (hm : m < 2 ^ 30) (hn : n < 2 ^ 30) : (mI m < nI n ↔ m ≤ n) ∧ (nI n ≤ mI m ↔ n < m) := by
  rw [Int32.lt_iff_toInt_lt, Int32.le_iff_toInt_le, mI_int hm, nI_toInt (by omega)]
  omega
def twI (g : Nat → Nat → Nat) (v : Nat) (s : Int32 × Nat) : Nat → Int32 × Nat
  | 0 => s
  | k + 1 => if g v (v + 1 + k) < (twI g v s k).2 then twI g v s k else (nI (100 * v + (v + 1 + k)), g v (v + 1 + k) + 1)
theorem twI_f {g : Nat → Nat → Nat} {v : Nat} {s : Int32 × Nat} {k : Nat} (h : g v (v + 1 + k) < (twI g v s k).2) : twI g v s (k + 1) = twI g v s k := if_pos h
theorem twI_t {g : Nat → Nat → Nat} {v : Nat} {s : Int32 × Nat} {k : Nat} (h : ¬ g v (v + 1 + k) < (twI g v s k).2) : twI g v s (k + 1) = (nI (100 * v + (v + 1 + k)), g v (v + 1 + k) + 1) := if_neg h
def twO (g : Nat → Nat → Nat) (n : Nat) : Nat → Int32 × Nat
  | 0 => (-1, 0)
  | v + 1 => twI g v (twO g n v) (n - (v + 1))
theorem twI_le {g : Nat → Nat → Nat} {b v : Nat} {s : Int32 × Nat} (h : ∀ v u, g v u ≤ b) (hs : s.2 ≤ b + 1) (k : Nat) : (twI g v s k).2 ≤ b + 1 := by
  induction k with
  | zero => exact hs
  | succ k ih =>
    by_cases q : g v (v + 1 + k) < (twI g v s k).2
    · rw [twI_f q]; exact ih
    · rw [twI_t q]; have := h v (v + 1 + k); show _ + 1 ≤ _; omega
theorem twO_le {g : Nat → Nat → Nat} {b n : Nat} (h : ∀ v u, g v u ≤ b) (v : Nat) : (twO g n v).2 ≤ b + 1 := by
  induction v with
  | zero => show 0 ≤ _; omega
  | succ v ih => exact twI_le h ih _
noncomputable def twG (w : Nat → Int32) (y v u : Nat) : Nat := cntP (fun k => (¬ w (178 + 4 * k) = -1) ∧ (fitW w y v k ∨ fitW w y u k)) (ntW w)
theorem twG_le {w : Nat → Int32} (hWf : WfW w) (y v u : Nat) : twG w y v u ≤ 10 := Nat.le_trans (cntP_le _ _) hWf.1.2.2.2.1.2
/-! pairs that go together nowhere -/
def snW (w : Nat → Int32) (y i j n : Nat) : Prop := (w (178 + 4 * i) = -1 ∨ w (178 + 4 * j) = -1) ∨ ∃ v, v < n ∧ fitW w y v i ∧ fitW w y v j
noncomputable def nwI (p : Nat → Nat → Prop) (i : Nat) (s : Nat × Int32) : Nat → Nat × Int32
  | 0 => s
  | k + 1 => @ite (Nat × Int32) (p i (i + 1 + k)) (Classical.propDecidable _) (nwI p i s k) ((nwI p i s k).1 + 1, if (nwI p i s k).2 = -1 then nI (100 * i + (i + 1 + k)) else (nwI p i s k).2)
theorem nwI_f {p : Nat → Nat → Prop} {i : Nat} {s : Nat × Int32} {k : Nat} (h : p i (i + 1 + k)) : nwI p i s (k + 1) = nwI p i s k := if_pos h
theorem nwI_a {p : Nat → Nat → Prop} {i : Nat} {s : Nat × Int32} {k : Nat} (h : ¬ p i (i + 1 + k)) (q : (nwI p i s k).2 = -1) : nwI p i s (k + 1) = ((nwI p i s k).1 + 1, nI (100 * i + (i + 1 + k))) := by
  refine (if_neg h).trans ?_
  rw [if_pos q]
theorem nwI_b {p : Nat → Nat → Prop} {i : Nat} {s : Nat × Int32} {k : Nat} (h : ¬ p i (i + 1 + k)) (q : ¬ (nwI p i s k).2 = -1) : nwI p i s (k + 1) = ((nwI p i s k).1 + 1, (nwI p i s k).2) := by
  refine (if_neg h).trans ?_
  rw [if_neg q]
noncomputable def nwO (p : Nat → Nat → Prop) (n : Nat) : Nat → Nat × Int32
  | 0 => (0, -1)
  | i + 1 => nwI p i (nwO p n i) (n - (i + 1))
/-! what is said mostly -/
def nsF (w : Nat → Int32) (v i a : Nat) : Nat := nsW w ((v * 10 + i) * 5 + a)
noncomputable def moW (w : Nat → Int32) (v i : Nat) : Option Nat := frst (fun a => 0 < nsF w v i a ∧ ∀ a', a' < 5 → nsF w v i a' ≤ nsF w v i a) 5
theorem moW_5 {w : Nat → Int32} {v i a : Nat} (h : moW w v i = some a) : a < 5 := (frst_is h).1
theorem moW_mx {w : Nat → Int32} {v i b : Nat} (h : isMx (nsF w v i) 0 5 b) (h0 : 0 < nsF w v i b) : moW w v i = some b := by
  obtain ⟨h1, h2, h3, h4⟩ := h
  refine frst_some (fun j hj q => ?_) ⟨h0, fun a' ha => h3 a' (by omega) ha⟩ h2
  have := h4 j (by omega) hj
  have := q.2 b h2
  omega
theorem moW_0 {w : Nat → Int32} {v i : Nat} (h : ∀ a, a < 5 → nsF w v i a = 0) : moW w v i = none := frst_none (fun a ha q => by have := h a ha; omega)

