/-! ODDS: products, Euclid's steps, fractions compared -/
theorem lN_big {n : Nat} (h : n < 2 ^ 63) : (lN n).toInt = (n : Int) := by rw [lN_iJ]; exact iJ_int (by omega) (by omega)
def hvA (w : Nat → Int32) (i : Nat) : Nat := (w (178 + 4 * i)).toNatClampNeg
theorem hvA_e {w : Nat → Int32} (hWf : WfW w) {i : Nat} (hi : i < ntW w) (h : ¬ w (178 + 4 * i) = -1) : w (178 + 4 * i) = nI (hvA w i) ∧ hvA w i < 5 := by
  have := wf_vab hWf hi
  rcases (hWf.2.2.2.1 i hi).2.2.1 with e | ⟨a, h1, e⟩
  · exact absurd e h
  · unfold hvA
    rw [e, nI_clamp (by omega)]
    exact ⟨rfl, by omega⟩
def naN (w : Nat → Int32) (v i : Nat) : Nat → Nat
  | 0 => 0
  | a + 1 => naN w v i a + nsF w v i a
theorem naN_le {w : Nat → Int32} (hWf : WfW w) {v i : Nat} (hv : v < nvW w) (hi : i < ntW w) {a : Nat} (ha : a ≤ 5) : naN w v i a ≤ 9 * a := by
  induction a with
  | zero => exact Nat.le_refl _
  | succ a ih =>
    have := ih (by omega)
    have := nsF_b hWf hv hi (show a < 5 by omega)
    show naN w v i a + nsF w v i a ≤ _
    omega
def upN (w : Nat → Int32) (v : Nat) : Nat → Nat
  | 0 => 1
  | i + 1 => if w (178 + 4 * i) = -1 then upN w v i else upN w v i * (nsF w v i (hvA w i) + 1)
def loN (w : Nat → Int32) (v : Nat) : Nat → Nat
  | 0 => 1
  | i + 1 => if w (178 + 4 * i) = -1 then loN w v i else loN w v i * (naN w v i 5 + vaW w i)
theorem upN_f {w : Nat → Int32} {v i : Nat} (h : w (178 + 4 * i) = -1) : upN w v (i + 1) = upN w v i := if_pos h
theorem upN_t {w : Nat → Int32} {v i : Nat} (h : ¬ w (178 + 4 * i) = -1) : upN w v (i + 1) = upN w v i * (nsF w v i (hvA w i) + 1) := if_neg h
theorem loN_f {w : Nat → Int32} {v i : Nat} (h : w (178 + 4 * i) = -1) : loN w v (i + 1) = loN w v i := if_pos h
theorem loN_t {w : Nat → Int32} {v i : Nat} (h : ¬ w (178 + 4 * i) = -1) : loN w v (i + 1) = loN w v i * (naN w v i 5 + vaW w i) := if_neg h
theorem upN_b {w : Nat → Int32} (hWf : WfW w) {v : Nat} (hv : v < nvW w) {i : Nat} (hi : i ≤ ntW w) : 1 ≤ upN w v i ∧ upN w v i ≤ 10 ^ i := by
  induction i with
  | zero => exact ⟨Nat.le_refl _, Nat.le_refl _⟩
  | succ i ih =>
    obtain ⟨a, b⟩ := ih (by omega)
    by_cases h : w (178 + 4 * i) = -1
    · rw [upN_f h]
      exact ⟨a, Nat.le_trans b (Nat.pow_le_pow_right (by omega) (by omega))⟩
    · rw [upN_t h]
      have := nsF_b hWf hv (show i < ntW w by omega) (hvA_e hWf (by omega) h).2
      exact ⟨Nat.mul_pos a (by omega), by rw [Nat.pow_succ]; exact Nat.mul_le_mul b (by omega)⟩
theorem loN_b {w : Nat → Int32} (hWf : WfW w) {v : Nat} (hv : v < nvW w) {i : Nat} (hi : i ≤ ntW w) : 1 ≤ loN w v i ∧ loN w v i ≤ 50 ^ i := by
  induction i with
  | zero => exact ⟨Nat.le_refl _, Nat.le_refl _⟩
  | succ i ih =>
    obtain ⟨a, b⟩ := ih (by omega)
    by_cases h : w (178 + 4 * i) = -1
    · rw [loN_f h]
      exact ⟨a, Nat.le_trans b (Nat.pow_le_pow_right (by omega) (by omega))⟩
    · rw [loN_t h]
      have := naN_le hWf hv (show i < ntW w by omega) (a := 5) (by omega)
      have := wf_vab hWf (show i < ntW w by omega)
      exact ⟨Nat.mul_pos a (by omega), by rw [Nat.pow_succ]; exact Nat.mul_le_mul b (by omega)⟩
theorem upN_B {w : Nat → Int32} (hWf : WfW w) {v : Nat} (hv : v < nvW w) {i : Nat} (hi : i ≤ ntW w) : 1 ≤ upN w v i ∧ upN w v i ≤ 10000000000 := ⟨(upN_b hWf hv hi).1, Nat.le_trans (upN_b hWf hv hi).2 (Nat.le_trans (Nat.pow_le_pow_right (by omega) (Nat.le_trans hi hWf.1.2.2.2.1.2)) (by decide))⟩
theorem loN_B {w : Nat → Int32} (hWf : WfW w) {v : Nat} (hv : v < nvW w) {i : Nat} (hi : i ≤ ntW w) : 1 ≤ loN w v i ∧ loN w v i ≤ 97656250000000000 := ⟨(loN_b hWf hv hi).1, Nat.le_trans (loN_b hWf hv hi).2 (Nat.le_trans (Nat.pow_le_pow_right (by omega) (Nat.le_trans hi hWf.1.2.2.2.1.2)) (by decide))⟩
/-! Euclid -/
theorem mod_half {c e : Nat} (he : 0 < e) (h : e ≤ c) : 2 * (e * (c % e)) ≤ c * e := by
  have a := Nat.div_add_mod c e
  have b := Nat.mod_lt c he
  have q : 1 ≤ c / e := Nat.div_pos h he
  have q2 : e * 1 ≤ e * (c / e) := Nat.mul_le_mul_left e q
  rw [show 2 * (e * (c % e)) = e * (2 * (c % e)) by rw [Nat.mul_left_comm], Nat.mul_comm c e]
  exact Nat.mul_le_mul_left e (by omega)
theorem mod_same {c e : Nat} : e * (c % e) ≤ c * e := by
  rw [Nat.mul_comm c e]; exact Nat.mul_le_mul_left e (Nat.mod_le c e)
def EuM (a b s : Nat) : Prop := (s = 0 ∧ a * b ≤ 2 ^ 91) ∨ (1 ≤ s ∧ b ≤ a ∧ a * b * 2 ^ s ≤ 2 ^ 92)
theorem EuM_s {a b s : Nat} (h : EuM a b s) (hb : 0 < b) : EuM b (a % b) (s + 1) := by
  right
  refine ⟨by omega, Nat.le_of_lt (Nat.mod_lt a hb), ?_⟩
  rcases h with ⟨rfl, h⟩ | ⟨h1, h2, h3⟩
  · have := mod_same (c := a) (e := b)
    show b * (a % b) * 2 ^ 1 ≤ _
    omega
  · have := mod_half hb h2
    rw [Nat.pow_succ]
    calc b * (a % b) * (2 ^ s * 2) = 2 * (b * (a % b)) * 2 ^ s := by rw [Nat.mul_comm (2 ^ s) 2, ← Nat.mul_assoc, Nat.mul_comm (b * (a % b)) 2]
      _ ≤ a * b * 2 ^ s := Nat.mul_le_mul_right _ this
      _ ≤ 2 ^ 92 := h3
theorem EuM_e {a b s : Nat} (h : EuM a b s) (hs : 200 ≤ s) : b = 0 := by
  rcases h with ⟨rfl, h⟩ | ⟨h1, h2, h3⟩
  · omega
  · refine Classical.byContradiction (fun q => ?_)
    have c1 : 1 ≤ a * b := Nat.mul_pos (by omega) (by omega)
    have c2 : 2 ^ 200 ≤ 2 ^ s := Nat.pow_le_pow_right (by omega) hs
    have c3 : 1 * 2 ^ 200 ≤ a * b * 2 ^ s := Nat.mul_le_mul c1 c2
    have c4 : (2 : Nat) ^ 92 < 1 * 2 ^ 200 := by decide
    omega
theorem gcd_st {a b : Nat} : Nat.gcd a b = Nat.gcd b (a % b) := by
  rw [Nat.gcd_comm a b, Nat.gcd_rec b a, Nat.gcd_comm]
/-! fractions -/
def cmpS (x y : Nat) : Int32 := if x = y then nI 0 else if y < x then nI 1 else -1
theorem cmpS_g {x y : Nat} (h : y < x) : cmpS x y = nI 1 := by unfold cmpS; rw [if_neg (by omega), if_pos h]
theorem cmpS_l {x y : Nat} (h : x < y) : cmpS x y = -1 := by unfold cmpS; rw [if_neg (by omega), if_neg (by omega)]
theorem cmpS_e {x y : Nat} (h : x = y) : cmpS x y = nI 0 := if_pos h
theorem fr_gt {a b c e : Nat} (hb : 0 < b) (he : 0 < e) (h : c / e < a / b) : c * b < a * e := by
  have h1 : c < e * (c / e + 1) := by have := Nat.div_add_mod c e; have := Nat.mod_lt c he; rw [Nat.mul_add]; omega
  have h2 : b * (c / e + 1) ≤ a := by have := Nat.div_add_mod a b; exact Nat.le_trans (Nat.mul_le_mul_left b h) (by omega)
  calc c * b < e * (c / e + 1) * b := Nat.mul_lt_mul_of_pos_right h1 hb
    _ = b * (c / e + 1) * e := by rw [Nat.mul_comm (e * (c / e + 1)) b, ← Nat.mul_assoc, Nat.mul_comm b e, Nat.mul_assoc e b, Nat.mul_comm e]
    _ ≤ a * e := Nat.mul_le_mul_right e h2
theorem fr_eq {a b c e : Nat} (h : a / b = c / e) : a * e = b * (a / b) * e + e * (a % b) ∧ c * b = b * (a / b) * e + b * (c % e) := by
  constructor
  · conv => lhs; rw [← Nat.div_add_mod a b]
    rw [Nat.add_mul, Nat.mul_comm (a % b) e]
  · conv => lhs; rw [← Nat.div_add_mod c e]
    rw [Nat.add_mul, Nat.mul_comm (c % e) b, ← h, Nat.mul_comm e (a / b), Nat.mul_assoc, Nat.mul_comm e b, ← Nat.mul_assoc, Nat.mul_comm (a / b) b]
theorem cmp_q {a b c e : Nat} (h : a / b = c / e) : cmpS (a * e) (c * b) = cmpS (e * (a % b)) (b * (c % e)) := by
  obtain ⟨h1, h2⟩ := fr_eq h
  rcases Nat.lt_trichotomy (e * (a % b)) (b * (c % e)) with q | q | q
  · rw [cmpS_l q, cmpS_l (by omega)]
  · rw [cmpS_e q, cmpS_e (by omega)]
  · rw [cmpS_g q, cmpS_g (by omega)]
theorem cmp_z {b e r s : Nat} (hb : 0 < b) (he : 0 < e) (h : r = 0 ∨ s = 0) : (r = s → cmpS (e * r) (b * s) = nI 0) ∧ (s < r → cmpS (e * r) (b * s) = nI 1) ∧ (r < s → cmpS (e * r) (b * s) = -1) := by
  refine ⟨fun q => cmpS_e ?_, fun q => cmpS_g ?_, fun q => cmpS_l ?_⟩
  · have : r = 0 := by omega
    have : s = 0 := by omega
    subst r; subst s; rw [Nat.mul_zero, Nat.mul_zero]
  · have : s = 0 := by omega
    subst s; rw [Nat.mul_zero]; exact Nat.mul_pos he (by omega)
  · have : r = 0 := by omega
    subst r; rw [Nat.mul_zero]; exact Nat.mul_pos hb (by omega)
theorem fr_sub {a b c e : Nat} (h : a / b = c / e) : (c * b < a * e ↔ b * (c % e) < e * (a % b)) ∧ (a * e < c * b ↔ e * (a % b) < b * (c % e)) := by
  obtain ⟨h1, h2⟩ := fr_eq h
  omega
/-- village v has better odds than u -/
def ahW (w : Nat → Int32) (v u : Nat) : Prop := upN w u (ntW w) * loN w v (ntW w) < upN w v (ntW w) * loN w u (ntW w)
theorem red_gt {a b c e g k : Nat} (hg : 0 < g) (hk : 0 < k) : c * b < a * e ↔ (c * k) * (b * g) < (a * g) * (e * k) := by
  have e1 : (c * k) * (b * g) = (c * b) * (g * k) := by rw [Nat.mul_mul_mul_comm, Nat.mul_comm k g]
  have e2 : (a * g) * (e * k) = (a * e) * (g * k) := Nat.mul_mul_mul_comm a g e k
  rw [e1, e2]
  exact (Nat.mul_lt_mul_right (Nat.mul_pos hg hk)).symm
noncomputable def lkS (p : Nat → Nat → Prop) : Nat → Option Nat
  | 0 => none
  | k + 1 => match lkS p k with
    | none => some k
    | some b => @ite (Option Nat) (p k b) (Classical.propDecidable _) (some k) (some b)
theorem lkS_n {p : Nat → Nat → Prop} {k : Nat} (h : lkS p k = none) : lkS p (k + 1) = some k := by
  show (match lkS p k with | none => _ | some b => _) = _
  rw [h]
theorem lkS_t {p : Nat → Nat → Prop} {k b : Nat} (h : lkS p k = some b) (q : p k b) : lkS p (k + 1) = some k := by
  show (match lkS p k with | none => _ | some b => _) = _
  rw [h]; exact if_pos q
theorem lkS_f {p : Nat → Nat → Prop} {k b : Nat} (h : lkS p k = some b) (q : ¬ p k b) : lkS p (k + 1) = some b := by
  show (match lkS p k with | none => _ | some b => _) = _
  rw [h]; exact if_neg q
theorem lkS_lt {p : Nat → Nat → Prop} {k b : Nat} (h : lkS p k = some b) : b < k := by
  induction k with
  | zero => cases h
  | succ k ih =>
    cases e : lkS p k with
    | none => rw [lkS_n e] at h; cases h; omega
    | some b' =>
      by_cases q : p k b'
      · rw [lkS_t e q] at h; cases h; omega
      · rw [lkS_f e q] at h; cases h; have := ih e; omega
/-! the reference may set its two fields of odds -/
def RU (h h' : aH) : Prop := h'.length = h.length ∧ (∀ k, k ≠ 71 → h'[k]? = h[k]?) ∧ ∃ th tp sz at9 fr tk vl fk fp il up lo up' lo', isO h 71 9 (MoF th tp sz at9 fr tk vl fk fp il up lo) ∧ isO h' 71 9 (MoF th tp sz at9 fr tk vl fk fp il up' lo')
theorem RU.rfl' {h : aH} {w : Nat → Int32} (H : MH h w) : RU h h := by
  obtain ⟨th, tp, sz, at9, fr, tk, vl, fk, fp, il, up, lo, q0, q1⟩ := H
  exact ⟨rfl, fun _ _ => rfl, _, _, _, _, _, _, _, _, _, _, _, _, _, _, q0, q0⟩
theorem RU.tr {h h1 h2 : aH} (A : RU h h1) (B : RU h1 h2) : RU h h2 := by
  obtain ⟨a1, a2, th, tp, sz, at9, fr, tk, vl, fk, fp, il, up, lo, up', lo', a3, a4⟩ := A
  obtain ⟨b1, b2, th2, tp2, sz2, at92, fr2, tk2, vl2, fk2, fp2, il2, up2, lo2, up'2, lo'2, b3, b4⟩ := B
  refine ⟨by omega, fun k p1 => (b2 k p1).trans (a2 k p1), th, tp, sz, at9, fr, tk, vl, fk, fp, il, up, lo, up'2, lo'2, a3, ?_⟩
  have e := isO_inj a4 b3
  unfold MoF at e
  simp only [List.cons.injEq, Value.int.injEq, Value.long.injEq, and_true, true_and] at e
  obtain ⟨rfl, rfl, rfl, rfl, rfl, rfl, rfl, rfl, rfl, rfl, rfl, rfl⟩ := e
  exact b4
theorem RU.mh {h h' : aH} {w : Nat → Int32} (R : RU h h') (H : MH h w) : MH h' w := by
  obtain ⟨a1, a2, th, tp, sz, at9, fr, tk, vl, fk, fp, il, up, lo, up', lo', a3, a4⟩ := R
  obtain ⟨th2, tp2, sz2, at92, fr2, tk2, vl2, fk2, fp2, il2, up2, lo2, q0, q1⟩ := H
  exact ⟨_, _, _, _, _, _, _, _, _, _, _, _, a4, (a2 72 (by decide)).trans q1⟩
theorem RepM.ru {h h' : aH} {w tp : Nat → Int32} {tl : Nat} {im hi : Nat → Int32} {fk fp : Int32} {mn wd : Nat → Int32} {nu : Nat → Int64} (HM : RepM h w tp tl im hi fk fp mn wd nu) (R : RU h h') : RepM h' w tp tl im hi fk fp mn wd nu ∧ FrM h h' := by
  obtain ⟨th, sz, at9, fr, tk, vl, il, up, lo, fv, fs, sa9, tn, le, mv, q0, q1, q2, q3, q4, q5, q6, q7, q8, q9, q10, q11, q12, q13, q14⟩ := HM
  obtain ⟨a1, a2, th1, tp1, sz1, at91, fr1, tk1, vl1, fk1, fp1, il1, up1, lo1, up', lo', a3, a4⟩ := R
  have e := isO_inj a3 q0
  unfold MoF at e
  simp only [List.cons.injEq, Value.int.injEq, Value.long.injEq, and_true, true_and] at e
  obtain ⟨rfl, rfl, rfl, rfl, rfl, rfl, rfl, rfl, rfl, rfl, rfl, rfl⟩ := e
  have hk : ∀ k, k ≠ 71 → h'[k]? = h[k]? := a2
  exact ⟨⟨_, _, _, _, _, _, _, _, _, fv, fs, sa9, tn, le, mv, a4, q1.kp (hk _ (by decide)), q2.kp (hk _ (by decide)), q3.kp (hk _ (by decide)), q4.kp (hk _ (by decide)), q5.kp (hk _ (by decide)), q6.kp (hk _ (by decide)), q7.kp (hk _ (by decide)), q8.kp (hk _ (by decide)), q9.kp (hk _ (by decide)), q10.kp (hk _ (by decide)), q11.kp (hk _ (by decide)), q12.kp (hk _ (by decide)), q13.kp (hk _ (by decide)), q14⟩, a1, fun k p => hk k (by omega)⟩
theorem case_u {jx jm : Nat} {As : List Value} {ty : Type} (mkv : ty → Value) (P : aH → Prop) (hP : ∀ h, P h → ∃ (r : ty) (h1 h2 : aH) (cc ss : Nat) (f0 f1 : List Value), cc ≤ 27 ∧ ss ≤ 2582 ∧ h[0]? = some (.inr (8, f0)) ∧ Rn 700 jx (.ref 0 :: As) h (some (mkv r)) h1 cc ss ∧ h1[71]? = some (.inr (9, f1)) ∧ Rn 700 jm (.ref 71 :: As) h1 (some (mkv r)) h2 0 0 ∧ P h2) : ∀ h, P h → ∃ (r : ty) (h1 h2 : aH) (cc ss : Nat) (f0 f1 : List Value), cc ≤ 27 ∧ ss ≤ 2582 ∧ h[0]? = some (.inr (8, f0)) ∧ Rn 700 jx (.ref 0 :: As) h (some (mkv r)) h1 cc ss ∧ h1[71]? = some (.inr (9, f1)) ∧ Rn 700 jm (.ref 71 :: As) h1 (some (mkv r)) h2 0 0 ∧ P h2 := hP
theorem case_qU {jx jm : Nat} {As : List Value} (hx : ∀ h ls w, WfW w → XV h ls w → RX h h ls w → ∃ r : Int32, Sp (Rn 700) jx (.ref 0 :: As) h (fun r9 h' => r9 = some (.int r) ∧ RX h h' ls w) ∧ ∀ h1, MH h1 w → Sp (Rn 700) jm (.ref 71 :: As) h1 (fun r9 h' => r9 = some (.int r) ∧ RU h1 h')) : CaseI Rp jx jm As := by
  intro h hR
  obtain ⟨w, tp, tl, im, hi, fk, fp, mn, wd, nu, g1, g2, HM, HC⟩ := id hR
  obtain ⟨ls, V, R⟩ := HC.xv
  obtain ⟨r, ⟨r1, h1, x1, rfl, R1⟩, hm⟩ := hx h ls w g1 V R
  obtain ⟨HC1, F1⟩ := HC.rx V R1
  have HM1 := HM.kp (h' := h1) (fun k p1 p2 => F1.2 k p1 p2)
  obtain ⟨r2, h2, x2, rfl, R2⟩ := hm h1 HM1.mq.mh
  obtain ⟨HM2, F2⟩ := HM1.ru R2
  have HC2 := HC1.kp (h' := h2) F2.2
  obtain ⟨a0, ⟨x, a1⟩, a2, a3⟩ := V
  obtain ⟨th, tp9, sz, at9, fr, tk, vl, fk9, fp9, il, up, lo, q0, q1⟩ := HM1.mq.mh
  exact ⟨r, h1, h2, 0, 0, _, _, by decide, by decide, a1, x1, q0, x2, w, tp, tl, im, hi, fk, fp, mn, wd, nu, g1, g2, HM2, HC2⟩
theorem case_qUL {jx jm : Nat} {As : List Value} (hx : ∀ h ls w, WfW w → XV h ls w → RX h h ls w → ∃ r : Int64, Sp (Rn 700) jx (.ref 0 :: As) h (fun r9 h' => r9 = some (.long r) ∧ RX h h' ls w) ∧ ∀ h1, MH h1 w → Sp (Rn 700) jm (.ref 71 :: As) h1 (fun r9 h' => r9 = some (.long r) ∧ RU h1 h')) : CaseL Rp jx jm As := by
  intro h hR
  obtain ⟨w, tp, tl, im, hi, fk, fp, mn, wd, nu, g1, g2, HM, HC⟩ := id hR
  obtain ⟨ls, V, R⟩ := HC.xv
  obtain ⟨r, ⟨r1, h1, x1, rfl, R1⟩, hm⟩ := hx h ls w g1 V R
  obtain ⟨HC1, F1⟩ := HC.rx V R1
  have HM1 := HM.kp (h' := h1) (fun k p1 p2 => F1.2 k p1 p2)
  obtain ⟨r2, h2, x2, rfl, R2⟩ := hm h1 HM1.mq.mh
  obtain ⟨HM2, F2⟩ := HM1.ru R2
  have HC2 := HC1.kp (h' := h2) F2.2
  obtain ⟨a0, ⟨x, a1⟩, a2, a3⟩ := V
  obtain ⟨th, tp9, sz, at9, fr, tk, vl, fk9, fp9, il, up, lo, q0, q1⟩ := HM1.mq.mh
  exact ⟨r, h1, h2, 0, 0, _, _, by decide, by decide, a1, x1, q0, x2, w, tp, tl, im, hi, fk, fp, mn, wd, nu, g1, g2, HM2, HC2⟩
noncomputable def gcW (w : Nat → Int32) (v : Nat) : Nat := Nat.gcd (upN w v (ntW w)) (loN w v (ntW w))
noncomputable def ruW (w : Nat → Int32) (v : Nat) : Nat := upN w v (ntW w) / gcW w v
noncomputable def rlW (w : Nat → Int32) (v : Nat) : Nat := loN w v (ntW w) / gcW w v
theorem gc_pos {w : Nat → Int32} (hWf : WfW w) {v : Nat} (hv : v < nvW w) : 0 < gcW w v := Nat.gcd_pos_of_pos_left _ (by have := (upN_B hWf hv (Nat.le_refl _)).1; omega)
theorem ru_eq {w : Nat → Int32} (v : Nat) : ruW w v * gcW w v = upN w v (ntW w) := Nat.div_mul_cancel (Nat.gcd_dvd_left _ _)
theorem rl_eq {w : Nat → Int32} (v : Nat) : rlW w v * gcW w v = loN w v (ntW w) := Nat.div_mul_cancel (Nat.gcd_dvd_right _ _)
theorem red_b {w : Nat → Int32} (hWf : WfW w) {v : Nat} (hv : v < nvW w) : (1 ≤ ruW w v ∧ ruW w v ≤ 10000000000) ∧ (1 ≤ rlW w v ∧ rlW w v ≤ 97656250000000000) := by
  have a := upN_B hWf hv (Nat.le_refl _)
  have b := loN_B hWf hv (Nat.le_refl _)
  have g := gc_pos hWf hv
  have e1 := ru_eq (w := w) v
  have e2 := rl_eq (w := w) v
  have u1 : 1 ≤ ruW w v := Classical.byContradiction (fun q => by rw [show ruW w v = 0 by omega, Nat.zero_mul] at e1; omega)
  have u2 : 1 ≤ rlW w v := Classical.byContradiction (fun q => by rw [show rlW w v = 0 by omega, Nat.zero_mul] at e2; omega)
  exact ⟨⟨u1, Nat.le_trans (Nat.div_le_self _ _) a.2⟩, ⟨u2, Nat.le_trans (Nat.div_le_self _ _) b.2⟩⟩
theorem ah_red {w : Nat → Int32} (hWf : WfW w) {v u : Nat} (hv : v < nvW w) (hu : u < nvW w) : ruW w u * rlW w v < ruW w v * rlW w u ↔ ahW w v u := by
  have := red_gt (a := ruW w v) (b := rlW w v) (c := ruW w u) (e := rlW w u) (gc_pos hWf hv) (gc_pos hWf hu)
  rw [ru_eq, ru_eq, rl_eq, rl_eq] at this
  exact this
theorem prod_b {x y : Nat} (hx : x ≤ 10000000000) (hy : y ≤ 97656250000000000) : x * y ≤ 2 ^ 91 := Nat.le_trans (Nat.mul_le_mul hx hy) (by decide)
