/-! MORE RULES: reads with their value told, calls that change the heap, least and greatest, switches, divisions -/
section WN3
variable {C : aC} {i pc : Nat} {lv : aL} {st : List Value} {h : aH} {Q : Option Value → aH → Prop}
theorem wn_ialdv {a b k pc' j n : Nat} {f : Nat → Int32} {x v : Int32} (hi : ins i pc = some (.iaload, a, b)) (hn : pc + 1 = pc') (ho : h[k]? = some (.inl (0, n, .inl f))) (hj : x = nI j) (hl : j < n) (hN : n < 2 ^ 31) (hv : f j = v) (kk : Wn C i pc' lv (.int v :: st) h Q) : Wn C i pc lv (.int x :: .ref k :: st) h Q := by
  subst hv
  exact wn_iald hi hn ho hj hl hN kk
theorem wn_baldv {a b k pc' j n t : Nat} {f : Nat → Int32} {x v : Int32} (hi : ins i pc = some (.baload, a, b)) (hn : pc + 1 = pc') (ht : t = 1 ∨ t = 2) (ho : h[k]? = some (.inl (t, n, .inl f))) (hj : x = nI j) (hl : j < n) (hN : n < 2 ^ 31) (hv : f j = v) (kk : Wn C i pc' lv (.int v :: st) h Q) : Wn C i pc lv (.int x :: .ref k :: st) h Q := by
  subst hv
  exact wn_bald hi hn ht ho hj hl hN kk
theorem wn_laldv {a b k pc' j n : Nat} {f : Nat → Int64} {x : Int32} {v : Int64} (hi : ins i pc = some (.laload, a, b)) (hn : pc + 1 = pc') (ho : h[k]? = some (.inl (3, n, .inr (.inl f)))) (hj : x = nI j) (hl : j < n) (hN : n < 2 ^ 31) (hv : f j = v) (kk : Wn C i pc' lv (.long v :: st) h Q) : Wn C i pc lv (.int x :: .ref k :: st) h Q := by
  subst hv
  exact wn_lald hi hn ho hj hl hN kk
theorem wn_aaldv {a b k pc' j n t : Nat} {f : Nat → Option Nat} {x : Int32} {v : Value} (hi : ins i pc = some (.aaload, a, b)) (hn : pc + 1 = pc') (ht : t = 4 ∨ t = 5) (ho : h[k]? = some (.inl (t, n, .inr (.inr (.inr (.inr f)))))) (hj : x = nI j) (hl : j < n) (hN : n < 2 ^ 31) (hv : va_rf (f j) = v) (kk : Wn C i pc' lv (v :: st) h Q) : Wn C i pc lv (.int x :: .ref k :: st) h Q := by
  subst hn; subst hj; subst hv
  exact wn_go hi (fun K r h1 k9 => ⟨nI j, k, st, t, n, f, rfl, ht, ho, vp_in_nI hl hN, by rw [nI_clamp (by omega)]; exact k9⟩) kk
theorem wn_aast {a b k q pc' j n t : Nat} {f : Nat → Option Nat} {x : Int32} {vs : List Value} (hi : ins i pc = some (.aastore, a, b)) (hn : pc + 1 = pc') (ht : t = 4 ∨ t = 5) (ho : h[k]? = some (.inl (t, n, .inr (.inr (.inr (.inr f)))))) (hq : h[q]? = some (.inr (t, vs))) (hj : x = nI j) (hl : j < n) (hN : n < 2 ^ 31) (kk : Wn C i pc' lv st (h.set k (.inl (t, n, .inr (.inr (.inr (.inr (va_up f j (some q)))))))) Q) : Wn C i pc lv (.ref q :: .int x :: .ref k :: st) h Q := by
  subst hn; subst hj
  exact wn_go hi (fun K r h1 k9 => ⟨q, nI j, k, st, t, n, f, vs, rfl, ht, ho, hq, vp_in_nI hl hN, by rw [nI_clamp (by omega)]; exact k9⟩) kk
theorem wn_nnR {off : Int} {a b k t : Nat} (hi : ins i pc = some (.ifnonnull off, a, b)) (ht : jmp pc off = t) (kk : Wn C i t lv st h Q) : Wn C i pc lv (.ref k :: st) h Q := by
  subst ht
  exact wn_go hi (fun K r h1 k9 => Or.inl ⟨k, st, rfl, k9⟩) kk
theorem wn_nn0 {off : Int} {a b f : Nat} (hi : ins i pc = some (.ifnonnull off, a, b)) (hf : pc + 3 = f) (kk : Wn C i f lv st h Q) : Wn C i pc lv (.null :: st) h Q := by
  subst hf
  exact wn_go hi (fun K r h1 k9 => Or.inr ⟨st, rfl, k9⟩) kk
theorem wn_sw {df lo hi9 off : Int} {offs : Array Int} {a b pc' : Nat} {x : Int32} (hi : ins i pc = some (.tableswitch df lo hi9 offs, a, b)) (ho : swOff df lo hi9 offs x = some off) (h0 : 0 ≤ (pc : Int) + off) (hp : jmp pc off = pc') (kk : Wn C i pc' lv st h Q) : Wn C i pc lv (.int x :: st) h Q := by
  subst hp
  exact wn_go hi (fun K r h1 k9 => ⟨x, st, off, rfl, ho, h0, k9⟩) kk
theorem wn_lsw {df off : Int} {ps : Array (Int × Int)} {a b pc' : Nat} {x : Int32} (hi : ins i pc = some (.lookupswitch df ps, a, b)) (hs : (ps.toList.zip (ps.toList.drop 1)).all (fun (a, next) => a.1 < next.1) = true) (ho : Op.lookupswitch.offset ps.toList df x.toInt = off) (h0 : 0 ≤ (pc : Int) + off) (hp : jmp pc off = pc') (kk : Wn C i pc' lv st h Q) : Wn C i pc lv (.int x :: st) h Q := by
  subst hp
  exact wn_go hi (fun K r h1 k9 => ⟨x, st, off, rfl, hs, ho, h0, k9⟩) kk
theorem wn_idivN {a b pc' x y : Nat} (hi : ins i pc = some (.idiv, a, b)) (hn : pc + 1 = pc') (hx : x < 2 ^ 31) (hy : 0 < y) (hy2 : y < 2 ^ 31) (kk : Wn C i pc' lv (.int (nI (x / y)) :: st) h Q) : Wn C i pc lv (.int (nI y) :: .int (nI x) :: st) h Q := by
  subst hn
  exact wn_go hi (fun K r h1 k9 => ⟨nI x, nI y, st, rfl, nI_ne0 hy hy2, by rw [pk_div hx hy hy2]; exact k9⟩) kk
theorem wn_iremN {a b pc' x y : Nat} (hi : ins i pc = some (.irem, a, b)) (hn : pc + 1 = pc') (hx : x < 2 ^ 31) (hy : 0 < y) (hy2 : y < 2 ^ 31) (kk : Wn C i pc' lv (.int (nI (x % y)) :: st) h Q) : Wn C i pc lv (.int (nI y) :: .int (nI x) :: st) h Q := by
  subst hn
  exact wn_go hi (fun K r h1 k9 => ⟨nI x, nI y, st, rfl, nI_ne0 hy hy2, by rw [pk_rem hx hy hy2]; exact k9⟩) kk
theorem wn_ldiv {a b pc' : Nat} {x y : Int64} (hi : ins i pc = some (.ldiv, a, b)) (hn : pc + 1 = pc') (hy : ¬ y = 0) (kk : Wn C i pc' lv (.long (x / y) :: st) h Q) : Wn C i pc lv (.long y :: .long x :: st) h Q := by
  subst hn
  exact wn_go hi (fun K r h1 k9 => ⟨x, y, st, rfl, hy, k9⟩) kk
theorem wn_lrem {a b pc' : Nat} {x y : Int64} (hi : ins i pc = some (.lrem, a, b)) (hn : pc + 1 = pc') (hy : ¬ y = 0) (kk : Wn C i pc' lv (.long (x - x / y * y) :: st) h Q) : Wn C i pc lv (.long y :: .long x :: st) h Q := by
  subst hn
  exact wn_go hi (fun K r h1 k9 => ⟨x, y, st, rfl, hy, k9⟩) kk
theorem wn_laddN {a b pc' x y : Nat} (hi : ins i pc = some (.ladd, a, b)) (hn : pc + 1 = pc') (kk : Wn C i pc' lv (.long (lN (x + y)) :: st) h Q) : Wn C i pc lv (.long (lN y) :: .long (lN x) :: st) h Q := by
  subst hn
  exact wn_go hi (fun K r h1 k9 => ⟨_, rfl, by rw [lN_add]; exact k9⟩) kk
theorem wn_lmulN {a b pc' x y : Nat} (hi : ins i pc = some (.lmul, a, b)) (hn : pc + 1 = pc') (kk : Wn C i pc' lv (.long (lN (x * y)) :: st) h Q) : Wn C i pc lv (.long (lN y) :: .long (lN x) :: st) h Q := by
  subst hn
  exact wn_go hi (fun K r h1 k9 => ⟨_, rfl, by rw [lN_mul]; exact k9⟩) kk
theorem wn_i2lN {a b pc' x : Nat} (hi : ins i pc = some (.i2l, a, b)) (hn : pc + 1 = pc') (hx : x < 2 ^ 31) (kk : Wn C i pc' lv (.long (lN x) :: st) h Q) : Wn C i pc lv (.int (nI x) :: st) h Q := by
  subst hn
  exact wn_go hi (fun K r h1 k9 => ⟨_, rfl, by rw [nI_l hx]; exact k9⟩) kk
theorem wn_min {ix b pc' : Nat} {x y : Int32} (hi : ins i pc = some (.invokestatic ix, 1001, b)) (hn : pc + 3 = pc') (h8 : (st.map fun v => v.category).sum ≤ 8) (kk : Wn C i pc' lv (.int (if y < x then y else x) :: st) h Q) : Wn C i pc lv (.int y :: .int x :: st) h Q := by
  subst hn
  exact wn_go hi (fun K r h1 k9 => ⟨x, y, st, rfl, h8, k9⟩) kk
theorem wn_max {ix b pc' : Nat} {x y : Int32} (hi : ins i pc = some (.invokestatic ix, 1002, b)) (hn : pc + 3 = pc') (h8 : (st.map fun v => v.category).sum ≤ 8) (kk : Wn C i pc' lv (.int (if x < y then y else x) :: st) h Q) : Wn C i pc lv (.int y :: .int x :: st) h Q := by
  subst hn
  exact wn_go hi (fun K r h1 k9 => ⟨x, y, st, rfl, h8, k9⟩) kk
theorem wn_minN {ix b pc' x y : Nat} (hi : ins i pc = some (.invokestatic ix, 1001, b)) (hn : pc + 3 = pc') (h8 : (st.map fun v => v.category).sum ≤ 8) (hx : x < 2 ^ 31) (hy : y < 2 ^ 31) (kk : Wn C i pc' lv (.int (nI (min x y)) :: st) h Q) : Wn C i pc lv (.int (nI y) :: .int (nI x) :: st) h Q := by
  refine wn_min hi hn h8 ?_
  rw [show (if nI y < nI x then nI y else nI x) = nI (min x y) by
    by_cases q : y < x
    · rw [if_pos (nI_lt q hx), Nat.min_eq_right (by omega)]
    · rw [if_neg (nI_nlt (by omega) hy), Nat.min_eq_left (by omega)]]
  exact kk
theorem wn_maxN {ix b pc' x y : Nat} (hi : ins i pc = some (.invokestatic ix, 1002, b)) (hn : pc + 3 = pc') (h8 : (st.map fun v => v.category).sum ≤ 8) (hx : x < 2 ^ 31) (hy : y < 2 ^ 31) (kk : Wn C i pc' lv (.int (nI (max x y)) :: st) h Q) : Wn C i pc lv (.int (nI y) :: .int (nI x) :: st) h Q := by
  refine wn_max hi hn h8 ?_
  rw [show (if nI x < nI y then nI y else nI x) = nI (max x y) by
    by_cases q : x < y
    · rw [if_pos (nI_lt q hy), Nat.max_eq_right (by omega)]
    · rw [if_neg (nI_nlt (by omega) hx), Nat.max_eq_left (by omega)]]
  exact kk
theorem wn_subN2 {q n a b pc' x : Nat} {lv' : aL} (hi : ins i pc = some (.iinc q (-(n : Int)), a, b)) (hn : pc + 3 = pc') (hg : lvG lv q = some (.int (nI x))) (hm : q < mMax i) (hv : lvP lv q (.int (nI (x - n))) = lv') (he : Int32.ofInt (-(n : Int)) = 0 - nI n) (hl : n ≤ x) (k : Wn C i pc' lv' st h Q) : Wn C i pc lv st h Q := by
  subst hn; subst hv
  refine wn_go hi (fun K r h1 kk => ⟨nI x, hg, hm, ?_⟩) k
  rw [he, show nI x + (0 - nI n) = nI (x - n) by rw [← pk_sub hl]; rw [Int32.sub_eq_add_neg, Int32.sub_eq_add_neg]; simp]
  exact kk
theorem wn_staS {ix a b pc' : Nat} {As r : List Value} {Q1 : Option Value → aH → Prop} (hi : ins i pc = some (.invokestatic ix, a, b)) (hn : pc + 3 = pc') (ha : a < 244) (hk : mKd a = 1) (hp : popN (mArg a) [] st = some (As, r)) (h8 : (r.map fun v => v.category).sum ≤ 8) (hc : Sp C a As h Q1) (kk : ∀ rv h', Q1 rv h' → Wn C i pc' lv (rv.toList ++ r) h' Q) : Wn C i pc lv st h Q := by
  obtain ⟨rv, h', g1, g2⟩ := hc
  exact wn_sta hi hn ha hk hp h8 g1 (kk rv h' g2)
theorem wn_cpyI {ix b pc' k q n0 n1 sp dp n : Nat} {f g : Nat → Int32} (hi : ins i pc = some (.invokestatic ix, 1003, b)) (hn : pc + 3 = pc') (h8 : (st.map fun v => v.category).sum ≤ 8) (hk : h[k]? = some (.inl (0, n0, .inl f))) (hq : h[q]? = some (.inl (0, n1, .inl g))) (h1 : sp + n ≤ n0) (h2 : dp + n ≤ n1) (h3 : n0 < 2 ^ 31) (h4 : n1 < 2 ^ 31) (kk : Wn C i pc' lv st (h.set q (.inl (0, n1, .inl (va_cpy f g sp dp n)))) Q) : Wn C i pc lv (.int (nI n) :: .int (nI dp) :: .ref q :: .int (nI sp) :: .ref k :: st) h Q := by
  subst hn
  refine wn_go hi (fun K r h9 k9 => ?_) kk
  refine ⟨nI n, nI dp, nI sp, q, k, st, n0, n1, rfl, nI_pos (by omega), nI_pos (by omega), nI_pos (by omega), h8, ?_, ?_, Or.inl ⟨0, f, g, Or.inl rfl, hk, hq, fun q => absurd q (by decide), ?_⟩⟩
  · rw [nI_clamp (by omega), nI_clamp (by omega)]; exact h1
  · rw [nI_clamp (by omega), nI_clamp (by omega)]; exact h2
  · rw [nI_clamp (by omega), nI_clamp (by omega), nI_clamp (by omega)]; exact k9
theorem wn_cpyZ {ix b pc' k q n0 n1 sp dp n : Nat} {f g : Nat → Int32} (hi : ins i pc = some (.invokestatic ix, 1003, b)) (hn : pc + 3 = pc') (h8 : (st.map fun v => v.category).sum ≤ 8) (hk : h[k]? = some (.inl (2, n0, .inl f))) (hq : h[q]? = some (.inl (2, n1, .inl g))) (hz : ∀ x, x < n0 → f x = 0 ∨ f x = 1) (h1 : sp + n ≤ n0) (h2 : dp + n ≤ n1) (h3 : n0 < 2 ^ 31) (h4 : n1 < 2 ^ 31) (kk : Wn C i pc' lv st (h.set q (.inl (2, n1, .inl (va_cpy f g sp dp n)))) Q) : Wn C i pc lv (.int (nI n) :: .int (nI dp) :: .ref q :: .int (nI sp) :: .ref k :: st) h Q := by
  subst hn
  refine wn_go hi (fun K r h9 k9 => ?_) kk
  refine ⟨nI n, nI dp, nI sp, q, k, st, n0, n1, rfl, nI_pos (by omega), nI_pos (by omega), nI_pos (by omega), h8, ?_, ?_, Or.inl ⟨2, f, g, Or.inr rfl, hk, hq, fun _ => hz, ?_⟩⟩
  · rw [nI_clamp (by omega), nI_clamp (by omega)]; exact h1
  · rw [nI_clamp (by omega), nI_clamp (by omega)]; exact h2
  · rw [nI_clamp (by omega), nI_clamp (by omega), nI_clamp (by omega)]; exact k9
theorem wn_cpyJ {ix b pc' k q n0 n1 sp dp n : Nat} {f g : Nat → Int64} (hi : ins i pc = some (.invokestatic ix, 1003, b)) (hn : pc + 3 = pc') (h8 : (st.map fun v => v.category).sum ≤ 8) (hk : h[k]? = some (.inl (3, n0, .inr (.inl f)))) (hq : h[q]? = some (.inl (3, n1, .inr (.inl g)))) (h1 : sp + n ≤ n0) (h2 : dp + n ≤ n1) (h3 : n0 < 2 ^ 31) (h4 : n1 < 2 ^ 31) (kk : Wn C i pc' lv st (h.set q (.inl (3, n1, .inr (.inl (va_cpy f g sp dp n))))) Q) : Wn C i pc lv (.int (nI n) :: .int (nI dp) :: .ref q :: .int (nI sp) :: .ref k :: st) h Q := by
  subst hn
  refine wn_go hi (fun K r h9 k9 => ?_) kk
  refine ⟨nI n, nI dp, nI sp, q, k, st, n0, n1, rfl, nI_pos (by omega), nI_pos (by omega), nI_pos (by omega), h8, ?_, ?_, Or.inr ⟨f, g, hk, hq, ?_⟩⟩
  · rw [nI_clamp (by omega), nI_clamp (by omega)]; exact h1
  · rw [nI_clamp (by omega), nI_clamp (by omega)]; exact h2
  · rw [nI_clamp (by omega), nI_clamp (by omega), nI_clamp (by omega)]; exact k9
theorem wn_len {a b k pc' t : Nat} {x : vp_A} (hi : ins i pc = some (.arraylength, a, b)) (hn : pc + 1 = pc') (ht : t < 6) (ho : h[k]? = some (.inl (t, x))) (kk : Wn C i pc' lv (.int (nI x.1) :: st) h Q) : Wn C i pc lv (.ref k :: st) h Q := by
  subst hn
  exact wn_go hi (fun K r h1 k9 => Or.inl ⟨k, st, t, x, rfl, ht, ho, k9⟩) kk
end WN3
/-- one below: mI 0 = -1 -/
def mI (n : Nat) : Int32 := nI n - 1
theorem mI_0 : mI 0 = -1 := by decide
theorem mI_s (n : Nat) : mI (n + 1) = nI n := nI_pred n
theorem wn_decN {C : aC} {i pc : Nat} {lv : aL} {st : List Value} {h : aH} {Q : Option Value → aH → Prop} {q a b pc' x : Nat} {lv' : aL} (hi : ins i pc = some (.iinc q (-1), a, b)) (hn : pc + 3 = pc') (hg : lvG lv q = some (.int (nI x))) (hm : q < mMax i) (hv : lvP lv q (.int (mI x)) = lv') (k : Wn C i pc' lv' st h Q) : Wn C i pc lv st h Q := by
  subst hn; subst hv
  refine wn_go hi (fun K r h1 kk => ⟨nI x, hg, hm, ?_⟩) k
  rw [show nI x + Int32.ofInt (-1) = mI x by unfold mI; rw [Int32.sub_eq_add_neg]; rfl]
  exact kk
theorem mI_int {n : Nat} (h : n < 2 ^ 30) : (mI n).toInt = (n : Int) - 1 := by
  cases n with
  | zero => decide
  | succ n => rw [mI_s, nI_toInt (by omega)]; omega
/-! PURE: how many, which bits, the first, the greatest -/
noncomputable def qI (p : Prop) (a b : Int32) : Int32 := @ite Int32 p (Classical.propDecidable p) a b
theorem qI_t {p : Prop} {a b : Int32} (h : p) : qI p a b = a := if_pos h
theorem qI_f {p : Prop} {a b : Int32} (h : ¬ p) : qI p a b = b := if_neg h
noncomputable def qL (p : Prop) (a b : Int64) : Int64 := @ite Int64 p (Classical.propDecidable p) a b
theorem qL_t {p : Prop} {a b : Int64} (h : p) : qL p a b = a := if_pos h
theorem qL_f {p : Prop} {a b : Int64} (h : ¬ p) : qL p a b = b := if_neg h
theorem dI_t {p : Prop} (h : p) : dI p = 1 := if_pos h
theorem dI_f {p : Prop} (h : ¬ p) : dI p = 0 := if_neg h
noncomputable def cntP (p : Nat → Prop) : Nat → Nat
  | 0 => 0
  | k + 1 => cntP p k + dI (p k)
theorem cntP_t {p : Nat → Prop} {k : Nat} (h : p k) : cntP p (k + 1) = cntP p k + 1 := by
  show cntP p k + dI (p k) = _
  rw [dI_t h]
theorem cntP_f {p : Nat → Prop} {k : Nat} (h : ¬ p k) : cntP p (k + 1) = cntP p k := by
  show cntP p k + dI (p k) = _
  rw [dI_f h]
  rfl
theorem cntP_le (p : Nat → Prop) (k : Nat) : cntP p k ≤ k := by
  induction k with
  | zero => exact Nat.le_refl _
  | succ k ih =>
    by_cases q : p k
    · rw [cntP_t q]; omega
    · rw [cntP_f q]; omega
theorem cntP_c {p q : Nat → Prop} {n : Nat} (h : ∀ k, k < n → (p k ↔ q k)) : cntP p n = cntP q n := by
  induction n with
  | zero => rfl
  | succ n ih =>
    have := ih (fun k hk => h k (by omega))
    show cntP p n + dI (p n) = cntP q n + dI (q n)
    rw [this, propext (h n (by omega))]
noncomputable def bitP (p : Nat → Prop) : Nat → Int32
  | 0 => nI 0
  | k + 1 => @ite Int32 (p k) (Classical.propDecidable _) (bitP p k ||| (nI 1 <<< (nI k &&& 31))) (bitP p k)
theorem bitP_t {p : Nat → Prop} {k : Nat} (h : p k) : bitP p (k + 1) = bitP p k ||| (nI 1 <<< (nI k &&& 31)) := if_pos h
theorem bitP_f {p : Nat → Prop} {k : Nat} (h : ¬ p k) : bitP p (k + 1) = bitP p k := if_neg h
theorem bitP_f0 {p : Nat → Prop} {k : Nat} (h : ¬ p k) : bitP p (k + 1) = bitP p k ||| nI 0 := by
  rw [bitP_f h, nI_0]; exact Int32.or_zero.symm
theorem bitP_c {p q : Nat → Prop} {n : Nat} (h : ∀ k, k < n → (p k ↔ q k)) : bitP p n = bitP q n := by
  induction n with
  | zero => rfl
  | succ n ih =>
    have := ih (fun k hk => h k (by omega))
    by_cases e : p n
    · rw [bitP_t e, bitP_t ((h n (by omega)).mp e), this]
    · rw [bitP_f e, bitP_f (fun q9 => e ((h n (by omega)).mpr q9)), this]
/-- the first of the greatest -/
def amx (f : Nat → Nat) : Nat → Option Nat
  | 0 => none
  | k + 1 => match amx f k with
    | none => some k
    | some b => if f b < f k then some k else some b
def isMx (f : Nat → Nat) (a n b : Nat) : Prop := a ≤ b ∧ b < n ∧ (∀ j, a ≤ j → j < n → f j ≤ f b) ∧ ∀ j, a ≤ j → j < b → f j < f b
theorem amx_is (f : Nat → Nat) (n : Nat) : (n = 0 ∧ amx f n = none) ∨ ∃ b, amx f n = some b ∧ isMx f 0 n b := by
  induction n with
  | zero => exact Or.inl ⟨rfl, rfl⟩
  | succ n ih =>
    refine Or.inr ?_
    rcases ih with ⟨e, q⟩ | ⟨b, q, b1, b2, b3, b4⟩
    · subst e
      refine ⟨0, rfl, Nat.le_refl _, by omega, fun j _ hj => ?_, fun j _ hj => by omega⟩
      rw [show j = 0 by omega]; exact Nat.le_refl _
    · by_cases g : f b < f n
      · refine ⟨n, ?_, by omega, by omega, fun j h1 hj => ?_, fun j h1 hj => ?_⟩
        · show (match amx f n with | none => some n | some b => if f b < f n then some n else some b) = _
          rw [q]; exact if_pos g
        · by_cases e : j = n
          · rw [e]; exact Nat.le_refl _
          · have := b3 j h1 (by omega); omega
        · have := b3 j h1 hj; omega
      · refine ⟨b, ?_, by omega, by omega, fun j h1 hj => ?_, b4⟩
        · show (match amx f n with | none => some n | some b => if f b < f n then some n else some b) = _
          rw [q]; exact if_neg g
        · by_cases e : j = n
          · rw [e]; omega
          · exact b3 j h1 (by omega)
theorem amx_eq {f : Nat → Nat} {n b : Nat} (h : isMx f 0 n b) : amx f n = some b := by
  rcases amx_is f n with ⟨e, q⟩ | ⟨b', q, c1, c2, c3, c4⟩
  · have := h.2.1; omega
  · obtain ⟨b1, b2, b3, b4⟩ := h
    rw [q]
    rcases Nat.lt_trichotomy b b' with g | g | g
    · have := c4 b (by omega) g; have := b3 b' (by omega) c2; omega
    · rw [g]
    · have := b4 b' (by omega) g; have := c3 b (by omega) b2; omega
theorem frst_0 (p : Nat → Prop) : frst p 0 = none := rfl
theorem frst_some {p : Nat → Prop} {n k : Nat} (h1 : ∀ j, j < k → ¬ p j) (h2 : p k) (h3 : k < n) : frst p n = some k := by
  have e : ∀ m, m ≤ k → frst p m = none := by
    intro m
    induction m with
    | zero => intro _; rfl
    | succ m ih =>
      intro hm
      show (match frst p m with | some k => some k | none => @ite (Option Nat) (p m) (Classical.propDecidable (p m)) (some m) none) = none
      rw [ih (by omega)]
      exact if_neg (h1 m (by omega))
  have g : ∀ m, k < m → frst p m = some k := by
    intro m
    induction m with
    | zero => intro hm; omega
    | succ m ih =>
      intro hm
      show (match frst p m with | some k => some k | none => @ite (Option Nat) (p m) (Classical.propDecidable (p m)) (some m) none) = some k
      by_cases q : k < m
      · rw [ih q]
      · have : m = k := by omega
        subst this
        rw [e m (Nat.le_refl _)]
        exact if_pos h2
  exact g n h3
theorem frst_none {p : Nat → Prop} {n : Nat} (h : ∀ j, j < n → ¬ p j) : frst p n = none := by
  induction n with
  | zero => rfl
  | succ n ih =>
    show (match frst p n with | some k => some k | none => @ite (Option Nat) (p n) (Classical.propDecidable (p n)) (some n) none) = none
    rw [ih (fun j hj => h j (by omega))]
    exact if_neg (h n (by omega))
theorem frst_is {p : Nat → Prop} {n k : Nat} (h : frst p n = some k) : k < n ∧ p k ∧ ∀ j, j < k → ¬ p j := by
  by_cases q : ∃ j, j < n ∧ p j
  · have : ∃ j, (j < n ∧ p j) ∧ ∀ i, i < j → ¬ (i < n ∧ p i) := by
      obtain ⟨j, hj⟩ := q
      induction j using Nat.strongRecOn with
      | ind j ih =>
        by_cases g : ∃ i, i < j ∧ (i < n ∧ p i)
        · obtain ⟨i, g1, g2⟩ := g
          exact ih i g1 g2
        · exact ⟨j, hj, fun i hi q => g ⟨i, hi, q⟩⟩
    obtain ⟨j, ⟨g1, g2⟩, g3⟩ := this
    have e := frst_some (p := p) (n := n) (k := j) (fun i hi q => g3 i hi ⟨by omega, q⟩) g2 g1
    rw [h] at e
    cases e
    exact ⟨g1, g2, fun i hi q => g3 i hi ⟨by omega, q⟩⟩
  · rw [frst_none (fun j hj pj => q ⟨j, hj, pj⟩)] at h
    exact absurd h (by simp)
