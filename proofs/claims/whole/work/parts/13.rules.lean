/-! RULES over the small machine: a run from a place of a method that makes no cells -/
def Wn (C : aC) (i pc : Nat) (lv : aL) (st : List Value) (h : aH) (Q : Option Value → aH → Prop) : Prop := ∃ n r h1, Ev C i n pc lv st h 0 0 r h1 0 0 ∧ Q r h1
def Sp (C : aC) (j : Nat) (As : List Value) (h : aH) (Q : Option Value → aH → Prop) : Prop := ∃ r h1, C j As h r h1 0 0 ∧ Q r h1
noncomputable def bI (p : Prop) : Int32 := @ite Int32 p (Classical.propDecidable p) 1 0
theorem bI_t {p : Prop} (h : p) : bI p = 1 := if_pos h
theorem bI_f {p : Prop} (h : ¬ p) : bI p = 0 := if_neg h
theorem bI_c {p q : Prop} (h : p ↔ q) : bI p = bI q := by rw [propext h]
def jN (cd : ClassFile.Cond) (x y : Nat) : Prop := match cd with
  | .eq => x = y
  | .ne => ¬ x = y
  | .lt => x < y
  | .ge => y ≤ x
  | .gt => y < x
  | .le => x ≤ y
def jM (cd : ClassFile.Cond) (x y : Nat) : Prop := match cd with
  | .eq => ¬ x = y
  | .ne => x = y
  | .lt => y ≤ x
  | .ge => x < y
  | .gt => x ≤ y
  | .le => y < x
theorem jT_or (cd : ClassFile.Cond) (x y : Int32) : (jT cd x y ∧ ¬ jF cd x y) ∨ (¬ jT cd x y ∧ jF cd x y) := by
  cases cd <;> simp only [jT, jF]
  · by_cases h : x = y
    · exact Or.inl ⟨h, fun q => q h⟩
    · exact Or.inr ⟨h, h⟩
  · by_cases h : x = y
    · exact Or.inr ⟨fun q => q h, h⟩
    · exact Or.inl ⟨h, h⟩
  · by_cases h : x < y
    · exact Or.inl ⟨h, Int32.not_le.mpr h⟩
    · exact Or.inr ⟨h, Int32.not_lt.mp h⟩
  · by_cases h : y ≤ x
    · exact Or.inl ⟨h, Int32.not_lt.mpr h⟩
    · exact Or.inr ⟨h, Int32.not_le.mp h⟩
  · by_cases h : y < x
    · exact Or.inl ⟨h, Int32.not_le.mpr h⟩
    · exact Or.inr ⟨h, Int32.not_lt.mp h⟩
  · by_cases h : x ≤ y
    · exact Or.inl ⟨h, Int32.not_lt.mpr h⟩
    · exact Or.inr ⟨h, Int32.not_le.mp h⟩
theorem jN_of {cd : ClassFile.Cond} {x y : Nat} (hx : x < 2 ^ 31) (hy : y < 2 ^ 31) : (jT cd (nI x) (nI y) → jN cd x y) ∧ (jF cd (nI x) (nI y) → jM cd x y) := by
  cases cd <;> simp only [jT, jF, jN, jM, nI_eq hx hy, nI_ltI hx hy, nI_ltI hy hx, nI_leI hx hy, nI_leI hy hx] <;> exact ⟨fun q => q, fun q => q⟩
def jL (cd : ClassFile.Cond) (x y : Int) : Prop := match cd with
  | .eq => x = y
  | .ne => ¬ x = y
  | .lt => x < y
  | .ge => y ≤ x
  | .gt => y < x
  | .le => x ≤ y
theorem jL_of (cd : ClassFile.Cond) (x y : Int64) : (jT cd (lg_cmp x y) 0 ↔ jL cd x.toInt y.toInt) ∧ (jF cd (lg_cmp x y) 0 ↔ ¬ jL cd x.toInt y.toInt) := by
  have e : (lg_cmp x y = 1 ∧ y.toInt < x.toInt) ∨ (lg_cmp x y = 0 ∧ x.toInt = y.toInt) ∨ (lg_cmp x y = -1 ∧ x.toInt < y.toInt) := by
    unfold lg_cmp
    by_cases h1 : x > y
    · rw [if_pos h1]; exact Or.inl ⟨rfl, Int64.lt_iff_toInt_lt.mp h1⟩
    · rw [if_neg h1]
      have h1' : ¬ y.toInt < x.toInt := fun q => h1 (Int64.lt_iff_toInt_lt.mpr q)
      by_cases h2 : x = y
      · rw [if_pos h2]; exact Or.inr (Or.inl ⟨rfl, by rw [h2]⟩)
      · rw [if_neg h2]
        have h2' : ¬ x.toInt = y.toInt := fun q => h2 (Int64.toInt_inj.mp q)
        exact Or.inr (Or.inr ⟨rfl, by omega⟩)
  rcases e with ⟨e1, e2⟩ | ⟨e1, e2⟩ | ⟨e1, e2⟩ <;> rw [e1] <;> cases cd <;> simp only [jT, jF, jL] <;> constructor <;> constructor <;> intro q <;> first | omega | exact absurd q (by decide) | (revert q; decide) | decide
section WNR
variable {C : aC} {i pc : Nat} {lv : aL} {st : List Value} {h : aH} {Q : Option Value → aH → Prop}
theorem wn_go {op : Instr} {a b pc' : Nat} {lv' : aL} {st' : List Value} {h' : aH} (hi : ins i pc = some (op, a, b)) (hg : ∀ (K : aK) (r : Option Value) (h1 : aH), K pc' lv' st' h' 0 0 → StpOp C i K op a b pc lv st h 0 0 r h1 0 0) (k : Wn C i pc' lv' st' h' Q) : Wn C i pc lv st h Q := by
  obtain ⟨n, r, h1, hE, hQ⟩ := k
  exact ⟨n + 1, r, h1, ⟨lv, op, a, b, fun _ h => h, hi, hg _ r h1 hE⟩, hQ⟩
theorem wn_end {op : Instr} {a b : Nat} {r : Option Value} {h' : aH} (hi : ins i pc = some (op, a, b)) (hg : ∀ (K : aK), StpOp C i K op a b pc lv st h 0 0 r h' 0 0) (hQ : Q r h') : Wn C i pc lv st h Q := ⟨1, r, h', ⟨lv, op, a, b, fun _ h => h, hi, hg _⟩, hQ⟩
theorem wn_weak {lv' : aL} (hs : ∀ q ∈ lv', q ∈ lv) (k : Wn C i pc lv' st h Q) : Wn C i pc lv st h Q := by
  obtain ⟨n, r, h1, hE, hQ⟩ := k
  cases n with
  | zero => exact hE.elim
  | succ n =>
    obtain ⟨lv0, op, a, b, g1, g2, g3⟩ := hE
    exact ⟨n + 1, r, h1, ⟨lv0, op, a, b, fun q hq => hs q (g1 q hq), g2, g3⟩, hQ⟩
theorem wn_post {Q' : Option Value → aH → Prop} (k : Wn C i pc lv st h Q') (hq : ∀ r h1, Q' r h1 → Q r h1) : Wn C i pc lv st h Q := by
  obtain ⟨n, r, h1, hE, hQ⟩ := k
  exact ⟨n, r, h1, hE, hq r h1 hQ⟩
theorem wn_icmp {cd : ClassFile.Cond} {off : Int} {a b t f : Nat} {x y : Int32} (hi : ins i pc = some (.if_icmp cd off, a, b)) (ht : jmp pc off = t) (hf : pc + 3 = f) (kt : jT cd x y → Wn C i t lv st h Q) (kf : jF cd x y → Wn C i f lv st h Q) : Wn C i pc lv (.int y :: .int x :: st) h Q := by
  subst ht; subst hf
  rcases jT_or cd x y with ⟨q1, q2⟩ | ⟨q1, q2⟩
  · obtain ⟨n, r, h1, hE, hQ⟩ := kt q1
    exact ⟨n + 1, r, h1, ⟨lv, _, a, b, fun _ h => h, hi, x, y, st, rfl, fun _ => hE, fun q => absurd q q2⟩, hQ⟩
  · obtain ⟨n, r, h1, hE, hQ⟩ := kf q2
    exact ⟨n + 1, r, h1, ⟨lv, _, a, b, fun _ h => h, hi, x, y, st, rfl, fun q => absurd q q1, fun _ => hE⟩, hQ⟩
theorem wn_ifc {cd : ClassFile.Cond} {off : Int} {a b t f : Nat} {x : Int32} (hi : ins i pc = some (.ifCond cd off, a, b)) (ht : jmp pc off = t) (hf : pc + 3 = f) (kt : jT cd x 0 → Wn C i t lv st h Q) (kf : jF cd x 0 → Wn C i f lv st h Q) : Wn C i pc lv (.int x :: st) h Q := by
  subst ht; subst hf
  rcases jT_or cd x 0 with ⟨q1, q2⟩ | ⟨q1, q2⟩
  · obtain ⟨n, r, h1, hE, hQ⟩ := kt q1
    exact ⟨n + 1, r, h1, ⟨lv, _, a, b, fun _ h => h, hi, x, st, rfl, fun _ => hE, fun q => absurd q q2⟩, hQ⟩
  · obtain ⟨n, r, h1, hE, hQ⟩ := kf q2
    exact ⟨n + 1, r, h1, ⟨lv, _, a, b, fun _ h => h, hi, x, st, rfl, fun q => absurd q q1, fun _ => hE⟩, hQ⟩
theorem wn_icmpN {cd : ClassFile.Cond} {off : Int} {a b t f : Nat} {x y : Nat} (hi : ins i pc = some (.if_icmp cd off, a, b)) (ht : jmp pc off = t) (hf : pc + 3 = f) (hx : x < 2 ^ 31) (hy : y < 2 ^ 31) (kt : jN cd x y → Wn C i t lv st h Q) (kf : jM cd x y → Wn C i f lv st h Q) : Wn C i pc lv (.int (nI y) :: .int (nI x) :: st) h Q :=
  wn_icmp hi ht hf (fun q => kt ((jN_of hx hy).1 q)) (fun q => kf ((jN_of hx hy).2 q))
theorem wn_ifN {cd : ClassFile.Cond} {off : Int} {a b t f : Nat} {x : Nat} (hi : ins i pc = some (.ifCond cd off, a, b)) (ht : jmp pc off = t) (hf : pc + 3 = f) (hx : x < 2 ^ 31) (kt : jN cd x 0 → Wn C i t lv st h Q) (kf : jM cd x 0 → Wn C i f lv st h Q) : Wn C i pc lv (.int (nI x) :: st) h Q :=
  wn_ifc hi ht hf (fun q => kt ((jN_of hx (by decide)).1 (by rw [nI_0]; exact q))) (fun q => kf ((jN_of hx (by decide)).2 (by rw [nI_0]; exact q)))
theorem wn_ifeqB {off : Int} {a b t f : Nat} {p : Prop} (hi : ins i pc = some (.ifCond .eq off, a, b)) (ht : jmp pc off = t) (hf : pc + 3 = f) (kt : ¬ p → Wn C i t lv st h Q) (kf : p → Wn C i f lv st h Q) : Wn C i pc lv (.int (bI p) :: st) h Q := by
  refine wn_ifc hi ht hf (fun q => kt (fun hp => ?_)) (fun q => kf ?_)
  · have q : bI p = 0 := q
    rw [bI_t hp] at q
    exact absurd q (by decide)
  · have q : ¬ bI p = 0 := q
    by_cases hp : p
    · exact hp
    · exact absurd (bI_f hp) q
theorem wn_ifneB {off : Int} {a b t f : Nat} {p : Prop} (hi : ins i pc = some (.ifCond .ne off, a, b)) (ht : jmp pc off = t) (hf : pc + 3 = f) (kt : p → Wn C i t lv st h Q) (kf : ¬ p → Wn C i f lv st h Q) : Wn C i pc lv (.int (bI p) :: st) h Q := by
  refine wn_ifc hi ht hf (fun q => kt ?_) (fun q => kf (fun hp => ?_))
  · have q : ¬ bI p = 0 := q
    by_cases hp : p
    · exact hp
    · exact absurd (bI_f hp) q
  · have q : bI p = 0 := q
    rw [bI_t hp] at q
    exact absurd q (by decide)
theorem wn_con {op : Instr} {a b pc' : Nat} {v : Int32} (hi : ins i pc = some (op, a, b)) (hp : pureOp op st = some (.int v :: st)) (hd : ∀ (K : aK) (r : Option Value) (h1 : aH), StpOp C i K op a b pc lv st h 0 0 r h1 0 0 = ∃ st', pureOp op st = some st' ∧ K (pc + lenOf op) lv st' h 0 0) (hn : pc + lenOf op = pc') {w : Int32} (hw : v = w) (k : Wn C i pc' lv (.int w :: st) h Q) : Wn C i pc lv st h Q := by
  subst hw; subst hn
  exact wn_go hi (fun K r h1 kk => by rw [hd]; exact ⟨_, hp, kk⟩) k
theorem wn_ic {n : Int} {a b pc' : Nat} {w : Int32} (hi : ins i pc = some (.iconst n, a, b)) (hn : pc + 1 = pc') (hw : Int32.ofInt n = w) (k : Wn C i pc' lv (.int w :: st) h Q) : Wn C i pc lv st h Q := by
  subst hw; subst hn
  exact wn_go hi (fun K r h1 kk => ⟨_, rfl, kk⟩) k
theorem wn_bp {n : Int} {a b pc' : Nat} {w : Int32} (hi : ins i pc = some (.bipush n, a, b)) (hn : pc + 2 = pc') (hw : (Int8.ofInt n).toInt32 = w) (k : Wn C i pc' lv (.int w :: st) h Q) : Wn C i pc lv st h Q := by
  subst hw; subst hn
  exact wn_go hi (fun K r h1 kk => ⟨_, rfl, kk⟩) k
theorem wn_sp {n : Int} {a b pc' : Nat} {w : Int32} (hi : ins i pc = some (.sipush n, a, b)) (hn : pc + 3 = pc') (hw : (Int16.ofInt n).toInt32 = w) (k : Wn C i pc' lv (.int w :: st) h Q) : Wn C i pc lv st h Q := by
  subst hw; subst hn
  exact wn_go hi (fun K r h1 kk => ⟨_, rfl, kk⟩) k
theorem wn_addN {a b pc' x y : Nat} (hi : ins i pc = some (.iadd, a, b)) (hn : pc + 1 = pc') (k : Wn C i pc' lv (.int (nI (x + y)) :: st) h Q) : Wn C i pc lv (.int (nI y) :: .int (nI x) :: st) h Q := by
  subst hn
  exact wn_go hi (fun K r h1 kk => ⟨_, rfl, by rw [nI_add]; exact kk⟩) k
theorem wn_mulN {a b pc' x y : Nat} (hi : ins i pc = some (.imul, a, b)) (hn : pc + 1 = pc') (k : Wn C i pc' lv (.int (nI (x * y)) :: st) h Q) : Wn C i pc lv (.int (nI y) :: .int (nI x) :: st) h Q := by
  subst hn
  exact wn_go hi (fun K r h1 kk => ⟨_, rfl, by rw [pk_mul]; exact kk⟩) k
theorem wn_subN {a b pc' x y : Nat} (hi : ins i pc = some (.isub, a, b)) (hn : pc + 1 = pc') (hl : y ≤ x) (k : Wn C i pc' lv (.int (nI (x - y)) :: st) h Q) : Wn C i pc lv (.int (nI y) :: .int (nI x) :: st) h Q := by
  subst hn
  exact wn_go hi (fun K r h1 kk => ⟨_, rfl, by rw [pk_sub hl]; exact kk⟩) k
theorem wn_incN {q n a b pc' x : Nat} {lv' : aL} (hi : ins i pc = some (.iinc q (n : Int), a, b)) (hn : pc + 3 = pc') (hg : lvG lv q = some (.int (nI x))) (hm : q < mMax i) (hv : lvP lv q (.int (nI (x + n))) = lv') (he : Int32.ofInt (n : Int) = nI n) (k : Wn C i pc' lv' st h Q) : Wn C i pc lv st h Q := by
  subst hn; subst hv
  exact wn_go hi (fun K r h1 kk => ⟨nI x, hg, hm, by rw [he, nI_add]; exact kk⟩) k
theorem wn_ld {op : Instr} {a b q kin pc' : Nat} {v : Value} (hi : ins i pc = some (op, a, b)) (hd : ∀ (K : aK) (r : Option Value) (h1 : aH), StpOp C i K op a b pc lv st h 0 0 r h1 0 0 = opLd K pc' lv st h 0 0 q kin) (hg : lvG lv q = some v) (hk : kd v = kin) (k : Wn C i pc' lv (v :: st) h Q) : Wn C i pc lv st h Q := wn_go hi (fun K r h1 kk => by rw [hd]; exact ⟨v, hg, hk, kk⟩) k
theorem wn_st {op : Instr} {a b q kin pc' : Nat} {v : Value} {lv' : aL} (hi : ins i pc = some (op, a, b)) (hd : ∀ (K : aK) (r : Option Value) (h1 : aH), StpOp C i K op a b pc lv (v :: st) h 0 0 r h1 0 0 = opSt i K pc' lv (v :: st) h 0 0 q kin) (hk : kd v = kin) (hm : q + (if kin = 1 then 1 else 0) < mMax i) (hv : lvP lv q v = lv') (k : Wn C i pc' lv' st h Q) : Wn C i pc lv (v :: st) h Q := by
  subst hv
  exact wn_go hi (fun K r h1 kk => by rw [hd]; exact ⟨v, st, rfl, hk, hm, kk⟩) k
theorem wn_pu {op : Instr} {a b pc' : Nat} {st' : List Value} (hi : ins i pc = some (op, a, b)) (hd : ∀ (K : aK) (r : Option Value) (h1 : aH), StpOp C i K op a b pc lv st h 0 0 r h1 0 0 = ∃ st9, pureOp op st = some st9 ∧ K (pc + lenOf op) lv st9 h 0 0) (hn : pc + lenOf op = pc') (hp : pureOp op st = some st') (k : Wn C i pc' lv st' h Q) : Wn C i pc lv st h Q := by
  subst hn
  exact wn_go hi (fun K r h1 kk => by rw [hd]; exact ⟨_, hp, kk⟩) k
theorem wn_jp {off : Int} {a b pc' : Nat} (hi : ins i pc = some (.goto off, a, b)) (hn : jmp pc off = pc') (k : Wn C i pc' lv st h Q) : Wn C i pc lv st h Q := by
  subst hn
  exact wn_go hi (fun K r h1 kk => kk) k
theorem wn_get {ix a b k pc' : Nat} {fs : List Value} {v : Value} (hi : ins i pc = some (.getfield ix, a, b)) (hn : pc + 3 = pc') (ho : h[k]? = some (.inr (a, fs))) (hv : fs[b]? = some v) (kk : Wn C i pc' lv (v :: st) h Q) : Wn C i pc lv (.ref k :: st) h Q := by
  subst hn
  exact wn_go hi (fun K r h1 k9 => ⟨k, st, fs, v, rfl, ho, hv, k9⟩) kk
theorem wn_put {ix a b k pc' : Nat} {fs : List Value} {v : Value} (hi : ins i pc = some (.putfield ix, a, b)) (hn : pc + 3 = pc') (ho : h[k]? = some (.inr (a, fs))) (hv : b < fs.length) (hp : putOK a b v) (kk : Wn C i pc' lv st (h.set k (.inr (a, fs.set b v))) Q) : Wn C i pc lv (v :: .ref k :: st) h Q := by
  subst hn
  exact wn_go hi (fun K r h1 k9 => ⟨k, st, fs, v, rfl, ho, hv, hp, k9⟩) kk
theorem wn_iald {a b k pc' j n : Nat} {f : Nat → Int32} {x : Int32} (hi : ins i pc = some (.iaload, a, b)) (hn : pc + 1 = pc') (ho : h[k]? = some (.inl (0, n, .inl f))) (hj : x = nI j) (hl : j < n) (hN : n < 2 ^ 31) (kk : Wn C i pc' lv (.int (f j) :: st) h Q) : Wn C i pc lv (.int x :: .ref k :: st) h Q := by
  subst hn; subst hj
  exact wn_go hi (fun K r h1 k9 => Or.inl ⟨nI j, k, st, n, f, rfl, ho, vp_in_nI hl hN, by rw [nI_clamp (by omega)]; exact k9⟩) kk
theorem wn_iast {a b k pc' j n : Nat} {f : Nat → Int32} {x y : Int32} (hi : ins i pc = some (.iastore, a, b)) (hn : pc + 1 = pc') (ho : h[k]? = some (.inl (0, n, .inl f))) (hj : x = nI j) (hl : j < n) (hN : n < 2 ^ 31) (kk : Wn C i pc' lv st (h.set k (.inl (0, n, .inl (upd f j y)))) Q) : Wn C i pc lv (.int y :: .int x :: .ref k :: st) h Q := by
  subst hn; subst hj
  exact wn_go hi (fun K r h1 k9 => ⟨y, nI j, k, st, n, f, rfl, ho, vp_in_nI hl hN, by rw [nI_clamp (by omega)]; exact k9⟩) kk
theorem wn_bald {a b k pc' j n t : Nat} {f : Nat → Int32} {x : Int32} (hi : ins i pc = some (.baload, a, b)) (hn : pc + 1 = pc') (ht : t = 1 ∨ t = 2) (ho : h[k]? = some (.inl (t, n, .inl f))) (hj : x = nI j) (hl : j < n) (hN : n < 2 ^ 31) (kk : Wn C i pc' lv (.int (f j) :: st) h Q) : Wn C i pc lv (.int x :: .ref k :: st) h Q := by
  subst hn; subst hj
  exact wn_go hi (fun K r h1 k9 => ⟨nI j, k, st, t, n, f, rfl, ht, ho, vp_in_nI hl hN, by rw [nI_clamp (by omega)]; exact k9⟩) kk
theorem wn_lald {a b k pc' j n : Nat} {f : Nat → Int64} {x : Int32} (hi : ins i pc = some (.laload, a, b)) (hn : pc + 1 = pc') (ho : h[k]? = some (.inl (3, n, .inr (.inl f)))) (hj : x = nI j) (hl : j < n) (hN : n < 2 ^ 31) (kk : Wn C i pc' lv (.long (f j) :: st) h Q) : Wn C i pc lv (.int x :: .ref k :: st) h Q := by
  subst hn; subst hj
  exact wn_go hi (fun K r h1 k9 => ⟨nI j, k, st, n, f, rfl, ho, vp_in_nI hl hN, by rw [nI_clamp (by omega)]; exact k9⟩) kk
theorem wn_last {a b k pc' j n : Nat} {f : Nat → Int64} {x : Int32} {y : Int64} (hi : ins i pc = some (.lastore, a, b)) (hn : pc + 1 = pc') (ho : h[k]? = some (.inl (3, n, .inr (.inl f)))) (hj : x = nI j) (hl : j < n) (hN : n < 2 ^ 31) (kk : Wn C i pc' lv st (h.set k (.inl (3, n, .inr (.inl (vp_updL f j y))))) Q) : Wn C i pc lv (.long y :: .int x :: .ref k :: st) h Q := by
  subst hn; subst hj
  exact wn_go hi (fun K r h1 k9 => ⟨y, nI j, k, st, n, f, rfl, ho, vp_in_nI hl hN, by rw [nI_clamp (by omega)]; exact k9⟩) kk
theorem wn_bastB {a b k pc' j n : Nat} {f : Nat → Int32} {x y : Int32} (hi : ins i pc = some (.bastore, a, b)) (hn : pc + 1 = pc') (ho : h[k]? = some (.inl (1, n, .inl f))) (hj : x = nI j) (hl : j < n) (hN : n < 2 ^ 31) (kk : Wn C i pc' lv st (h.set k (.inl (1, n, .inl (upd f j (vp_nar .byte y))))) Q) : Wn C i pc lv (.int y :: .int x :: .ref k :: st) h Q := by
  subst hn; subst hj
  exact wn_go hi (fun K r h1 k9 => ⟨y, nI j, k, st, n, f, rfl, vp_in_nI hl hN, Or.inl ⟨ho, by rw [nI_clamp (by omega)]; exact k9⟩⟩) kk
theorem wn_bastZ {a b k pc' j n : Nat} {f : Nat → Int32} {x y : Int32} (hi : ins i pc = some (.bastore, a, b)) (hn : pc + 1 = pc') (ho : h[k]? = some (.inl (2, n, .inl f))) (hj : x = nI j) (hl : j < n) (hN : n < 2 ^ 31) (kk : Wn C i pc' lv st (h.set k (.inl (2, n, .inl (upd f j (vp_nar .boolean y))))) Q) : Wn C i pc lv (.int y :: .int x :: .ref k :: st) h Q := by
  subst hn; subst hj
  exact wn_go hi (fun K r h1 k9 => ⟨y, nI j, k, st, n, f, rfl, vp_in_nI hl hN, Or.inr ⟨ho, by rw [nI_clamp (by omega)]; exact k9⟩⟩) kk
theorem opVir_lt {cT sT : Nat} {K : aK} {c s a : Nat} (ha : a < 244) : opVir C cT sT K pc lv st h c s a = (mKd a = 0 ∧ ∃ As k r fs, popN (mArg a) [] st = some (As, .ref k :: r) ∧ h[k]? = some (.inr (mOwn a, fs)) ∧ opCall C cT sT K pc lv h c s a (.ref k :: As) r) := by
  unfold opVir
  split <;> first | (exfalso; omega) | rfl
theorem opSta_lt {cT sT : Nat} {K : aK} {c s a : Nat} (ha : a < 244) : opSta C cT sT K pc lv st h c s a = (mKd a = 1 ∧ ∃ As r, popN (mArg a) [] st = some (As, r) ∧ opCall C cT sT K pc lv h c s a As r) := by
  unfold opSta
  split <;> first | (exfalso; omega) | rfl
theorem wn_vir {ix a b k pc' : Nat} {As r : List Value} {fs : List Value} {rv : Option Value} {h' : aH} (hi : ins i pc = some (.invokevirtual ix, a, b)) (hn : pc + 3 = pc') (ha : a < 244) (hk : mKd a = 0) (hp : popN (mArg a) [] st = some (As, .ref k :: r)) (ho : h[k]? = some (.inr (mOwn a, fs))) (h8 : (r.map fun v => v.category).sum ≤ 8) (hc : C a (.ref k :: As) h rv h' 0 0) (kk : Wn C i pc' lv (rv.toList ++ r) h' Q) : Wn C i pc lv st h Q := by
  subst hn
  refine wn_go hi (fun K r9 h1 k9 => ?_) kk
  show opVir C 0 0 K pc lv st h 0 0 a
  rw [opVir_lt ha]
  exact ⟨hk, As, k, r, fs, hp, ho, ha, h8, rv, h', 0, 0, hc, Nat.le_refl _, Nat.le_refl _, k9⟩
theorem wn_sta {ix a b pc' : Nat} {As r : List Value} {rv : Option Value} {h' : aH} (hi : ins i pc = some (.invokestatic ix, a, b)) (hn : pc + 3 = pc') (ha : a < 244) (hk : mKd a = 1) (hp : popN (mArg a) [] st = some (As, r)) (h8 : (r.map fun v => v.category).sum ≤ 8) (hc : C a As h rv h' 0 0) (kk : Wn C i pc' lv (rv.toList ++ r) h' Q) : Wn C i pc lv st h Q := by
  subst hn
  refine wn_go hi (fun K r9 h1 k9 => ?_) kk
  show opSta C 0 0 K pc lv st h 0 0 a
  rw [opSta_lt ha]
  exact ⟨hk, As, r, hp, ha, h8, rv, h', 0, 0, hc, Nat.le_refl _, Nat.le_refl _, k9⟩
theorem wn_virI {ix a b k pc' : Nat} {As r : List Value} {fs : List Value} {x : Int32} {h' : aH} (hi : ins i pc = some (.invokevirtual ix, a, b)) (hn : pc + 3 = pc') (ha : a < 244) (hk : mKd a = 0) (hp : popN (mArg a) [] st = some (As, .ref k :: r)) (ho : h[k]? = some (.inr (mOwn a, fs))) (h8 : (r.map fun v => v.category).sum ≤ 8) (hc : C a (.ref k :: As) h (some (.int x)) h' 0 0) (kk : Wn C i pc' lv (.int x :: r) h' Q) : Wn C i pc lv st h Q := wn_vir hi hn ha hk hp ho h8 hc kk
theorem wn_virL {ix a b k pc' : Nat} {As r : List Value} {fs : List Value} {x : Int64} {h' : aH} (hi : ins i pc = some (.invokevirtual ix, a, b)) (hn : pc + 3 = pc') (ha : a < 244) (hk : mKd a = 0) (hp : popN (mArg a) [] st = some (As, .ref k :: r)) (ho : h[k]? = some (.inr (mOwn a, fs))) (h8 : (r.map fun v => v.category).sum ≤ 8) (hc : C a (.ref k :: As) h (some (.long x)) h' 0 0) (kk : Wn C i pc' lv (.long x :: r) h' Q) : Wn C i pc lv st h Q := wn_vir hi hn ha hk hp ho h8 hc kk
theorem wn_virV {ix a b k pc' : Nat} {As r : List Value} {fs : List Value} {h' : aH} (hi : ins i pc = some (.invokevirtual ix, a, b)) (hn : pc + 3 = pc') (ha : a < 244) (hk : mKd a = 0) (hp : popN (mArg a) [] st = some (As, .ref k :: r)) (ho : h[k]? = some (.inr (mOwn a, fs))) (h8 : (r.map fun v => v.category).sum ≤ 8) (hc : C a (.ref k :: As) h none h' 0 0) (kk : Wn C i pc' lv r h' Q) : Wn C i pc lv st h Q := wn_vir hi hn ha hk hp ho h8 hc kk
theorem wn_staI {ix a b pc' : Nat} {As r : List Value} {x : Int32} {h' : aH} (hi : ins i pc = some (.invokestatic ix, a, b)) (hn : pc + 3 = pc') (ha : a < 244) (hk : mKd a = 1) (hp : popN (mArg a) [] st = some (As, r)) (h8 : (r.map fun v => v.category).sum ≤ 8) (hc : C a As h (some (.int x)) h' 0 0) (kk : Wn C i pc' lv (.int x :: r) h' Q) : Wn C i pc lv st h Q := wn_sta hi hn ha hk hp h8 hc kk
theorem wn_staL {ix a b pc' : Nat} {As r : List Value} {x : Int64} {h' : aH} (hi : ins i pc = some (.invokestatic ix, a, b)) (hn : pc + 3 = pc') (ha : a < 244) (hk : mKd a = 1) (hp : popN (mArg a) [] st = some (As, r)) (h8 : (r.map fun v => v.category).sum ≤ 8) (hc : C a As h (some (.long x)) h' 0 0) (kk : Wn C i pc' lv (.long x :: r) h' Q) : Wn C i pc lv st h Q := wn_sta hi hn ha hk hp h8 hc kk
theorem wn_virS {ix a b k pc' : Nat} {As r : List Value} {fs : List Value} {Q1 : Option Value → aH → Prop} (hi : ins i pc = some (.invokevirtual ix, a, b)) (hn : pc + 3 = pc') (ha : a < 244) (hk : mKd a = 0) (hp : popN (mArg a) [] st = some (As, .ref k :: r)) (ho : h[k]? = some (.inr (mOwn a, fs))) (h8 : (r.map fun v => v.category).sum ≤ 8) (hc : Sp C a (.ref k :: As) h Q1) (kk : ∀ rv h', Q1 rv h' → Wn C i pc' lv (rv.toList ++ r) h' Q) : Wn C i pc lv st h Q := by
  obtain ⟨rv, h', g1, g2⟩ := hc
  exact wn_vir hi hn ha hk hp ho h8 g1 (kk rv h' g2)
theorem wn_lc {cd : ClassFile.Cond} {off : Int} {a b t f : Nat} {x y : Int64} (hi : ins i pc = some (.ifCond cd off, a, b)) (ht : jmp pc off = t) (hf : pc + 3 = f) (kt : jL cd x.toInt y.toInt → Wn C i t lv st h Q) (kf : ¬ jL cd x.toInt y.toInt → Wn C i f lv st h Q) : Wn C i pc lv (.int (lg_cmp x y) :: st) h Q :=
  wn_ifc hi ht hf (fun q => kt ((jL_of cd x y).1.mp q)) (fun q => kf ((jL_of cd x y).2.mp q))
theorem wn_iret {a b : Nat} {ty : FieldType} {x : Int32} (hi : ins i pc = some (.ireturn, a, b)) (hr : mRet i = some ty) (hn : narrow ty (.int x) = .int x) (hQ : Q (some (.int x)) h) : Wn C i pc lv [.int x] h Q := wn_end hi (fun K => ⟨x, ty, rfl, rfl, rfl, rfl, hr, hn⟩) hQ
theorem wn_lret {a b : Nat} {x : Int64} (hi : ins i pc = some (.lreturn, a, b)) (hr : mRet i = some .long) (hQ : Q (some (.long x)) h) : Wn C i pc lv [.long x] h Q := wn_end hi (fun K => ⟨x, rfl, rfl, rfl, rfl, hr⟩) hQ
theorem wn_vret {a b : Nat} (hi : ins i pc = some (.return_, a, b)) (hr : mRet i = none) (hQ : Q none h) : Wn C i pc lv [] h Q := wn_end hi (fun K => ⟨rfl, rfl, rfl, rfl, hr⟩) hQ
end WNR
theorem Rn_of {d j : Nat} {As : List Value} {h h1 : aH} {rv : Option Value} (hj : j < 244) (hs : (lg_sl As).length ≤ mMax j) (k : Wn (Rn d) j 0 (lv_args 0 As) [] h (fun r h9 => r = rv ∧ h9 = h1)) : Rn (d + 1) j As h rv h1 0 0 := by
  obtain ⟨n, r, h9, hE, rfl, rfl⟩ := k
  exact ⟨hj, hs, n, hE⟩
theorem Sp_of {d j : Nat} {As : List Value} {h : aH} {Q : Option Value → aH → Prop} (hj : j < 244) (hs : (lg_sl As).length ≤ mMax j) (k : Wn (Rn d) j 0 (lv_args 0 As) [] h Q) : Sp (Rn (d + 1)) j As h Q := by
  obtain ⟨n, r, h9, hE, hQ⟩ := k
  exact ⟨r, h9, ⟨hj, hs, n, hE⟩, hQ⟩
theorem nar_bI (p : Prop) : narrow .boolean (.int (bI p)) = .int (bI p) := by
  by_cases h : p
  · rw [bI_t h]; decide
  · rw [bI_f h]; decide
