/-! RULES over the small machine, where cells may be made (c1, s1: cells and slots made so far; sT: slots at most) -/
def Wc (C : aC) (i pc : Nat) (lv : aL) (st : List Value) (h : aH) (c1 s1 sT : Nat) (Q : Option Value → aH → Nat → Prop) : Prop := ∃ n r h1 cT, c1 ≤ cT ∧ Ev C i n pc lv st h c1 s1 r h1 cT sT ∧ Q r h1 cT
section WCR
variable {C : aC} {i pc : Nat} {lv : aL} {st : List Value} {h : aH} {c1 s1 sT : Nat} {Q : Option Value → aH → Nat → Prop}
theorem wc_go2 {op : Instr} {a b pc' c2 s2 : Nat} {lv' : aL} {st' : List Value} {h' : aH} (hi : ins i pc = some (op, a, b)) (hc : c1 ≤ c2) (hg : ∀ (K : aK) (r : Option Value) (h1 : aH) (cT : Nat), c2 ≤ cT → K pc' lv' st' h' c2 s2 → StpOp C i K op a b pc lv st h c1 s1 r h1 cT sT) (k : Wc C i pc' lv' st' h' c2 s2 sT Q) : Wc C i pc lv st h c1 s1 sT Q := by
  obtain ⟨n, r, h1, cT, h2, hE, hQ⟩ := k
  exact ⟨n + 1, r, h1, cT, Nat.le_trans hc h2, ⟨lv, op, a, b, fun _ h => h, hi, hg _ r h1 cT h2 hE⟩, hQ⟩
theorem wc_go {op : Instr} {a b pc' : Nat} {lv' : aL} {st' : List Value} {h' : aH} (hi : ins i pc = some (op, a, b)) (hg : ∀ (K : aK) (r : Option Value) (h1 : aH) (cT : Nat), K pc' lv' st' h' c1 s1 → StpOp C i K op a b pc lv st h c1 s1 r h1 cT sT) (k : Wc C i pc' lv' st' h' c1 s1 sT Q) : Wc C i pc lv st h c1 s1 sT Q := wc_go2 hi (Nat.le_refl _) (fun K r h1 cT _ kk => hg K r h1 cT kk) k
theorem wc_weak {lv' : aL} (hs : ∀ q ∈ lv', q ∈ lv) (k : Wc C i pc lv' st h c1 s1 sT Q) : Wc C i pc lv st h c1 s1 sT Q := by
  obtain ⟨n, r, h1, cT, hc, hE, hQ⟩ := k
  cases n with
  | zero => exact hE.elim
  | succ n =>
    obtain ⟨lv0, op, a, b, g1, g2, g3⟩ := hE
    exact ⟨n + 1, r, h1, cT, hc, ⟨lv0, op, a, b, fun q hq => hs q (g1 q hq), g2, g3⟩, hQ⟩
theorem wc_icmp {cd : ClassFile.Cond} {off : Int} {a b t f : Nat} {x y : Int32} (hi : ins i pc = some (.if_icmp cd off, a, b)) (ht : jmp pc off = t) (hf : pc + 3 = f) (kt : jT cd x y → Wc C i t lv st h c1 s1 sT Q) (kf : jF cd x y → Wc C i f lv st h c1 s1 sT Q) : Wc C i pc lv (.int y :: .int x :: st) h c1 s1 sT Q := by
  subst ht; subst hf
  rcases jT_or cd x y with ⟨q1, q2⟩ | ⟨q1, q2⟩
  · obtain ⟨n, r, h1, cT, hc, hE, hQ⟩ := kt q1
    exact ⟨n + 1, r, h1, cT, hc, ⟨lv, _, a, b, fun _ h => h, hi, x, y, st, rfl, fun _ => hE, fun q => absurd q q2⟩, hQ⟩
  · obtain ⟨n, r, h1, cT, hc, hE, hQ⟩ := kf q2
    exact ⟨n + 1, r, h1, cT, hc, ⟨lv, _, a, b, fun _ h => h, hi, x, y, st, rfl, fun q => absurd q q1, fun _ => hE⟩, hQ⟩
theorem wc_ifc {cd : ClassFile.Cond} {off : Int} {a b t f : Nat} {x : Int32} (hi : ins i pc = some (.ifCond cd off, a, b)) (ht : jmp pc off = t) (hf : pc + 3 = f) (kt : jT cd x 0 → Wc C i t lv st h c1 s1 sT Q) (kf : jF cd x 0 → Wc C i f lv st h c1 s1 sT Q) : Wc C i pc lv (.int x :: st) h c1 s1 sT Q := by
  subst ht; subst hf
  rcases jT_or cd x 0 with ⟨q1, q2⟩ | ⟨q1, q2⟩
  · obtain ⟨n, r, h1, cT, hc, hE, hQ⟩ := kt q1
    exact ⟨n + 1, r, h1, cT, hc, ⟨lv, _, a, b, fun _ h => h, hi, x, st, rfl, fun _ => hE, fun q => absurd q q2⟩, hQ⟩
  · obtain ⟨n, r, h1, cT, hc, hE, hQ⟩ := kf q2
    exact ⟨n + 1, r, h1, cT, hc, ⟨lv, _, a, b, fun _ h => h, hi, x, st, rfl, fun q => absurd q q1, fun _ => hE⟩, hQ⟩
theorem wc_icmpN {cd : ClassFile.Cond} {off : Int} {a b t f : Nat} {x y : Nat} (hi : ins i pc = some (.if_icmp cd off, a, b)) (ht : jmp pc off = t) (hf : pc + 3 = f) (hx : x < 2 ^ 31) (hy : y < 2 ^ 31) (kt : jN cd x y → Wc C i t lv st h c1 s1 sT Q) (kf : jM cd x y → Wc C i f lv st h c1 s1 sT Q) : Wc C i pc lv (.int (nI y) :: .int (nI x) :: st) h c1 s1 sT Q :=
  wc_icmp hi ht hf (fun q => kt ((jN_of hx hy).1 q)) (fun q => kf ((jN_of hx hy).2 q))
theorem wc_ifN {cd : ClassFile.Cond} {off : Int} {a b t f : Nat} {x : Nat} (hi : ins i pc = some (.ifCond cd off, a, b)) (ht : jmp pc off = t) (hf : pc + 3 = f) (hx : x < 2 ^ 31) (kt : jN cd x 0 → Wc C i t lv st h c1 s1 sT Q) (kf : jM cd x 0 → Wc C i f lv st h c1 s1 sT Q) : Wc C i pc lv (.int (nI x) :: st) h c1 s1 sT Q :=
  wc_ifc hi ht hf (fun q => kt ((jN_of hx (by decide)).1 (by rw [nI_0]; exact q))) (fun q => kf ((jN_of hx (by decide)).2 (by rw [nI_0]; exact q)))
theorem wc_ifeqB {off : Int} {a b t f : Nat} {p : Prop} (hi : ins i pc = some (.ifCond .eq off, a, b)) (ht : jmp pc off = t) (hf : pc + 3 = f) (kt : ¬ p → Wc C i t lv st h c1 s1 sT Q) (kf : p → Wc C i f lv st h c1 s1 sT Q) : Wc C i pc lv (.int (bI p) :: st) h c1 s1 sT Q := by
  refine wc_ifc hi ht hf (fun q => kt (fun hp => ?_)) (fun q => kf ?_)
  · have q : bI p = 0 := q
    rw [bI_t hp] at q
    exact absurd q (by decide)
  · have q : ¬ bI p = 0 := q
    by_cases hp : p
    · exact hp
    · exact absurd (bI_f hp) q
theorem wc_ifneB {off : Int} {a b t f : Nat} {p : Prop} (hi : ins i pc = some (.ifCond .ne off, a, b)) (ht : jmp pc off = t) (hf : pc + 3 = f) (kt : p → Wc C i t lv st h c1 s1 sT Q) (kf : ¬ p → Wc C i f lv st h c1 s1 sT Q) : Wc C i pc lv (.int (bI p) :: st) h c1 s1 sT Q := by
  refine wc_ifc hi ht hf (fun q => kt ?_) (fun q => kf (fun hp => ?_))
  · have q : ¬ bI p = 0 := q
    by_cases hp : p
    · exact hp
    · exact absurd (bI_f hp) q
  · have q : bI p = 0 := q
    rw [bI_t hp] at q
    exact absurd q (by decide)
theorem wc_ic {n : Int} {a b pc' : Nat} {w : Int32} (hi : ins i pc = some (.iconst n, a, b)) (hn : pc + 1 = pc') (hw : Int32.ofInt n = w) (k : Wc C i pc' lv (.int w :: st) h c1 s1 sT Q) : Wc C i pc lv st h c1 s1 sT Q := by
  subst hw; subst hn
  exact wc_go hi (fun K r h1 cT kk => ⟨_, rfl, kk⟩) k
theorem wc_bp {n : Int} {a b pc' : Nat} {w : Int32} (hi : ins i pc = some (.bipush n, a, b)) (hn : pc + 2 = pc') (hw : (Int8.ofInt n).toInt32 = w) (k : Wc C i pc' lv (.int w :: st) h c1 s1 sT Q) : Wc C i pc lv st h c1 s1 sT Q := by
  subst hw; subst hn
  exact wc_go hi (fun K r h1 cT kk => ⟨_, rfl, kk⟩) k
theorem wc_sp {n : Int} {a b pc' : Nat} {w : Int32} (hi : ins i pc = some (.sipush n, a, b)) (hn : pc + 3 = pc') (hw : (Int16.ofInt n).toInt32 = w) (k : Wc C i pc' lv (.int w :: st) h c1 s1 sT Q) : Wc C i pc lv st h c1 s1 sT Q := by
  subst hw; subst hn
  exact wc_go hi (fun K r h1 cT kk => ⟨_, rfl, kk⟩) k
theorem wc_addN {a b pc' x y : Nat} (hi : ins i pc = some (.iadd, a, b)) (hn : pc + 1 = pc') (k : Wc C i pc' lv (.int (nI (x + y)) :: st) h c1 s1 sT Q) : Wc C i pc lv (.int (nI y) :: .int (nI x) :: st) h c1 s1 sT Q := by
  subst hn
  exact wc_go hi (fun K r h1 cT kk => ⟨_, rfl, by rw [nI_add]; exact kk⟩) k
theorem wc_mulN {a b pc' x y : Nat} (hi : ins i pc = some (.imul, a, b)) (hn : pc + 1 = pc') (k : Wc C i pc' lv (.int (nI (x * y)) :: st) h c1 s1 sT Q) : Wc C i pc lv (.int (nI y) :: .int (nI x) :: st) h c1 s1 sT Q := by
  subst hn
  exact wc_go hi (fun K r h1 cT kk => ⟨_, rfl, by rw [pk_mul]; exact kk⟩) k
theorem wc_subN {a b pc' x y : Nat} (hi : ins i pc = some (.isub, a, b)) (hn : pc + 1 = pc') (hl : y ≤ x) (k : Wc C i pc' lv (.int (nI (x - y)) :: st) h c1 s1 sT Q) : Wc C i pc lv (.int (nI y) :: .int (nI x) :: st) h c1 s1 sT Q := by
  subst hn
  exact wc_go hi (fun K r h1 cT kk => ⟨_, rfl, by rw [pk_sub hl]; exact kk⟩) k
theorem wc_incN {q n a b pc' x : Nat} {lv' : aL} (hi : ins i pc = some (.iinc q (n : Int), a, b)) (hn : pc + 3 = pc') (hg : lvG lv q = some (.int (nI x))) (hm : q < mMax i) (hv : lvP lv q (.int (nI (x + n))) = lv') (he : Int32.ofInt (n : Int) = nI n) (k : Wc C i pc' lv' st h c1 s1 sT Q) : Wc C i pc lv st h c1 s1 sT Q := by
  subst hn; subst hv
  exact wc_go hi (fun K r h1 cT kk => ⟨nI x, hg, hm, by rw [he, nI_add]; exact kk⟩) k
theorem wc_ld {op : Instr} {a b q kin pc' : Nat} {v : Value} (hi : ins i pc = some (op, a, b)) (hd : ∀ (K : aK) (r : Option Value) (h1 : aH) (cT : Nat), StpOp C i K op a b pc lv st h c1 s1 r h1 cT sT = opLd K pc' lv st h c1 s1 q kin) (hg : lvG lv q = some v) (hk : kd v = kin) (k : Wc C i pc' lv (v :: st) h c1 s1 sT Q) : Wc C i pc lv st h c1 s1 sT Q := wc_go hi (fun K r h1 cT kk => by rw [hd]; exact ⟨v, hg, hk, kk⟩) k
theorem wc_st {op : Instr} {a b q kin pc' : Nat} {v : Value} {lv' : aL} (hi : ins i pc = some (op, a, b)) (hd : ∀ (K : aK) (r : Option Value) (h1 : aH) (cT : Nat), StpOp C i K op a b pc lv (v :: st) h c1 s1 r h1 cT sT = opSt i K pc' lv (v :: st) h c1 s1 q kin) (hk : kd v = kin) (hm : q + (if kin = 1 then 1 else 0) < mMax i) (hv : lvP lv q v = lv') (k : Wc C i pc' lv' st h c1 s1 sT Q) : Wc C i pc lv (v :: st) h c1 s1 sT Q := by
  subst hv
  exact wc_go hi (fun K r h1 cT kk => by rw [hd]; exact ⟨v, st, rfl, hk, hm, kk⟩) k
theorem wc_pu {op : Instr} {a b pc' : Nat} {st' : List Value} (hi : ins i pc = some (op, a, b)) (hd : ∀ (K : aK) (r : Option Value) (h1 : aH) (cT : Nat), StpOp C i K op a b pc lv st h c1 s1 r h1 cT sT = ∃ st9, pureOp op st = some st9 ∧ K (pc + lenOf op) lv st9 h c1 s1) (hn : pc + lenOf op = pc') (hp : pureOp op st = some st') (k : Wc C i pc' lv st' h c1 s1 sT Q) : Wc C i pc lv st h c1 s1 sT Q := by
  subst hn
  exact wc_go hi (fun K r h1 cT kk => by rw [hd]; exact ⟨_, hp, kk⟩) k
theorem wc_jp {off : Int} {a b pc' : Nat} (hi : ins i pc = some (.goto off, a, b)) (hn : jmp pc off = pc') (k : Wc C i pc' lv st h c1 s1 sT Q) : Wc C i pc lv st h c1 s1 sT Q := by
  subst hn
  exact wc_go hi (fun K r h1 cT kk => kk) k
theorem wc_get {ix a b k pc' : Nat} {fs : List Value} {v : Value} (hi : ins i pc = some (.getfield ix, a, b)) (hn : pc + 3 = pc') (ho : h[k]? = some (.inr (a, fs))) (hv : fs[b]? = some v) (kk : Wc C i pc' lv (v :: st) h c1 s1 sT Q) : Wc C i pc lv (.ref k :: st) h c1 s1 sT Q := by
  subst hn
  exact wc_go hi (fun K r h1 cT k9 => ⟨k, st, fs, v, rfl, ho, hv, k9⟩) kk
theorem wc_put {ix a b k pc' : Nat} {fs : List Value} {v : Value} (hi : ins i pc = some (.putfield ix, a, b)) (hn : pc + 3 = pc') (ho : h[k]? = some (.inr (a, fs))) (hv : b < fs.length) (hp : putOK a b v) (kk : Wc C i pc' lv st (h.set k (.inr (a, fs.set b v))) c1 s1 sT Q) : Wc C i pc lv (v :: .ref k :: st) h c1 s1 sT Q := by
  subst hn
  exact wc_go hi (fun K r h1 cT k9 => ⟨k, st, fs, v, rfl, ho, hv, hp, k9⟩) kk
theorem wc_iald {a b k pc' j n : Nat} {f : Nat → Int32} {x : Int32} (hi : ins i pc = some (.iaload, a, b)) (hn : pc + 1 = pc') (ho : h[k]? = some (.inl (0, n, .inl f))) (hj : x = nI j) (hl : j < n) (hN : n < 2 ^ 31) (kk : Wc C i pc' lv (.int (f j) :: st) h c1 s1 sT Q) : Wc C i pc lv (.int x :: .ref k :: st) h c1 s1 sT Q := by
  subst hn; subst hj
  exact wc_go hi (fun K r h1 cT k9 => Or.inl ⟨nI j, k, st, n, f, rfl, ho, vp_in_nI hl hN, by rw [nI_clamp (by omega)]; exact k9⟩) kk
theorem wc_iast {a b k pc' j n : Nat} {f : Nat → Int32} {x y : Int32} (hi : ins i pc = some (.iastore, a, b)) (hn : pc + 1 = pc') (ho : h[k]? = some (.inl (0, n, .inl f))) (hj : x = nI j) (hl : j < n) (hN : n < 2 ^ 31) (kk : Wc C i pc' lv st (h.set k (.inl (0, n, .inl (upd f j y)))) c1 s1 sT Q) : Wc C i pc lv (.int y :: .int x :: .ref k :: st) h c1 s1 sT Q := by
  subst hn; subst hj
  exact wc_go hi (fun K r h1 cT k9 => ⟨y, nI j, k, st, n, f, rfl, ho, vp_in_nI hl hN, by rw [nI_clamp (by omega)]; exact k9⟩) kk
theorem wc_bald {a b k pc' j n t : Nat} {f : Nat → Int32} {x : Int32} (hi : ins i pc = some (.baload, a, b)) (hn : pc + 1 = pc') (ht : t = 1 ∨ t = 2) (ho : h[k]? = some (.inl (t, n, .inl f))) (hj : x = nI j) (hl : j < n) (hN : n < 2 ^ 31) (kk : Wc C i pc' lv (.int (f j) :: st) h c1 s1 sT Q) : Wc C i pc lv (.int x :: .ref k :: st) h c1 s1 sT Q := by
  subst hn; subst hj
  exact wc_go hi (fun K r h1 cT k9 => ⟨nI j, k, st, t, n, f, rfl, ht, ho, vp_in_nI hl hN, by rw [nI_clamp (by omega)]; exact k9⟩) kk
theorem wc_lald {a b k pc' j n : Nat} {f : Nat → Int64} {x : Int32} (hi : ins i pc = some (.laload, a, b)) (hn : pc + 1 = pc') (ho : h[k]? = some (.inl (3, n, .inr (.inl f)))) (hj : x = nI j) (hl : j < n) (hN : n < 2 ^ 31) (kk : Wc C i pc' lv (.long (f j) :: st) h c1 s1 sT Q) : Wc C i pc lv (.int x :: .ref k :: st) h c1 s1 sT Q := by
  subst hn; subst hj
  exact wc_go hi (fun K r h1 cT k9 => ⟨nI j, k, st, n, f, rfl, ho, vp_in_nI hl hN, by rw [nI_clamp (by omega)]; exact k9⟩) kk
theorem wc_last {a b k pc' j n : Nat} {f : Nat → Int64} {x : Int32} {y : Int64} (hi : ins i pc = some (.lastore, a, b)) (hn : pc + 1 = pc') (ho : h[k]? = some (.inl (3, n, .inr (.inl f)))) (hj : x = nI j) (hl : j < n) (hN : n < 2 ^ 31) (kk : Wc C i pc' lv st (h.set k (.inl (3, n, .inr (.inl (vp_updL f j y))))) c1 s1 sT Q) : Wc C i pc lv (.long y :: .int x :: .ref k :: st) h c1 s1 sT Q := by
  subst hn; subst hj
  exact wc_go hi (fun K r h1 cT k9 => ⟨y, nI j, k, st, n, f, rfl, ho, vp_in_nI hl hN, by rw [nI_clamp (by omega)]; exact k9⟩) kk
theorem wc_bastB {a b k pc' j n : Nat} {f : Nat → Int32} {x y : Int32} (hi : ins i pc = some (.bastore, a, b)) (hn : pc + 1 = pc') (ho : h[k]? = some (.inl (1, n, .inl f))) (hj : x = nI j) (hl : j < n) (hN : n < 2 ^ 31) (kk : Wc C i pc' lv st (h.set k (.inl (1, n, .inl (upd f j (vp_nar .byte y))))) c1 s1 sT Q) : Wc C i pc lv (.int y :: .int x :: .ref k :: st) h c1 s1 sT Q := by
  subst hn; subst hj
  exact wc_go hi (fun K r h1 cT k9 => ⟨y, nI j, k, st, n, f, rfl, vp_in_nI hl hN, Or.inl ⟨ho, by rw [nI_clamp (by omega)]; exact k9⟩⟩) kk
theorem wc_bastZ {a b k pc' j n : Nat} {f : Nat → Int32} {x y : Int32} (hi : ins i pc = some (.bastore, a, b)) (hn : pc + 1 = pc') (ho : h[k]? = some (.inl (2, n, .inl f))) (hj : x = nI j) (hl : j < n) (hN : n < 2 ^ 31) (kk : Wc C i pc' lv st (h.set k (.inl (2, n, .inl (upd f j (vp_nar .boolean y))))) c1 s1 sT Q) : Wc C i pc lv (.int y :: .int x :: .ref k :: st) h c1 s1 sT Q := by
  subst hn; subst hj
  exact wc_go hi (fun K r h1 cT k9 => ⟨y, nI j, k, st, n, f, rfl, vp_in_nI hl hN, Or.inr ⟨ho, by rw [nI_clamp (by omega)]; exact k9⟩⟩) kk
theorem wc_lc {cd : ClassFile.Cond} {off : Int} {a b t f : Nat} {x y : Int64} (hi : ins i pc = some (.ifCond cd off, a, b)) (ht : jmp pc off = t) (hf : pc + 3 = f) (kt : jL cd x.toInt y.toInt → Wc C i t lv st h c1 s1 sT Q) (kf : ¬ jL cd x.toInt y.toInt → Wc C i f lv st h c1 s1 sT Q) : Wc C i pc lv (.int (lg_cmp x y) :: st) h c1 s1 sT Q :=
  wc_ifc hi ht hf (fun q => kt ((jL_of cd x y).1.mp q)) (fun q => kf ((jL_of cd x y).2.mp q))
theorem wc_vir {ix a b k pc' cc ss : Nat} {As r : List Value} {fs : List Value} {rv : Option Value} {h' : aH} (hi : ins i pc = some (.invokevirtual ix, a, b)) (hn : pc + 3 = pc') (ha : a < 244) (hk : mKd a = 0) (hp : popN (mArg a) [] st = some (As, .ref k :: r)) (ho : h[k]? = some (.inr (mOwn a, fs))) (h8 : (r.map fun v => v.category).sum ≤ 8) (hc : C a (.ref k :: As) h rv h' cc ss) (hs : s1 + ss ≤ sT) (kk : Wc C i pc' lv (rv.toList ++ r) h' (c1 + cc) (s1 + ss) sT Q) : Wc C i pc lv st h c1 s1 sT Q := by
  subst hn
  refine wc_go2 hi (Nat.le_add_right _ _) (fun K r9 h1 cT hcT k9 => ?_) kk
  show opVir C cT sT K pc lv st h c1 s1 a
  rw [opVir_lt ha]
  exact ⟨hk, As, k, r, fs, hp, ho, ha, h8, rv, h', cc, ss, hc, hcT, hs, k9⟩
theorem opSpe_lt {cT sT : Nat} {K : aK} {c s a : Nat} (ha : a < 244) : opSpe C cT sT K pc lv st h c s a = (mKd a = 2 ∧ ∃ As k r, popN (mArg a) [] st = some (As, .ref k :: r) ∧ opCall C cT sT K pc lv h c s a (.ref k :: As) r) := by
  unfold opSpe
  split <;> first | (exfalso; omega) | rfl
theorem wc_spe {ix a b k pc' cc ss : Nat} {As r : List Value} {h' : aH} (hi : ins i pc = some (.invokespecial ix, a, b)) (hn : pc + 3 = pc') (ha : a < 244) (hk : mKd a = 2) (hp : popN (mArg a) [] st = some (As, .ref k :: r)) (h8 : (r.map fun v => v.category).sum ≤ 8) (hc : C a (.ref k :: As) h none h' cc ss) (hs : s1 + ss ≤ sT) (kk : Wc C i pc' lv r h' (c1 + cc) (s1 + ss) sT Q) : Wc C i pc lv st h c1 s1 sT Q := by
  subst hn
  refine wc_go2 hi (Nat.le_add_right _ _) (fun K r9 h1 cT hcT k9 => ?_) kk
  show opSpe C cT sT K pc lv st h c1 s1 a
  rw [opSpe_lt ha]
  exact ⟨hk, As, k, r, hp, ha, h8, none, h', cc, ss, hc, hcT, hs, k9⟩
theorem wc_obj {ix b k pc' : Nat} {r : List Value} (hi : ins i pc = some (.invokespecial ix, 1000, b)) (hn : pc + 3 = pc') (h8 : (r.map fun v => v.category).sum ≤ 8) (kk : Wc C i pc' lv r h c1 s1 sT Q) : Wc C i pc lv (.ref k :: r) h c1 s1 sT Q := by
  subst hn
  exact wc_go hi (fun K r9 h1 cT k9 => ⟨k, r, rfl, h8, k9⟩) kk
theorem wc_new {ix a b pc' : Nat} (hi : ins i pc = some (.new ix, a, b)) (hn : pc + 3 = pc') (ha : a < 10) (hs : s1 + nfl a ≤ sT) (kk : Wc C i pc' lv (.ref h.length :: st) (h ++ [.inr (a, dfl a)]) (c1 + 1) (s1 + nfl a) sT Q) : Wc C i pc lv st h c1 s1 sT Q := by
  subst hn
  exact wc_go2 hi (Nat.le_add_right _ _) (fun K r9 h1 cT hcT k9 => ⟨ha, hcT, hs, k9⟩) kk
theorem wc_newa {ty : ArrayType} {a b pc' n : Nat} {x : Int32} (hi : ins i pc = some (.newarray ty, a, b)) (hn : pc + 2 = pc') (hx : x = nI n) (ht : arT ty < 4) (hN : n ≤ 1000000) (hs : s1 + n ≤ sT) (kk : Wc C i pc' lv (.ref h.length :: st) (h ++ [.inl (arT ty, arZ ty n)]) (c1 + 1) (s1 + n) sT Q) : Wc C i pc lv (.int x :: st) h c1 s1 sT Q := by
  subst hn; subst hx
  have e : (nI n).toNatClampNeg = n := nI_clamp (by omega)
  exact wc_go2 hi (Nat.le_add_right _ _) (fun K r9 h1 cT hcT k9 => ⟨nI n, st, rfl, nI_pos (by omega), ht, by rw [e]; exact hN, hcT, by rw [e]; exact hs, by rw [e]; exact k9⟩) kk
theorem wc_anew {ix a b pc' n : Nat} {x : Int32} (hi : ins i pc = some (.anewarray ix, a, b)) (hn : pc + 3 = pc') (hx : x = nI n) (ht : a = 4 ∨ a = 5) (hN : n ≤ 1000000) (hs : s1 + n ≤ sT) (kk : Wc C i pc' lv (.ref h.length :: st) (h ++ [.inl (a, n, .inr (.inr (.inr (.inr (fun _ => none)))))]) (c1 + 1) (s1 + n) sT Q) : Wc C i pc lv (.int x :: st) h c1 s1 sT Q := by
  subst hn; subst hx
  have e : (nI n).toNatClampNeg = n := nI_clamp (by omega)
  exact wc_go2 hi (Nat.le_add_right _ _) (fun K r9 h1 cT hcT k9 => ⟨nI n, st, rfl, nI_pos (by omega), ht, by rw [e]; exact hN, hcT, by rw [e]; exact hs, by rw [e]; exact k9⟩) kk
theorem wc_iret {a b : Nat} {ty : FieldType} {x : Int32} (hi : ins i pc = some (.ireturn, a, b)) (hr : mRet i = some ty) (hn : narrow ty (.int x) = .int x) (hQ : Q (some (.int x)) h c1) : Wc C i pc lv [.int x] h c1 s1 sT Q := ⟨1, _, h, c1, Nat.le_refl _, ⟨lv, _, a, b, fun _ h => h, hi, x, ty, rfl, rfl, rfl, rfl, hr, hn⟩, hQ⟩
theorem wc_vret {a b : Nat} (hi : ins i pc = some (.return_, a, b)) (hr : mRet i = none) (hQ : Q none h c1) : Wc C i pc lv [] h c1 s1 sT Q := ⟨1, _, h, c1, Nat.le_refl _, ⟨lv, _, a, b, fun _ h => h, hi, rfl, rfl, rfl, rfl, hr⟩, hQ⟩
end WCR
theorem Rc_of {d j sT : Nat} {As : List Value} {h h1 : aH} {rv : Option Value} {cT : Nat} (hj : j < 244) (hs : (lg_sl As).length ≤ mMax j) (k : Wc (Rn d) j 0 (lv_args 0 As) [] h 0 0 sT (fun r h9 c9 => r = rv ∧ h9 = h1 ∧ c9 = cT)) : Rn (d + 1) j As h rv h1 cT sT := by
  obtain ⟨n, r, h9, c9, hc, hE, rfl, rfl, rfl⟩ := k
  exact ⟨hj, hs, n, hE⟩
