/-! CELLS THAT ARE MADE -/
section WCE
variable {C : aC} {i pc : Nat} {lv : aL} {st : List Value} {h : aH} {c1 s1 sT : Nat} {Q : Option Value → aH → Nat → Prop}
theorem wc_newE {ix a b pc' k c2 s2 : Nat} (hi : ins i pc = some (.new ix, a, b)) (hn : pc + 3 = pc') (ha : a < 10) (hs : s2 ≤ sT) (hl : h.length = k) (ec : c1 + 1 = c2) (es : s1 + nfl a = s2) (kk : Wc C i pc' lv (.ref k :: st) (h ++ [.inr (a, dfl a)]) c2 s2 sT Q) : Wc C i pc lv st h c1 s1 sT Q := by
  subst hl; subst ec; subst es; exact wc_new hi hn ha hs kk
theorem wc_newaE {ty : ArrayType} {a b pc' n k c2 s2 : Nat} {x : Int32} (hi : ins i pc = some (.newarray ty, a, b)) (hn : pc + 2 = pc') (hx : x = nI n) (ht : arT ty < 4) (hN : n ≤ 1000000) (hs : s2 ≤ sT) (hl : h.length = k) (ec : c1 + 1 = c2) (es : s1 + n = s2) (kk : Wc C i pc' lv (.ref k :: st) (h ++ [.inl (arT ty, arZ ty n)]) c2 s2 sT Q) : Wc C i pc lv (.int x :: st) h c1 s1 sT Q := by
  subst hl; subst ec; subst es; exact wc_newa hi hn hx ht hN hs kk
theorem wc_anewE {ix a b pc' n k c2 s2 : Nat} {x : Int32} (hi : ins i pc = some (.anewarray ix, a, b)) (hn : pc + 3 = pc') (hx : x = nI n) (ht : a = 4 ∨ a = 5) (hN : n ≤ 1000000) (hs : s2 ≤ sT) (hl : h.length = k) (ec : c1 + 1 = c2) (es : s1 + n = s2) (kk : Wc C i pc' lv (.ref k :: st) (h ++ [.inl (a, n, .inr (.inr (.inr (.inr (fun _ => none)))))]) c2 s2 sT Q) : Wc C i pc lv (.int x :: st) h c1 s1 sT Q := by
  subst hl; subst ec; subst es; exact wc_anew hi hn hx ht hN hs kk
theorem wc_speS {ix a b k pc' cc ss c2 s2 : Nat} {As r : List Value} {P : aH → Prop} (hi : ins i pc = some (.invokespecial ix, a, b)) (hn : pc + 3 = pc') (ha : a < 244) (hk : mKd a = 2) (hp : popN (mArg a) [] st = some (As, .ref k :: r)) (h8 : (r.map fun v => v.category).sum ≤ 8) (hc : ∃ h1, C a (.ref k :: As) h none h1 cc ss ∧ P h1) (ec : c1 + cc = c2) (es : s1 + ss = s2) (hs : s2 ≤ sT) (kk : ∀ h1, P h1 → Wc C i pc' lv r h1 c2 s2 sT Q) : Wc C i pc lv st h c1 s1 sT Q := by
  subst ec; subst es
  obtain ⟨h1, x, y⟩ := hc
  exact wc_spe hi hn ha hk hp h8 x hs (kk h1 y)
theorem wc_virS {ix a b k pc' : Nat} {As r : List Value} {fs : List Value} {P : Option Value → aH → Prop} (hi : ins i pc = some (.invokevirtual ix, a, b)) (hn : pc + 3 = pc') (ha : a < 244) (hk : mKd a = 0) (hp : popN (mArg a) [] st = some (As, .ref k :: r)) (ho : h[k]? = some (.inr (mOwn a, fs))) (h8 : (r.map fun v => v.category).sum ≤ 8) (hc : Sp C a (.ref k :: As) h P) (hs : s1 ≤ sT) (kk : ∀ r9 h1, P r9 h1 → Wc C i pc' lv (r9.toList ++ r) h1 c1 s1 sT Q) : Wc C i pc lv st h c1 s1 sT Q := by
  obtain ⟨r9, h1, x, y⟩ := hc
  exact wc_vir hi hn ha hk hp ho h8 x hs (kk r9 h1 y)
theorem wc_aaldv {a b k pc' j n t : Nat} {f : Nat → Option Nat} {x : Int32} {v : Value} (hi : ins i pc = some (.aaload, a, b)) (hn : pc + 1 = pc') (ht : t = 4 ∨ t = 5) (ho : h[k]? = some (.inl (t, n, .inr (.inr (.inr (.inr f)))))) (hj : x = nI j) (hl : j < n) (hN : n < 2 ^ 31) (hv : va_rf (f j) = v) (kk : Wc C i pc' lv (v :: st) h c1 s1 sT Q) : Wc C i pc lv (.int x :: .ref k :: st) h c1 s1 sT Q := by
  subst hn; subst hj; subst hv
  exact wc_go hi (fun K r h1 cT k9 => ⟨nI j, k, st, t, n, f, rfl, ht, ho, vp_in_nI hl hN, by rw [nI_clamp (by omega)]; exact k9⟩) kk
theorem wc_aast {a b k q pc' j n t : Nat} {f : Nat → Option Nat} {x : Int32} {vs : List Value} (hi : ins i pc = some (.aastore, a, b)) (hn : pc + 1 = pc') (ht : t = 4 ∨ t = 5) (ho : h[k]? = some (.inl (t, n, .inr (.inr (.inr (.inr f)))))) (hq : h[q]? = some (.inr (t, vs))) (hj : x = nI j) (hl : j < n) (hN : n < 2 ^ 31) (kk : Wc C i pc' lv st (h.set k (.inl (t, n, .inr (.inr (.inr (.inr (va_up f j (some q)))))))) c1 s1 sT Q) : Wc C i pc lv (.ref q :: .int x :: .ref k :: st) h c1 s1 sT Q := by
  subst hn; subst hj
  exact wc_go hi (fun K r h1 cT k9 => ⟨q, nI j, k, st, t, n, f, vs, rfl, ht, ho, hq, vp_in_nI hl hN, by rw [nI_clamp (by omega)]; exact k9⟩) kk
theorem wc_nn0 {off : Int} {a b f : Nat} (hi : ins i pc = some (.ifnonnull off, a, b)) (hf : pc + 3 = f) (kk : Wc C i f lv st h c1 s1 sT Q) : Wc C i pc lv (.null :: st) h c1 s1 sT Q := by
  subst hf
  exact wc_go hi (fun K r h1 cT k9 => Or.inr ⟨st, rfl, k9⟩) kk
end WCE
theorem Rc_ofS {d j sT cT : Nat} {As : List Value} {h : aH} {rv : Option Value} {P : aH → Prop} (hj : j < 244) (hs : (lg_sl As).length ≤ mMax j) (k : Wc (Rn d) j 0 (lv_args 0 As) [] h 0 0 sT (fun r h9 c9 => r = rv ∧ c9 = cT ∧ P h9)) : ∃ h1, Rn (d + 1) j As h rv h1 cT sT ∧ P h1 := by
  obtain ⟨n, r, h9, c9, hc, hE, rfl, rfl, hP⟩ := k
  exact ⟨h9, ⟨hj, hs, n, hE⟩, hP⟩
theorem ap_old {h : aH} {x y : aE} {k : Nat} (h0 : h[k]? = some y) : (h ++ [x])[k]? = some y := by
  obtain ⟨hk, _⟩ := List.getElem?_eq_some_iff.mp h0
  rw [List.getElem?_append_left hk]; exact h0
theorem ap_new {h : aH} {x : aE} {n : Nat} (hl : h.length = n) : (h ++ [x])[n]? = some x := by
  subst hl
  rw [List.getElem?_append_right (Nat.le_refl _), Nat.sub_self]; rfl
theorem ln_set {h : aH} {x : aE} {k n : Nat} (hl : h.length = n) : (h.set k x).length = n := by rw [List.length_set]; exact hl
theorem ln_app {h : aH} {x : aE} {n : Nat} (hl : h.length = n) : (h ++ [x]).length = n + 1 := by rw [List.length_append, hl]; rfl
theorem fq_set {h h0 : aH} {x : aE} {q k : Nat} (F : ∀ j, j < q → h[j]? = h0[j]?) (hk : q ≤ k) : ∀ j, j < q → (h.set k x)[j]? = h0[j]? := fun j hj => by
  rw [List.getElem?_set_ne (by omega)]; exact F j hj
theorem fq_app {h h0 : aH} {x : aE} {q n : Nat} (F : ∀ j, j < q → h[j]? = h0[j]?) (hl : h.length = n) (hq : q ≤ n) : ∀ j, j < q → (h ++ [x])[j]? = h0[j]? := fun j hj => by
  rw [List.getElem?_append_left (by omega)]; exact F j hj
theorem c_Laws (d : Nat) (h : aH) (q : Nat) (hl : h.length = q + 1) (o0 : isO h q 1 (dfl 1)) : ∃ h1, Rn (d + 1) 11 [.ref (q)] h none h1 10 860 ∧ h1.length = q + 11 ∧ (∀ k, k < q → h1[k]? = h[k]?) ∧ isO h1 q 1 [.int (nI (0)), .ref (q + 1), .ref (q + 2), .ref (q + 3), .ref (q + 4), .ref (q + 5), .ref (q + 6), .ref (q + 7), .int (nI (0)), .ref (q + 8), .ref (q + 9), .ref (q + 10)] ∧ isI h1 (q + 1) 20 ((fun _ => 0)) ∧ isI h1 (q + 2) 20 ((fun _ => 0)) ∧ isI h1 (q + 3) 20 ((fun _ => 0)) ∧ isI h1 (q + 4) 20 ((fun _ => 0)) ∧ isI h1 (q + 5) 20 ((fun _ => 0)) ∧ isI h1 (q + 6) 20 ((fun _ => 0)) ∧ isI h1 (q + 7) 20 ((fun _ => 0)) ∧ isI h1 (q + 8) 240 ((fun _ => 0)) ∧ isI h1 (q + 9) 240 ((fun _ => 0)) ∧ isI h1 (q + 10) 240 ((fun _ => 0)) := by
  have o : isO h q 1 [.int (0), .null, .null, .null, .null, .null, .null, .null, .int (0), .null, .null, .null] := o0
  refine Rc_ofS (P := fun h1 => h1.length = q + 11 ∧ (∀ k, k < q → h1[k]? = h[k]?) ∧ isO h1 q 1 [.int (nI (0)), .ref (q + 1), .ref (q + 2), .ref (q + 3), .ref (q + 4), .ref (q + 5), .ref (q + 6), .ref (q + 7), .int (nI (0)), .ref (q + 8), .ref (q + 9), .ref (q + 10)] ∧ isI h1 (q + 1) 20 ((fun _ => 0)) ∧ isI h1 (q + 2) 20 ((fun _ => 0)) ∧ isI h1 (q + 3) 20 ((fun _ => 0)) ∧ isI h1 (q + 4) 20 ((fun _ => 0)) ∧ isI h1 (q + 5) 20 ((fun _ => 0)) ∧ isI h1 (q + 6) 20 ((fun _ => 0)) ∧ isI h1 (q + 7) 20 ((fun _ => 0)) ∧ isI h1 (q + 8) 240 ((fun _ => 0)) ∧ isI h1 (q + 9) 240 ((fun _ => 0)) ∧ isI h1 (q + 10) 240 ((fun _ => 0))) (by decide) (Nat.le_of_ble_eq_true rfl) ?_
  show Wc _ _ 0 [(0, .ref (q))] [] _ _ _ _ _
  refine wc_ld (pc' := 1) (q := 0) (kin := 2) (v := .ref (q)) rfl (fun _ _ _ _ => rfl) rfl rfl ?_
  refine wc_obj (pc' := 4) rfl rfl (Nat.le_of_ble_eq_true rfl) ?_
  refine wc_ld (pc' := 5) (q := 0) (kin := 2) (v := .ref (q)) rfl (fun _ _ _ _ => rfl) rfl rfl ?_
  refine wc_ic (pc' := 6) (w := nI 0) rfl rfl (by decide) ?_
  refine wc_put (pc' := 9) rfl rfl o (Nat.le_of_ble_eq_true rfl) ⟨rfl, rfl⟩ ?_
  refine wc_ld (pc' := 10) (q := 0) (kin := 2) (v := .ref (q)) rfl (fun _ _ _ _ => rfl) rfl rfl ?_
  refine wc_bp (pc' := 12) (w := nI 20) rfl rfl (by decide) ?_
  refine wc_newaE (pc' := 14) (k := q + 1) (c2 := 1) (s2 := 20) rfl rfl rfl (by decide) (by decide) (by decide) (ln_set hl) rfl rfl ?_
  refine wc_put (pc' := 17) rfl rfl (ap_old (gs_self o)) (Nat.le_of_ble_eq_true rfl) ⟨rfl, rfl⟩ ?_
  refine wc_ld (pc' := 18) (q := 0) (kin := 2) (v := .ref (q)) rfl (fun _ _ _ _ => rfl) rfl rfl ?_
  refine wc_bp (pc' := 20) (w := nI 20) rfl rfl (by decide) ?_
  refine wc_newaE (pc' := 22) (k := q + 2) (c2 := 2) (s2 := 40) rfl rfl rfl (by decide) (by decide) (by decide) (ln_set (ln_app (ln_set hl))) rfl rfl ?_
  refine wc_put (pc' := 25) rfl rfl (ap_old (gs_self (ap_old (gs_self o)))) (Nat.le_of_ble_eq_true rfl) ⟨rfl, rfl⟩ ?_
  refine wc_ld (pc' := 26) (q := 0) (kin := 2) (v := .ref (q)) rfl (fun _ _ _ _ => rfl) rfl rfl ?_
  refine wc_bp (pc' := 28) (w := nI 20) rfl rfl (by decide) ?_
  refine wc_newaE (pc' := 30) (k := q + 3) (c2 := 3) (s2 := 60) rfl rfl rfl (by decide) (by decide) (by decide) (ln_set (ln_app (ln_set (ln_app (ln_set hl))))) rfl rfl ?_
  refine wc_put (pc' := 33) rfl rfl (ap_old (gs_self (ap_old (gs_self (ap_old (gs_self o)))))) (Nat.le_of_ble_eq_true rfl) ⟨rfl, rfl⟩ ?_
  refine wc_ld (pc' := 34) (q := 0) (kin := 2) (v := .ref (q)) rfl (fun _ _ _ _ => rfl) rfl rfl ?_
  refine wc_bp (pc' := 36) (w := nI 20) rfl rfl (by decide) ?_
  refine wc_newaE (pc' := 38) (k := q + 4) (c2 := 4) (s2 := 80) rfl rfl rfl (by decide) (by decide) (by decide) (ln_set (ln_app (ln_set (ln_app (ln_set (ln_app (ln_set hl))))))) rfl rfl ?_
  refine wc_put (pc' := 41) rfl rfl (ap_old (gs_self (ap_old (gs_self (ap_old (gs_self (ap_old (gs_self o)))))))) (Nat.le_of_ble_eq_true rfl) ⟨rfl, rfl⟩ ?_
  refine wc_ld (pc' := 42) (q := 0) (kin := 2) (v := .ref (q)) rfl (fun _ _ _ _ => rfl) rfl rfl ?_
  refine wc_bp (pc' := 44) (w := nI 20) rfl rfl (by decide) ?_
  refine wc_newaE (pc' := 46) (k := q + 5) (c2 := 5) (s2 := 100) rfl rfl rfl (by decide) (by decide) (by decide) (ln_set (ln_app (ln_set (ln_app (ln_set (ln_app (ln_set (ln_app (ln_set hl))))))))) rfl rfl ?_
  refine wc_put (pc' := 49) rfl rfl (ap_old (gs_self (ap_old (gs_self (ap_old (gs_self (ap_old (gs_self (ap_old (gs_self o)))))))))) (Nat.le_of_ble_eq_true rfl) ⟨rfl, rfl⟩ ?_
  refine wc_ld (pc' := 50) (q := 0) (kin := 2) (v := .ref (q)) rfl (fun _ _ _ _ => rfl) rfl rfl ?_
  refine wc_bp (pc' := 52) (w := nI 20) rfl rfl (by decide) ?_
  refine wc_newaE (pc' := 54) (k := q + 6) (c2 := 6) (s2 := 120) rfl rfl rfl (by decide) (by decide) (by decide) (ln_set (ln_app (ln_set (ln_app (ln_set (ln_app (ln_set (ln_app (ln_set (ln_app (ln_set hl))))))))))) rfl rfl ?_
  refine wc_put (pc' := 57) rfl rfl (ap_old (gs_self (ap_old (gs_self (ap_old (gs_self (ap_old (gs_self (ap_old (gs_self (ap_old (gs_self o)))))))))))) (Nat.le_of_ble_eq_true rfl) ⟨rfl, rfl⟩ ?_
  refine wc_ld (pc' := 58) (q := 0) (kin := 2) (v := .ref (q)) rfl (fun _ _ _ _ => rfl) rfl rfl ?_
  refine wc_bp (pc' := 60) (w := nI 20) rfl rfl (by decide) ?_
  refine wc_newaE (pc' := 62) (k := q + 7) (c2 := 7) (s2 := 140) rfl rfl rfl (by decide) (by decide) (by decide) (ln_set (ln_app (ln_set (ln_app (ln_set (ln_app (ln_set (ln_app (ln_set (ln_app (ln_set (ln_app (ln_set hl))))))))))))) rfl rfl ?_
  refine wc_put (pc' := 65) rfl rfl (ap_old (gs_self (ap_old (gs_self (ap_old (gs_self (ap_old (gs_self (ap_old (gs_self (ap_old (gs_self (ap_old (gs_self o)))))))))))))) (Nat.le_of_ble_eq_true rfl) ⟨rfl, rfl⟩ ?_
  refine wc_ld (pc' := 66) (q := 0) (kin := 2) (v := .ref (q)) rfl (fun _ _ _ _ => rfl) rfl rfl ?_
  refine wc_ic (pc' := 67) (w := nI 0) rfl rfl (by decide) ?_
  refine wc_put (pc' := 70) rfl rfl (gs_self (ap_old (gs_self (ap_old (gs_self (ap_old (gs_self (ap_old (gs_self (ap_old (gs_self (ap_old (gs_self (ap_old (gs_self o))))))))))))))) (Nat.le_of_ble_eq_true rfl) ⟨rfl, rfl⟩ ?_
  refine wc_ld (pc' := 71) (q := 0) (kin := 2) (v := .ref (q)) rfl (fun _ _ _ _ => rfl) rfl rfl ?_
  refine wc_sp (pc' := 74) (w := nI 240) rfl rfl (by decide) ?_
  refine wc_newaE (pc' := 76) (k := q + 8) (c2 := 8) (s2 := 380) rfl rfl rfl (by decide) (by decide) (by decide) (ln_set (ln_set (ln_app (ln_set (ln_app (ln_set (ln_app (ln_set (ln_app (ln_set (ln_app (ln_set (ln_app (ln_set (ln_app (ln_set hl)))))))))))))))) rfl rfl ?_
  refine wc_put (pc' := 79) rfl rfl (ap_old (gs_self (gs_self (ap_old (gs_self (ap_old (gs_self (ap_old (gs_self (ap_old (gs_self (ap_old (gs_self (ap_old (gs_self (ap_old (gs_self o))))))))))))))))) (Nat.le_of_ble_eq_true rfl) ⟨rfl, rfl⟩ ?_
  refine wc_ld (pc' := 80) (q := 0) (kin := 2) (v := .ref (q)) rfl (fun _ _ _ _ => rfl) rfl rfl ?_
  refine wc_sp (pc' := 83) (w := nI 240) rfl rfl (by decide) ?_
  refine wc_newaE (pc' := 85) (k := q + 9) (c2 := 9) (s2 := 620) rfl rfl rfl (by decide) (by decide) (by decide) (ln_set (ln_app (ln_set (ln_set (ln_app (ln_set (ln_app (ln_set (ln_app (ln_set (ln_app (ln_set (ln_app (ln_set (ln_app (ln_set (ln_app (ln_set hl)))))))))))))))))) rfl rfl ?_
  refine wc_put (pc' := 88) rfl rfl (ap_old (gs_self (ap_old (gs_self (gs_self (ap_old (gs_self (ap_old (gs_self (ap_old (gs_self (ap_old (gs_self (ap_old (gs_self (ap_old (gs_self (ap_old (gs_self o))))))))))))))))))) (Nat.le_of_ble_eq_true rfl) ⟨rfl, rfl⟩ ?_
  refine wc_ld (pc' := 89) (q := 0) (kin := 2) (v := .ref (q)) rfl (fun _ _ _ _ => rfl) rfl rfl ?_
  refine wc_sp (pc' := 92) (w := nI 240) rfl rfl (by decide) ?_
  refine wc_newaE (pc' := 94) (k := q + 10) (c2 := 10) (s2 := 860) rfl rfl rfl (by decide) (by decide) (by decide) (ln_set (ln_app (ln_set (ln_app (ln_set (ln_set (ln_app (ln_set (ln_app (ln_set (ln_app (ln_set (ln_app (ln_set (ln_app (ln_set (ln_app (ln_set (ln_app (ln_set hl)))))))))))))))))))) rfl rfl ?_
  refine wc_put (pc' := 97) rfl rfl (ap_old (gs_self (ap_old (gs_self (ap_old (gs_self (gs_self (ap_old (gs_self (ap_old (gs_self (ap_old (gs_self (ap_old (gs_self (ap_old (gs_self (ap_old (gs_self (ap_old (gs_self o))))))))))))))))))))) (Nat.le_of_ble_eq_true rfl) ⟨rfl, rfl⟩ ?_
  exact wc_vret rfl rfl ⟨rfl, rfl, (ln_set (ln_app (ln_set (ln_app (ln_set (ln_app (ln_set (ln_set (ln_app (ln_set (ln_app (ln_set (ln_app (ln_set (ln_app (ln_set (ln_app (ln_set (ln_app (ln_set (ln_app (ln_set hl)))))))))))))))))))))), (fq_set (fq_app (fq_set (fq_app (fq_set (fq_app (fq_set (fq_set (fq_app (fq_set (fq_app (fq_set (fq_app (fq_set (fq_app (fq_set (fq_app (fq_set (fq_app (fq_set (fq_app (fq_set (fun _ _ => rfl) (by omega)) (ln_set hl) (by omega)) (by omega)) (ln_set (ln_app (ln_set hl))) (by omega)) (by omega)) (ln_set (ln_app (ln_set (ln_app (ln_set hl))))) (by omega)) (by omega)) (ln_set (ln_app (ln_set (ln_app (ln_set (ln_app (ln_set hl))))))) (by omega)) (by omega)) (ln_set (ln_app (ln_set (ln_app (ln_set (ln_app (ln_set (ln_app (ln_set hl))))))))) (by omega)) (by omega)) (ln_set (ln_app (ln_set (ln_app (ln_set (ln_app (ln_set (ln_app (ln_set (ln_app (ln_set hl))))))))))) (by omega)) (by omega)) (ln_set (ln_app (ln_set (ln_app (ln_set (ln_app (ln_set (ln_app (ln_set (ln_app (ln_set (ln_app (ln_set hl))))))))))))) (by omega)) (by omega)) (by omega)) (ln_set (ln_set (ln_app (ln_set (ln_app (ln_set (ln_app (ln_set (ln_app (ln_set (ln_app (ln_set (ln_app (ln_set (ln_app (ln_set hl)))))))))))))))) (by omega)) (by omega)) (ln_set (ln_app (ln_set (ln_set (ln_app (ln_set (ln_app (ln_set (ln_app (ln_set (ln_app (ln_set (ln_app (ln_set (ln_app (ln_set (ln_app (ln_set hl)))))))))))))))))) (by omega)) (by omega)) (ln_set (ln_app (ln_set (ln_app (ln_set (ln_set (ln_app (ln_set (ln_app (ln_set (ln_app (ln_set (ln_app (ln_set (ln_app (ln_set (ln_app (ln_set (ln_app (ln_set hl)))))))))))))))))))) (by omega)) (by omega)), (gs_self (ap_old (gs_self (ap_old (gs_self (ap_old (gs_self (gs_self (ap_old (gs_self (ap_old (gs_self (ap_old (gs_self (ap_old (gs_self (ap_old (gs_self (ap_old (gs_self (ap_old (gs_self o)))))))))))))))))))))), (gs_ne (by omega) (ap_old (gs_ne (by omega) (ap_old (gs_ne (by omega) (ap_old (gs_ne (by omega) (gs_ne (by omega) (ap_old (gs_ne (by omega) (ap_old (gs_ne (by omega) (ap_old (gs_ne (by omega) (ap_old (gs_ne (by omega) (ap_old (gs_ne (by omega) (ap_old (gs_ne (by omega) (ap_new (ln_set hl)))))))))))))))))))))), (gs_ne (by omega) (ap_old (gs_ne (by omega) (ap_old (gs_ne (by omega) (ap_old (gs_ne (by omega) (gs_ne (by omega) (ap_old (gs_ne (by omega) (ap_old (gs_ne (by omega) (ap_old (gs_ne (by omega) (ap_old (gs_ne (by omega) (ap_old (gs_ne (by omega) (ap_new (ln_set (ln_app (ln_set hl)))))))))))))))))))))), (gs_ne (by omega) (ap_old (gs_ne (by omega) (ap_old (gs_ne (by omega) (ap_old (gs_ne (by omega) (gs_ne (by omega) (ap_old (gs_ne (by omega) (ap_old (gs_ne (by omega) (ap_old (gs_ne (by omega) (ap_old (gs_ne (by omega) (ap_new (ln_set (ln_app (ln_set (ln_app (ln_set hl)))))))))))))))))))))), (gs_ne (by omega) (ap_old (gs_ne (by omega) (ap_old (gs_ne (by omega) (ap_old (gs_ne (by omega) (gs_ne (by omega) (ap_old (gs_ne (by omega) (ap_old (gs_ne (by omega) (ap_old (gs_ne (by omega) (ap_new (ln_set (ln_app (ln_set (ln_app (ln_set (ln_app (ln_set hl)))))))))))))))))))))), (gs_ne (by omega) (ap_old (gs_ne (by omega) (ap_old (gs_ne (by omega) (ap_old (gs_ne (by omega) (gs_ne (by omega) (ap_old (gs_ne (by omega) (ap_old (gs_ne (by omega) (ap_new (ln_set (ln_app (ln_set (ln_app (ln_set (ln_app (ln_set (ln_app (ln_set hl)))))))))))))))))))))), (gs_ne (by omega) (ap_old (gs_ne (by omega) (ap_old (gs_ne (by omega) (ap_old (gs_ne (by omega) (gs_ne (by omega) (ap_old (gs_ne (by omega) (ap_new (ln_set (ln_app (ln_set (ln_app (ln_set (ln_app (ln_set (ln_app (ln_set (ln_app (ln_set hl)))))))))))))))))))))), (gs_ne (by omega) (ap_old (gs_ne (by omega) (ap_old (gs_ne (by omega) (ap_old (gs_ne (by omega) (gs_ne (by omega) (ap_new (ln_set (ln_app (ln_set (ln_app (ln_set (ln_app (ln_set (ln_app (ln_set (ln_app (ln_set (ln_app (ln_set hl)))))))))))))))))))))), (gs_ne (by omega) (ap_old (gs_ne (by omega) (ap_old (gs_ne (by omega) (ap_new (ln_set (ln_set (ln_app (ln_set (ln_app (ln_set (ln_app (ln_set (ln_app (ln_set (ln_app (ln_set (ln_app (ln_set (ln_app (ln_set hl)))))))))))))))))))))), (gs_ne (by omega) (ap_old (gs_ne (by omega) (ap_new (ln_set (ln_app (ln_set (ln_set (ln_app (ln_set (ln_app (ln_set (ln_app (ln_set (ln_app (ln_set (ln_app (ln_set (ln_app (ln_set (ln_app (ln_set hl)))))))))))))))))))))), (gs_ne (by omega) (ap_new (ln_set (ln_app (ln_set (ln_app (ln_set (ln_set (ln_app (ln_set (ln_app (ln_set (ln_app (ln_set (ln_app (ln_set (ln_app (ln_set (ln_app (ln_set (ln_app (ln_set hl))))))))))))))))))))))⟩

theorem c_Land (d : Nat) (h : aH) (q : Nat) (hl : h.length = q + 1) (o0 : isO h q 0 (dfl 0)) : ∃ h1, Rn (d + 2) 0 [.ref (q)] h none h1 19 1316 ∧ h1.length = q + 20 ∧ (∀ k, k < q → h1[k]? = h[k]?) ∧ isO h1 q 0 [.int (nI (0)), .int (nI (0)), .int (nI (0)), .int (nI (0)), .ref (q + 1), .ref (q + 2), .ref (q + 3), .ref (q + 4), .ref (q + 5), .ref (q + 6), .ref (q + 7), .ref (q + 8), .ref (q + 9)] ∧ isI h1 (q + 1) 24 ((fun _ => 0)) ∧ isI h1 (q + 2) 40 ((fun _ => 0)) ∧ isI h1 (q + 3) 40 ((fun _ => 0)) ∧ isZ h1 (q + 4) 40 ((fun _ => 0)) ∧ isZ h1 (q + 5) 40 ((fun _ => 0)) ∧ isI h1 (q + 6) 10 ((fun _ => 0)) ∧ isI h1 (q + 7) 10 ((fun _ => 0)) ∧ isI h1 (q + 8) 240 ((fun _ => 0)) ∧ isO h1 (q + 9) 1 [.int (nI (0)), .ref (q + 10), .ref (q + 11), .ref (q + 12), .ref (q + 13), .ref (q + 14), .ref (q + 15), .ref (q + 16), .int (nI (0)), .ref (q + 17), .ref (q + 18), .ref (q + 19)] ∧ isI h1 (q + 10) 20 ((fun _ => 0)) ∧ isI h1 (q + 11) 20 ((fun _ => 0)) ∧ isI h1 (q + 12) 20 ((fun _ => 0)) ∧ isI h1 (q + 13) 20 ((fun _ => 0)) ∧ isI h1 (q + 14) 20 ((fun _ => 0)) ∧ isI h1 (q + 15) 20 ((fun _ => 0)) ∧ isI h1 (q + 16) 20 ((fun _ => 0)) ∧ isI h1 (q + 17) 240 ((fun _ => 0)) ∧ isI h1 (q + 18) 240 ((fun _ => 0)) ∧ isI h1 (q + 19) 240 ((fun _ => 0)) := by
  have o : isO h q 0 [.int (0), .int (0), .int (0), .int (0), .null, .null, .null, .null, .null, .null, .null, .null, .null] := o0
  refine Rc_ofS (P := fun h1 => h1.length = q + 20 ∧ (∀ k, k < q → h1[k]? = h[k]?) ∧ isO h1 q 0 [.int (nI (0)), .int (nI (0)), .int (nI (0)), .int (nI (0)), .ref (q + 1), .ref (q + 2), .ref (q + 3), .ref (q + 4), .ref (q + 5), .ref (q + 6), .ref (q + 7), .ref (q + 8), .ref (q + 9)] ∧ isI h1 (q + 1) 24 ((fun _ => 0)) ∧ isI h1 (q + 2) 40 ((fun _ => 0)) ∧ isI h1 (q + 3) 40 ((fun _ => 0)) ∧ isZ h1 (q + 4) 40 ((fun _ => 0)) ∧ isZ h1 (q + 5) 40 ((fun _ => 0)) ∧ isI h1 (q + 6) 10 ((fun _ => 0)) ∧ isI h1 (q + 7) 10 ((fun _ => 0)) ∧ isI h1 (q + 8) 240 ((fun _ => 0)) ∧ isO h1 (q + 9) 1 [.int (nI (0)), .ref (q + 10), .ref (q + 11), .ref (q + 12), .ref (q + 13), .ref (q + 14), .ref (q + 15), .ref (q + 16), .int (nI (0)), .ref (q + 17), .ref (q + 18), .ref (q + 19)] ∧ isI h1 (q + 10) 20 ((fun _ => 0)) ∧ isI h1 (q + 11) 20 ((fun _ => 0)) ∧ isI h1 (q + 12) 20 ((fun _ => 0)) ∧ isI h1 (q + 13) 20 ((fun _ => 0)) ∧ isI h1 (q + 14) 20 ((fun _ => 0)) ∧ isI h1 (q + 15) 20 ((fun _ => 0)) ∧ isI h1 (q + 16) 20 ((fun _ => 0)) ∧ isI h1 (q + 17) 240 ((fun _ => 0)) ∧ isI h1 (q + 18) 240 ((fun _ => 0)) ∧ isI h1 (q + 19) 240 ((fun _ => 0))) (by decide) (Nat.le_of_ble_eq_true rfl) ?_
  show Wc _ _ 0 [(0, .ref (q))] [] _ _ _ _ _
  refine wc_ld (pc' := 1) (q := 0) (kin := 2) (v := .ref (q)) rfl (fun _ _ _ _ => rfl) rfl rfl ?_
  refine wc_obj (pc' := 4) rfl rfl (Nat.le_of_ble_eq_true rfl) ?_
  refine wc_ld (pc' := 5) (q := 0) (kin := 2) (v := .ref (q)) rfl (fun _ _ _ _ => rfl) rfl rfl ?_
  refine wc_ic (pc' := 6) (w := nI 0) rfl rfl (by decide) ?_
  refine wc_put (pc' := 9) rfl rfl o (Nat.le_of_ble_eq_true rfl) ⟨rfl, rfl⟩ ?_
  refine wc_ld (pc' := 10) (q := 0) (kin := 2) (v := .ref (q)) rfl (fun _ _ _ _ => rfl) rfl rfl ?_
  refine wc_ic (pc' := 11) (w := nI 0) rfl rfl (by decide) ?_
  refine wc_put (pc' := 14) rfl rfl (gs_self o) (Nat.le_of_ble_eq_true rfl) ⟨rfl, rfl⟩ ?_
  refine wc_ld (pc' := 15) (q := 0) (kin := 2) (v := .ref (q)) rfl (fun _ _ _ _ => rfl) rfl rfl ?_
  refine wc_ic (pc' := 16) (w := nI 0) rfl rfl (by decide) ?_
  refine wc_put (pc' := 19) rfl rfl (gs_self (gs_self o)) (Nat.le_of_ble_eq_true rfl) ⟨rfl, rfl⟩ ?_
  refine wc_ld (pc' := 20) (q := 0) (kin := 2) (v := .ref (q)) rfl (fun _ _ _ _ => rfl) rfl rfl ?_
  refine wc_ic (pc' := 21) (w := nI 0) rfl rfl (by decide) ?_
  refine wc_put (pc' := 24) rfl rfl (gs_self (gs_self (gs_self o))) (Nat.le_of_ble_eq_true rfl) ⟨rfl, rfl⟩ ?_
  refine wc_ld (pc' := 25) (q := 0) (kin := 2) (v := .ref (q)) rfl (fun _ _ _ _ => rfl) rfl rfl ?_
  refine wc_bp (pc' := 27) (w := nI 24) rfl rfl (by decide) ?_
  refine wc_newaE (pc' := 29) (k := q + 1) (c2 := 1) (s2 := 24) rfl rfl rfl (by decide) (by decide) (by decide) (ln_set (ln_set (ln_set (ln_set hl)))) rfl rfl ?_
  refine wc_put (pc' := 32) rfl rfl (ap_old (gs_self (gs_self (gs_self (gs_self o))))) (Nat.le_of_ble_eq_true rfl) ⟨rfl, rfl⟩ ?_
  refine wc_ld (pc' := 33) (q := 0) (kin := 2) (v := .ref (q)) rfl (fun _ _ _ _ => rfl) rfl rfl ?_
  refine wc_bp (pc' := 35) (w := nI 40) rfl rfl (by decide) ?_
  refine wc_newaE (pc' := 37) (k := q + 2) (c2 := 2) (s2 := 64) rfl rfl rfl (by decide) (by decide) (by decide) (ln_set (ln_app (ln_set (ln_set (ln_set (ln_set hl)))))) rfl rfl ?_
  refine wc_put (pc' := 40) rfl rfl (ap_old (gs_self (ap_old (gs_self (gs_self (gs_self (gs_self o))))))) (Nat.le_of_ble_eq_true rfl) ⟨rfl, rfl⟩ ?_
  refine wc_ld (pc' := 41) (q := 0) (kin := 2) (v := .ref (q)) rfl (fun _ _ _ _ => rfl) rfl rfl ?_
  refine wc_bp (pc' := 43) (w := nI 40) rfl rfl (by decide) ?_
  refine wc_newaE (pc' := 45) (k := q + 3) (c2 := 3) (s2 := 104) rfl rfl rfl (by decide) (by decide) (by decide) (ln_set (ln_app (ln_set (ln_app (ln_set (ln_set (ln_set (ln_set hl)))))))) rfl rfl ?_
  refine wc_put (pc' := 48) rfl rfl (ap_old (gs_self (ap_old (gs_self (ap_old (gs_self (gs_self (gs_self (gs_self o))))))))) (Nat.le_of_ble_eq_true rfl) ⟨rfl, rfl⟩ ?_
  refine wc_ld (pc' := 49) (q := 0) (kin := 2) (v := .ref (q)) rfl (fun _ _ _ _ => rfl) rfl rfl ?_
  refine wc_bp (pc' := 51) (w := nI 40) rfl rfl (by decide) ?_
  refine wc_newaE (pc' := 53) (k := q + 4) (c2 := 4) (s2 := 144) rfl rfl rfl (by decide) (by decide) (by decide) (ln_set (ln_app (ln_set (ln_app (ln_set (ln_app (ln_set (ln_set (ln_set (ln_set hl)))))))))) rfl rfl ?_
  refine wc_put (pc' := 56) rfl rfl (ap_old (gs_self (ap_old (gs_self (ap_old (gs_self (ap_old (gs_self (gs_self (gs_self (gs_self o))))))))))) (Nat.le_of_ble_eq_true rfl) ⟨rfl, rfl⟩ ?_
  refine wc_ld (pc' := 57) (q := 0) (kin := 2) (v := .ref (q)) rfl (fun _ _ _ _ => rfl) rfl rfl ?_
  refine wc_bp (pc' := 59) (w := nI 40) rfl rfl (by decide) ?_
  refine wc_newaE (pc' := 61) (k := q + 5) (c2 := 5) (s2 := 184) rfl rfl rfl (by decide) (by decide) (by decide) (ln_set (ln_app (ln_set (ln_app (ln_set (ln_app (ln_set (ln_app (ln_set (ln_set (ln_set (ln_set hl)))))))))))) rfl rfl ?_
  refine wc_put (pc' := 64) rfl rfl (ap_old (gs_self (ap_old (gs_self (ap_old (gs_self (ap_old (gs_self (ap_old (gs_self (gs_self (gs_self (gs_self o))))))))))))) (Nat.le_of_ble_eq_true rfl) ⟨rfl, rfl⟩ ?_
  refine wc_ld (pc' := 65) (q := 0) (kin := 2) (v := .ref (q)) rfl (fun _ _ _ _ => rfl) rfl rfl ?_
  refine wc_bp (pc' := 67) (w := nI 10) rfl rfl (by decide) ?_
  refine wc_newaE (pc' := 69) (k := q + 6) (c2 := 6) (s2 := 194) rfl rfl rfl (by decide) (by decide) (by decide) (ln_set (ln_app (ln_set (ln_app (ln_set (ln_app (ln_set (ln_app (ln_set (ln_app (ln_set (ln_set (ln_set (ln_set hl)))))))))))))) rfl rfl ?_
  refine wc_put (pc' := 72) rfl rfl (ap_old (gs_self (ap_old (gs_self (ap_old (gs_self (ap_old (gs_self (ap_old (gs_self (ap_old (gs_self (gs_self (gs_self (gs_self o))))))))))))))) (Nat.le_of_ble_eq_true rfl) ⟨rfl, rfl⟩ ?_
  refine wc_ld (pc' := 73) (q := 0) (kin := 2) (v := .ref (q)) rfl (fun _ _ _ _ => rfl) rfl rfl ?_
  refine wc_bp (pc' := 75) (w := nI 10) rfl rfl (by decide) ?_
  refine wc_newaE (pc' := 77) (k := q + 7) (c2 := 7) (s2 := 204) rfl rfl rfl (by decide) (by decide) (by decide) (ln_set (ln_app (ln_set (ln_app (ln_set (ln_app (ln_set (ln_app (ln_set (ln_app (ln_set (ln_app (ln_set (ln_set (ln_set (ln_set hl)))))))))))))))) rfl rfl ?_
  refine wc_put (pc' := 80) rfl rfl (ap_old (gs_self (ap_old (gs_self (ap_old (gs_self (ap_old (gs_self (ap_old (gs_self (ap_old (gs_self (ap_old (gs_self (gs_self (gs_self (gs_self o))))))))))))))))) (Nat.le_of_ble_eq_true rfl) ⟨rfl, rfl⟩ ?_
  refine wc_ld (pc' := 81) (q := 0) (kin := 2) (v := .ref (q)) rfl (fun _ _ _ _ => rfl) rfl rfl ?_
  refine wc_sp (pc' := 84) (w := nI 240) rfl rfl (by decide) ?_
  refine wc_newaE (pc' := 86) (k := q + 8) (c2 := 8) (s2 := 444) rfl rfl rfl (by decide) (by decide) (by decide) (ln_set (ln_app (ln_set (ln_app (ln_set (ln_app (ln_set (ln_app (ln_set (ln_app (ln_set (ln_app (ln_set (ln_app (ln_set (ln_set (ln_set (ln_set hl)))))))))))))))))) rfl rfl ?_
  refine wc_put (pc' := 89) rfl rfl (ap_old (gs_self (ap_old (gs_self (ap_old (gs_self (ap_old (gs_self (ap_old (gs_self (ap_old (gs_self (ap_old (gs_self (ap_old (gs_self (gs_self (gs_self (gs_self o))))))))))))))))))) (Nat.le_of_ble_eq_true rfl) ⟨rfl, rfl⟩ ?_
  refine wc_ld (pc' := 90) (q := 0) (kin := 2) (v := .ref (q)) rfl (fun _ _ _ _ => rfl) rfl rfl ?_
  refine wc_newE (pc' := 93) (k := q + 9) (c2 := 9) (s2 := 456) rfl rfl (by decide) (by decide) (ln_set (ln_app (ln_set (ln_app (ln_set (ln_app (ln_set (ln_app (ln_set (ln_app (ln_set (ln_app (ln_set (ln_app (ln_set (ln_app (ln_set (ln_set (ln_set (ln_set hl)))))))))))))))))))) rfl rfl ?_
  refine wc_pu (pc' := 94) (st' := [.ref (q + 9), .ref (q + 9), .ref (q)]) rfl (fun _ _ _ _ => rfl) rfl rfl ?_
  refine wc_speS (pc' := 97) (c2 := 19) (s2 := 1316) rfl rfl (by decide) rfl rfl (Nat.le_of_ble_eq_true rfl) (c_Laws _ _ (q + 9) (ln_app (ln_set (ln_app (ln_set (ln_app (ln_set (ln_app (ln_set (ln_app (ln_set (ln_app (ln_set (ln_app (ln_set (ln_app (ln_set (ln_app (ln_set (ln_set (ln_set (ln_set hl))))))))))))))))))))) (ap_new (ln_set (ln_app (ln_set (ln_app (ln_set (ln_app (ln_set (ln_app (ln_set (ln_app (ln_set (ln_app (ln_set (ln_app (ln_set (ln_app (ln_set (ln_set (ln_set (ln_set hl)))))))))))))))))))))) rfl rfl (by decide) (fun h1 e2 => ?_)
  obtain ⟨l_h1, k_h1, a0_h1, a1_h1, a2_h1, a3_h1, a4_h1, a5_h1, a6_h1, a7_h1, a8_h1, a9_h1, a10_h1⟩ := e2
  show Wc _ _ 97 _ [.ref (q + 9), .ref (q)] h1 _ _ _ _
  refine wc_put (pc' := 100) rfl rfl ((k_h1 q (by omega)).trans (ap_old (gs_self (ap_old (gs_self (ap_old (gs_self (ap_old (gs_self (ap_old (gs_self (ap_old (gs_self (ap_old (gs_self (ap_old (gs_self (ap_old (gs_self (gs_self (gs_self (gs_self o)))))))))))))))))))))) (Nat.le_of_ble_eq_true rfl) ⟨rfl, rfl⟩ ?_
  exact wc_vret rfl rfl ⟨rfl, rfl, (ln_set l_h1), (fq_set (fun j hj => (k_h1 j (by omega)).trans ((fq_app (fq_set (fq_app (fq_set (fq_app (fq_set (fq_app (fq_set (fq_app (fq_set (fq_app (fq_set (fq_app (fq_set (fq_app (fq_set (fq_app (fq_set (fq_set (fq_set (fq_set (fun _ _ => rfl) (by omega)) (by omega)) (by omega)) (by omega)) (ln_set (ln_set (ln_set (ln_set hl)))) (by omega)) (by omega)) (ln_set (ln_app (ln_set (ln_set (ln_set (ln_set hl)))))) (by omega)) (by omega)) (ln_set (ln_app (ln_set (ln_app (ln_set (ln_set (ln_set (ln_set hl)))))))) (by omega)) (by omega)) (ln_set (ln_app (ln_set (ln_app (ln_set (ln_app (ln_set (ln_set (ln_set (ln_set hl)))))))))) (by omega)) (by omega)) (ln_set (ln_app (ln_set (ln_app (ln_set (ln_app (ln_set (ln_app (ln_set (ln_set (ln_set (ln_set hl)))))))))))) (by omega)) (by omega)) (ln_set (ln_app (ln_set (ln_app (ln_set (ln_app (ln_set (ln_app (ln_set (ln_app (ln_set (ln_set (ln_set (ln_set hl)))))))))))))) (by omega)) (by omega)) (ln_set (ln_app (ln_set (ln_app (ln_set (ln_app (ln_set (ln_app (ln_set (ln_app (ln_set (ln_app (ln_set (ln_set (ln_set (ln_set hl)))))))))))))))) (by omega)) (by omega)) (ln_set (ln_app (ln_set (ln_app (ln_set (ln_app (ln_set (ln_app (ln_set (ln_app (ln_set (ln_app (ln_set (ln_app (ln_set (ln_set (ln_set (ln_set hl)))))))))))))))))) (by omega)) (by omega)) (ln_set (ln_app (ln_set (ln_app (ln_set (ln_app (ln_set (ln_app (ln_set (ln_app (ln_set (ln_app (ln_set (ln_app (ln_set (ln_app (ln_set (ln_set (ln_set (ln_set hl)))))))))))))))))))) (by omega)) j hj)) (by omega)), (gs_self ((k_h1 q (by omega)).trans (ap_old (gs_self (ap_old (gs_self (ap_old (gs_self (ap_old (gs_self (ap_old (gs_self (ap_old (gs_self (ap_old (gs_self (ap_old (gs_self (ap_old (gs_self (gs_self (gs_self (gs_self o))))))))))))))))))))))), (gs_ne (by omega) ((k_h1 (q + 1) (by omega)).trans (ap_old (gs_ne (by omega) (ap_old (gs_ne (by omega) (ap_old (gs_ne (by omega) (ap_old (gs_ne (by omega) (ap_old (gs_ne (by omega) (ap_old (gs_ne (by omega) (ap_old (gs_ne (by omega) (ap_old (gs_ne (by omega) (ap_new (ln_set (ln_set (ln_set (ln_set hl))))))))))))))))))))))), (gs_ne (by omega) ((k_h1 (q + 2) (by omega)).trans (ap_old (gs_ne (by omega) (ap_old (gs_ne (by omega) (ap_old (gs_ne (by omega) (ap_old (gs_ne (by omega) (ap_old (gs_ne (by omega) (ap_old (gs_ne (by omega) (ap_old (gs_ne (by omega) (ap_new (ln_set (ln_app (ln_set (ln_set (ln_set (ln_set hl))))))))))))))))))))))), (gs_ne (by omega) ((k_h1 (q + 3) (by omega)).trans (ap_old (gs_ne (by omega) (ap_old (gs_ne (by omega) (ap_old (gs_ne (by omega) (ap_old (gs_ne (by omega) (ap_old (gs_ne (by omega) (ap_old (gs_ne (by omega) (ap_new (ln_set (ln_app (ln_set (ln_app (ln_set (ln_set (ln_set (ln_set hl))))))))))))))))))))))), (gs_ne (by omega) ((k_h1 (q + 4) (by omega)).trans (ap_old (gs_ne (by omega) (ap_old (gs_ne (by omega) (ap_old (gs_ne (by omega) (ap_old (gs_ne (by omega) (ap_old (gs_ne (by omega) (ap_new (ln_set (ln_app (ln_set (ln_app (ln_set (ln_app (ln_set (ln_set (ln_set (ln_set hl))))))))))))))))))))))), (gs_ne (by omega) ((k_h1 (q + 5) (by omega)).trans (ap_old (gs_ne (by omega) (ap_old (gs_ne (by omega) (ap_old (gs_ne (by omega) (ap_old (gs_ne (by omega) (ap_new (ln_set (ln_app (ln_set (ln_app (ln_set (ln_app (ln_set (ln_app (ln_set (ln_set (ln_set (ln_set hl))))))))))))))))))))))), (gs_ne (by omega) ((k_h1 (q + 6) (by omega)).trans (ap_old (gs_ne (by omega) (ap_old (gs_ne (by omega) (ap_old (gs_ne (by omega) (ap_new (ln_set (ln_app (ln_set (ln_app (ln_set (ln_app (ln_set (ln_app (ln_set (ln_app (ln_set (ln_set (ln_set (ln_set hl))))))))))))))))))))))), (gs_ne (by omega) ((k_h1 (q + 7) (by omega)).trans (ap_old (gs_ne (by omega) (ap_old (gs_ne (by omega) (ap_new (ln_set (ln_app (ln_set (ln_app (ln_set (ln_app (ln_set (ln_app (ln_set (ln_app (ln_set (ln_app (ln_set (ln_set (ln_set (ln_set hl))))))))))))))))))))))), (gs_ne (by omega) ((k_h1 (q + 8) (by omega)).trans (ap_old (gs_ne (by omega) (ap_new (ln_set (ln_app (ln_set (ln_app (ln_set (ln_app (ln_set (ln_app (ln_set (ln_app (ln_set (ln_app (ln_set (ln_app (ln_set (ln_set (ln_set (ln_set hl))))))))))))))))))))))), (gs_ne (by omega) a0_h1), (gs_ne (by omega) a1_h1), (gs_ne (by omega) a2_h1), (gs_ne (by omega) a3_h1), (gs_ne (by omega) a4_h1), (gs_ne (by omega) a5_h1), (gs_ne (by omega) a6_h1), (gs_ne (by omega) a7_h1), (gs_ne (by omega) a8_h1), (gs_ne (by omega) a9_h1), (gs_ne (by omega) a10_h1)⟩

theorem x_forgetN (d : Nat) (h : aH) (q : Nat) (x0 : Int32) (an wk : Nat → Int32) (y0 : isO h q 2 [.int x0, .ref (q + 1), .ref (q + 2)]) (y1 : isI h (q + 1) 1200 an) (y2 : isI h (q + 2) 24 wk) : Sp (Rn (d + 1)) 18 [.ref (q)] h (fun r9 h9 => r9 = none ∧ Fr [q, q + 1, q + 2] h h9 ∧ isO h9 q 2 [.int (nI 0), .ref (q + 1), .ref (q + 2)] ∧ ∃ an1 wk1, isI h9 (q + 1) 1200 an1 ∧ isI h9 (q + 2) 24 wk1 ∧ (∀ k, k < 1200 → an1 k = 0) ∧ ∀ k, k < 24 → wk1 k = -1) := by
  refine Sp_of (by decide) (Nat.le_of_ble_eq_true rfl) ?_
  show Wn _ _ 0 [(0, .ref (q))] [] _ _
  refine wn_ld (pc' := 1) (q := 0) (kin := 2) (v := .ref (q)) rfl (fun _ _ _ => rfl) rfl rfl ?_
  refine wn_ic (pc' := 2) (w := nI 0) rfl rfl (by decide) ?_
  refine wn_put (pc' := 5) rfl rfl y0 (Nat.le_of_ble_eq_true rfl) ⟨rfl, rfl⟩ ?_
  show Wn _ _ 5 _ [] (h.set q (.inr (2, [.int (nI (0)), .ref (q + 1), .ref (q + 2)]))) _
  refine wn_ic (pc' := 6) (w := nI 0) rfl rfl (by decide) ?_
  refine wn_st (pc' := 7) (q := 1) (kin := 0) (lv' := [(0, .ref (q)), (1, .int (nI (0)))]) rfl (fun _ _ _ => rfl) rfl (Nat.le_of_ble_eq_true rfl) rfl ?_
  have lp2 : ∀ (n_lp2 : Nat) (g1 : aH) (an1 : Nat → Int32) (k : Nat), 1200 + 1 ≤ k + n_lp2 → Fr [q, q + 1, q + 2] h g1 → isO g1 q 2 [.int (nI (0)), .ref (q + 1), .ref (q + 2)] → isI g1 (q + 1) 1200 an1 → isI g1 (q + 2) 24 wk → k ≤ 1200 → (∀ j, j < k → an1 j = 0) → Wn (Rn (d + 0)) 18 7 [(0, .ref (q)), (1, .int (nI (k)))] [] (g1) (fun r9 h9 => r9 = none ∧ Fr [q, q + 1, q + 2] h h9 ∧ isO h9 q 2 [.int (nI 0), .ref (q + 1), .ref (q + 2)] ∧ ∃ an1 wk1, isI h9 (q + 1) 1200 an1 ∧ isI h9 (q + 2) 24 wk1 ∧ (∀ k, k < 1200 → an1 k = 0) ∧ ∀ k, k < 24 → wk1 k = -1) := by
    intro n_lp2
    induction n_lp2 with
    | zero => intro g1 an1 k hm_lp2 hf_g1 c_q_g1 c_q1_g1 c_q2_g1 hk hV; exfalso; omega
    | succ n_lp2 ih_lp2 =>
      intro g1 an1 k hm_lp2 hf_g1 c_q_g1 c_q1_g1 c_q2_g1 hk hV
      refine wn_ld (pc' := 8) (q := 1) (kin := 0) (v := .int (nI (k))) rfl (fun _ _ _ => rfl) rfl rfl ?_
      refine wn_sp (pc' := 11) (w := nI 1200) rfl rfl (by decide) ?_
      refine wn_icmpN (t := 27) (f := 14) rfl rfl rfl (by omega) (by omega) (fun c3 => ?_) (fun c3 => ?_)
      · have c3 : 1200 ≤ k := c3
        refine wn_ic (pc' := 28) (w := nI 0) rfl rfl (by decide) ?_
        refine wn_st (pc' := 29) (q := 1) (kin := 0) (lv' := [(0, .ref (q)), (1, .int (nI (0)))]) rfl (fun _ _ _ => rfl) rfl (Nat.le_of_ble_eq_true rfl) rfl ?_
        have lp5 : ∀ (n_lp5 : Nat) (g4 : aH) (wk1 : Nat → Int32) (k2 : Nat), 24 + 1 ≤ k2 + n_lp5 → Fr [q, q + 1, q + 2] h g4 → isO g4 q 2 [.int (nI (0)), .ref (q + 1), .ref (q + 2)] → isI g4 (q + 1) 1200 an1 → isI g4 (q + 2) 24 wk1 → k2 ≤ 24 → (∀ j, j < k2 → wk1 j = -1) → Wn (Rn (d + 0)) 18 29 [(0, .ref (q)), (1, .int (nI (k2)))] [] (g4) (fun r9 h9 => r9 = none ∧ Fr [q, q + 1, q + 2] h h9 ∧ isO h9 q 2 [.int (nI 0), .ref (q + 1), .ref (q + 2)] ∧ ∃ an1 wk1, isI h9 (q + 1) 1200 an1 ∧ isI h9 (q + 2) 24 wk1 ∧ (∀ k, k < 1200 → an1 k = 0) ∧ ∀ k, k < 24 → wk1 k = -1) := by
          intro n_lp5
          induction n_lp5 with
          | zero => intro g4 wk1 k2 hm_lp5 hf_g4 c_q_g4 c_q1_g4 c_q2_g4 hk2 hU; exfalso; omega
          | succ n_lp5 ih_lp5 =>
            intro g4 wk1 k2 hm_lp5 hf_g4 c_q_g4 c_q1_g4 c_q2_g4 hk2 hU
            refine wn_ld (pc' := 30) (q := 1) (kin := 0) (v := .int (nI (k2))) rfl (fun _ _ _ => rfl) rfl rfl ?_
            refine wn_bp (pc' := 32) (w := nI 24) rfl rfl (by decide) ?_
            refine wn_icmpN (t := 48) (f := 35) rfl rfl rfl (by omega) (by omega) (fun c6 => ?_) (fun c6 => ?_)
            · have c6 : 24 ≤ k2 := c6
              exact wn_vret rfl rfl ⟨rfl, hf_g4, c_q_g4, _, _, c_q1_g4, c_q2_g4, fun k hk => hV k (by omega), fun k hk => hU k (by omega)⟩
            · have c6 : k2 < 24 := c6
              refine wn_ld (pc' := 36) (q := 0) (kin := 2) (v := .ref (q)) rfl (fun _ _ _ => rfl) rfl rfl ?_
              refine wn_get (pc' := 39) (v := .ref (q + 2)) rfl rfl c_q_g4 rfl ?_
              refine wn_ld (pc' := 40) (q := 1) (kin := 0) (v := .int (nI (k2))) rfl (fun _ _ _ => rfl) rfl rfl ?_
              refine wn_ic (pc' := 41) (w := -1) rfl rfl (by decide) ?_
              refine wn_iast (pc' := 42) (j := k2) rfl rfl c_q2_g4 rfl (by omega) (by decide) ?_
              refine wn_incN (n := 1) (pc' := 45) (lv' := [(0, .ref (q)), (1, .int (nI (k2 + 1)))]) rfl rfl rfl (Nat.le_of_ble_eq_true rfl) rfl (by decide) ?_
              refine wn_jp (pc' := 29) rfl rfl ?_
              refine wn_weak (lv' := [(0, .ref (q)), (1, .int (nI (k2 + 1)))]) (by simp) ?_
              have z9 := ih_lp5 (g4.set (q + 2) (.inl (0, 24, .inl (upd wk1 (k2) ((-1)))))) (upd wk1 (k2) ((-1))) (k2 + 1) (by omega) (Fr.st hf_g4 (by simp)) (gs_ne (by omega) c_q_g4) (gs_ne (by omega) c_q1_g4) (gs_self c_q2_g4) (by omega) (fun j hq => by by_cases e : j = k2; (subst e; exact pk_us); (rw [pk_un e]; exact hU j (by omega)))
              exact z9
        refine wn_weak (lv' := [(0, .ref (q)), (1, .int (nI (0)))]) (by simp) ?_
        have z9 := lp5 (24 + 1) g1 wk 0 (by omega) hf_g1 c_q_g1 c_q1_g1 c_q2_g1 (by omega) (fun _ q => absurd q (by omega))
        exact z9
      · have c3 : k < 1200 := c3
        refine wn_ld (pc' := 15) (q := 0) (kin := 2) (v := .ref (q)) rfl (fun _ _ _ => rfl) rfl rfl ?_
        refine wn_get (pc' := 18) (v := .ref (q + 1)) rfl rfl c_q_g1 rfl ?_
        refine wn_ld (pc' := 19) (q := 1) (kin := 0) (v := .int (nI (k))) rfl (fun _ _ _ => rfl) rfl rfl ?_
        refine wn_ic (pc' := 20) (w := nI 0) rfl rfl (by decide) ?_
        refine wn_iast (pc' := 21) (j := k) rfl rfl c_q1_g1 rfl (by omega) (by decide) ?_
        refine wn_incN (n := 1) (pc' := 24) (lv' := [(0, .ref (q)), (1, .int (nI (k + 1)))]) rfl rfl rfl (Nat.le_of_ble_eq_true rfl) rfl (by decide) ?_
        refine wn_jp (pc' := 7) rfl rfl ?_
        refine wn_weak (lv' := [(0, .ref (q)), (1, .int (nI (k + 1)))]) (by simp) ?_
        have z9 := ih_lp2 (g1.set (q + 1) (.inl (0, 1200, .inl (upd an1 (k) ((nI (0))))))) (upd an1 (k) ((nI (0)))) (k + 1) (by omega) (Fr.st hf_g1 (by simp)) (gs_ne (by omega) c_q_g1) (gs_self c_q1_g1) (gs_ne (by omega) c_q2_g1) (by omega) (fun j hq => by by_cases e : j = k; (subst e; exact pk_us); (rw [pk_un e]; exact hV j (by omega)))
        exact z9
  refine wn_weak (lv' := [(0, .ref (q)), (1, .int (nI (0)))]) (by simp) ?_
  have z9 := lp2 (1200 + 1) (h.set q (.inr (2, [.int (nI (0)), .ref (q + 1), .ref (q + 2)]))) an 0 (by omega) (Fr.st (Fr.rfl' [q, q + 1, q + 2] h) (by simp)) (gs_self y0) (gs_ne (by omega) y1) (gs_ne (by omega) y2) (by omega) (fun _ q => absurd q (by omega))
  exact z9

theorem c_Voice (d : Nat) (h : aH) (q : Nat) (hl : h.length = q + 1) (o0 : isO h q 7 (dfl 7)) : ∃ h1, Rn (d + 2) 60 [.ref (q)] h none h1 2 20 ∧ ∃ hv hc : Nat → Int32, h1.length = q + 3 ∧ (∀ k, k < q → h1[k]? = h[k]?) ∧ isO h1 q 7 [.int (nI (0)), .ref (q + 1), .ref (q + 2)] ∧ isI h1 (q + 1) 10 hv ∧ isZ h1 (q + 2) 10 hc ∧ (∀ k, k < 10 → hv k = -1 ∧ hc k = 0) := by
  have o : isO h q 7 [.int (0), .null, .null] := o0
  refine Rc_ofS (P := fun h1 => ∃ hv hc : Nat → Int32, h1.length = q + 3 ∧ (∀ k, k < q → h1[k]? = h[k]?) ∧ isO h1 q 7 [.int (nI (0)), .ref (q + 1), .ref (q + 2)] ∧ isI h1 (q + 1) 10 hv ∧ isZ h1 (q + 2) 10 hc ∧ (∀ k, k < 10 → hv k = -1 ∧ hc k = 0)) (by decide) (Nat.le_of_ble_eq_true rfl) ?_
  show Wc _ _ 0 [(0, .ref (q))] [] _ _ _ _ _
  refine wc_ld (pc' := 1) (q := 0) (kin := 2) (v := .ref (q)) rfl (fun _ _ _ _ => rfl) rfl rfl ?_
  refine wc_obj (pc' := 4) rfl rfl (Nat.le_of_ble_eq_true rfl) ?_
  refine wc_ld (pc' := 5) (q := 0) (kin := 2) (v := .ref (q)) rfl (fun _ _ _ _ => rfl) rfl rfl ?_
  refine wc_ic (pc' := 6) (w := nI 0) rfl rfl (by decide) ?_
  refine wc_put (pc' := 9) rfl rfl o (Nat.le_of_ble_eq_true rfl) ⟨rfl, rfl⟩ ?_
  refine wc_ld (pc' := 10) (q := 0) (kin := 2) (v := .ref (q)) rfl (fun _ _ _ _ => rfl) rfl rfl ?_
  refine wc_bp (pc' := 12) (w := nI 10) rfl rfl (by decide) ?_
  refine wc_newaE (pc' := 14) (k := q + 1) (c2 := 1) (s2 := 10) rfl rfl rfl (by decide) (by decide) (by decide) (ln_set hl) rfl rfl ?_
  refine wc_put (pc' := 17) rfl rfl (ap_old (gs_self o)) (Nat.le_of_ble_eq_true rfl) ⟨rfl, rfl⟩ ?_
  refine wc_ld (pc' := 18) (q := 0) (kin := 2) (v := .ref (q)) rfl (fun _ _ _ _ => rfl) rfl rfl ?_
  refine wc_bp (pc' := 20) (w := nI 10) rfl rfl (by decide) ?_
  refine wc_newaE (pc' := 22) (k := q + 2) (c2 := 2) (s2 := 20) rfl rfl rfl (by decide) (by decide) (by decide) (ln_set (ln_app (ln_set hl))) rfl rfl ?_
  refine wc_put (pc' := 25) rfl rfl (ap_old (gs_self (ap_old (gs_self o)))) (Nat.le_of_ble_eq_true rfl) ⟨rfl, rfl⟩ ?_
  refine wc_ld (pc' := 26) (q := 0) (kin := 2) (v := .ref (q)) rfl (fun _ _ _ _ => rfl) rfl rfl ?_
  refine wc_virS (pc' := 29) rfl rfl (by decide) rfl rfl (gs_self (ap_old (gs_self (ap_old (gs_self o))))) (Nat.le_of_ble_eq_true rfl) (x_forgetV _ _ q _ _ _ (gs_self (ap_old (gs_self (ap_old (gs_self o))))) (gs_ne (by omega) (ap_old (gs_ne (by omega) (ap_new (ln_set hl))))) (gs_ne (by omega) (ap_new (ln_set (ln_app (ln_set hl)))))) (by decide) (fun r9 h1 e2 => ?_)
  obtain ⟨rfl, f_h1, o_h1, hv_h1, hc_h1, i1_h1, i2_h1, hz_h1⟩ := e2
  show Wc _ _ 29 _ [] h1 _ _ _ _
  exact wc_vret rfl rfl ⟨rfl, rfl, _, _, (f_h1.1.trans (ln_set (ln_app (ln_set (ln_app (ln_set hl)))))), (fun j hj => (f_h1.2 j (by simp only [List.mem_cons, List.not_mem_nil, or_false]; omega)).trans ((fq_set (fq_app (fq_set (fq_app (fq_set (fun _ _ => rfl) (by omega)) (ln_set hl) (by omega)) (by omega)) (ln_set (ln_app (ln_set hl))) (by omega)) (by omega)) j hj)), o_h1, i1_h1, i2_h1, hz_h1⟩

theorem c_Notes (d : Nat) (h : aH) (q : Nat) (hl : h.length = q + 1) (o0 : isO h q 2 (dfl 2)) : ∃ h1, Rn (d + 2) 17 [.ref (q)] h none h1 2 1224 ∧ ∃ an wk : Nat → Int32, h1.length = q + 3 ∧ (∀ k, k < q → h1[k]? = h[k]?) ∧ isO h1 q 2 [.int (nI (0)), .ref (q + 1), .ref (q + 2)] ∧ isI h1 (q + 1) 1200 an ∧ isI h1 (q + 2) 24 wk ∧ (∀ k, k < 1200 → an k = 0) ∧ (∀ k, k < 24 → wk k = -1) := by
  have o : isO h q 2 [.int (0), .null, .null] := o0
  refine Rc_ofS (P := fun h1 => ∃ an wk : Nat → Int32, h1.length = q + 3 ∧ (∀ k, k < q → h1[k]? = h[k]?) ∧ isO h1 q 2 [.int (nI (0)), .ref (q + 1), .ref (q + 2)] ∧ isI h1 (q + 1) 1200 an ∧ isI h1 (q + 2) 24 wk ∧ (∀ k, k < 1200 → an k = 0) ∧ (∀ k, k < 24 → wk k = -1)) (by decide) (Nat.le_of_ble_eq_true rfl) ?_
  show Wc _ _ 0 [(0, .ref (q))] [] _ _ _ _ _
  refine wc_ld (pc' := 1) (q := 0) (kin := 2) (v := .ref (q)) rfl (fun _ _ _ _ => rfl) rfl rfl ?_
  refine wc_obj (pc' := 4) rfl rfl (Nat.le_of_ble_eq_true rfl) ?_
  refine wc_ld (pc' := 5) (q := 0) (kin := 2) (v := .ref (q)) rfl (fun _ _ _ _ => rfl) rfl rfl ?_
  refine wc_ic (pc' := 6) (w := nI 0) rfl rfl (by decide) ?_
  refine wc_put (pc' := 9) rfl rfl o (Nat.le_of_ble_eq_true rfl) ⟨rfl, rfl⟩ ?_
  refine wc_ld (pc' := 10) (q := 0) (kin := 2) (v := .ref (q)) rfl (fun _ _ _ _ => rfl) rfl rfl ?_
  refine wc_sp (pc' := 13) (w := nI 1200) rfl rfl (by decide) ?_
  refine wc_newaE (pc' := 15) (k := q + 1) (c2 := 1) (s2 := 1200) rfl rfl rfl (by decide) (by decide) (by decide) (ln_set hl) rfl rfl ?_
  refine wc_put (pc' := 18) rfl rfl (ap_old (gs_self o)) (Nat.le_of_ble_eq_true rfl) ⟨rfl, rfl⟩ ?_
  refine wc_ld (pc' := 19) (q := 0) (kin := 2) (v := .ref (q)) rfl (fun _ _ _ _ => rfl) rfl rfl ?_
  refine wc_bp (pc' := 21) (w := nI 24) rfl rfl (by decide) ?_
  refine wc_newaE (pc' := 23) (k := q + 2) (c2 := 2) (s2 := 1224) rfl rfl rfl (by decide) (by decide) (by decide) (ln_set (ln_app (ln_set hl))) rfl rfl ?_
  refine wc_put (pc' := 26) rfl rfl (ap_old (gs_self (ap_old (gs_self o)))) (Nat.le_of_ble_eq_true rfl) ⟨rfl, rfl⟩ ?_
  refine wc_ld (pc' := 27) (q := 0) (kin := 2) (v := .ref (q)) rfl (fun _ _ _ _ => rfl) rfl rfl ?_
  refine wc_virS (pc' := 30) rfl rfl (by decide) rfl rfl (gs_self (ap_old (gs_self (ap_old (gs_self o))))) (Nat.le_of_ble_eq_true rfl) (x_forgetN _ _ q _ _ _ (gs_self (ap_old (gs_self (ap_old (gs_self o))))) (gs_ne (by omega) (ap_old (gs_ne (by omega) (ap_new (ln_set hl))))) (gs_ne (by omega) (ap_new (ln_set (ln_app (ln_set hl)))))) (by decide) (fun r9 h1 e2 => ?_)
  obtain ⟨rfl, f_h1, o_h1, an_h1, wk_h1, i1_h1, i2_h1, na_h1, nw_h1⟩ := e2
  show Wc _ _ 30 _ [] h1 _ _ _ _
  exact wc_vret rfl rfl ⟨rfl, rfl, _, _, (f_h1.1.trans (ln_set (ln_app (ln_set (ln_app (ln_set hl)))))), (fun j hj => (f_h1.2 j (by simp only [List.mem_cons, List.not_mem_nil, or_false]; omega)).trans ((fq_set (fq_app (fq_set (fq_app (fq_set (fun _ _ => rfl) (by omega)) (ln_set hl) (by omega)) (by omega)) (ln_set (ln_app (ln_set hl))) (by omega)) (by omega)) j hj)), o_h1, i1_h1, i2_h1, na_h1, nw_h1⟩

theorem c_Scene (d : Nat) (h : aH) (q : Nat) (hl : h.length = q + 1) (o0 : isO h q 4 (dfl 4)) : ∃ h1, Rn (d + 3) 42 [.ref (q)] h none h1 26 2579 ∧ ∃ hv hc an wk : Nat → Int32, h1.length = q + 27 ∧ (∀ k, k < q → h1[k]? = h[k]?) ∧ isO h1 q 4 [.ref (q + 1), .ref (q + 21), .ref (q + 24)] ∧ isO h1 (q + 1) 0 [.int (nI (0)), .int (nI (0)), .int (nI (0)), .int (nI (0)), .ref (q + 2), .ref (q + 3), .ref (q + 4), .ref (q + 5), .ref (q + 6), .ref (q + 7), .ref (q + 8), .ref (q + 9), .ref (q + 10)] ∧ isI h1 (q + 2) 24 ((fun _ => 0)) ∧ isI h1 (q + 3) 40 ((fun _ => 0)) ∧ isI h1 (q + 4) 40 ((fun _ => 0)) ∧ isZ h1 (q + 5) 40 ((fun _ => 0)) ∧ isZ h1 (q + 6) 40 ((fun _ => 0)) ∧ isI h1 (q + 7) 10 ((fun _ => 0)) ∧ isI h1 (q + 8) 10 ((fun _ => 0)) ∧ isI h1 (q + 9) 240 ((fun _ => 0)) ∧ isO h1 (q + 10) 1 [.int (nI (0)), .ref (q + 11), .ref (q + 12), .ref (q + 13), .ref (q + 14), .ref (q + 15), .ref (q + 16), .ref (q + 17), .int (nI (0)), .ref (q + 18), .ref (q + 19), .ref (q + 20)] ∧ isI h1 (q + 11) 20 ((fun _ => 0)) ∧ isI h1 (q + 12) 20 ((fun _ => 0)) ∧ isI h1 (q + 13) 20 ((fun _ => 0)) ∧ isI h1 (q + 14) 20 ((fun _ => 0)) ∧ isI h1 (q + 15) 20 ((fun _ => 0)) ∧ isI h1 (q + 16) 20 ((fun _ => 0)) ∧ isI h1 (q + 17) 20 ((fun _ => 0)) ∧ isI h1 (q + 18) 240 ((fun _ => 0)) ∧ isI h1 (q + 19) 240 ((fun _ => 0)) ∧ isI h1 (q + 20) 240 ((fun _ => 0)) ∧ isO h1 (q + 21) 7 [.int (nI (0)), .ref (q + 22), .ref (q + 23)] ∧ isI h1 (q + 22) 10 hv ∧ isZ h1 (q + 23) 10 hc ∧ isO h1 (q + 24) 2 [.int (nI (0)), .ref (q + 25), .ref (q + 26)] ∧ isI h1 (q + 25) 1200 an ∧ isI h1 (q + 26) 24 wk ∧ (∀ k, k < 10 → hv k = -1 ∧ hc k = 0) ∧ (∀ k, k < 1200 → an k = 0) ∧ (∀ k, k < 24 → wk k = -1) := by
  have o : isO h q 4 [.null, .null, .null] := o0
  refine Rc_ofS (P := fun h1 => ∃ hv hc an wk : Nat → Int32, h1.length = q + 27 ∧ (∀ k, k < q → h1[k]? = h[k]?) ∧ isO h1 q 4 [.ref (q + 1), .ref (q + 21), .ref (q + 24)] ∧ isO h1 (q + 1) 0 [.int (nI (0)), .int (nI (0)), .int (nI (0)), .int (nI (0)), .ref (q + 2), .ref (q + 3), .ref (q + 4), .ref (q + 5), .ref (q + 6), .ref (q + 7), .ref (q + 8), .ref (q + 9), .ref (q + 10)] ∧ isI h1 (q + 2) 24 ((fun _ => 0)) ∧ isI h1 (q + 3) 40 ((fun _ => 0)) ∧ isI h1 (q + 4) 40 ((fun _ => 0)) ∧ isZ h1 (q + 5) 40 ((fun _ => 0)) ∧ isZ h1 (q + 6) 40 ((fun _ => 0)) ∧ isI h1 (q + 7) 10 ((fun _ => 0)) ∧ isI h1 (q + 8) 10 ((fun _ => 0)) ∧ isI h1 (q + 9) 240 ((fun _ => 0)) ∧ isO h1 (q + 10) 1 [.int (nI (0)), .ref (q + 11), .ref (q + 12), .ref (q + 13), .ref (q + 14), .ref (q + 15), .ref (q + 16), .ref (q + 17), .int (nI (0)), .ref (q + 18), .ref (q + 19), .ref (q + 20)] ∧ isI h1 (q + 11) 20 ((fun _ => 0)) ∧ isI h1 (q + 12) 20 ((fun _ => 0)) ∧ isI h1 (q + 13) 20 ((fun _ => 0)) ∧ isI h1 (q + 14) 20 ((fun _ => 0)) ∧ isI h1 (q + 15) 20 ((fun _ => 0)) ∧ isI h1 (q + 16) 20 ((fun _ => 0)) ∧ isI h1 (q + 17) 20 ((fun _ => 0)) ∧ isI h1 (q + 18) 240 ((fun _ => 0)) ∧ isI h1 (q + 19) 240 ((fun _ => 0)) ∧ isI h1 (q + 20) 240 ((fun _ => 0)) ∧ isO h1 (q + 21) 7 [.int (nI (0)), .ref (q + 22), .ref (q + 23)] ∧ isI h1 (q + 22) 10 hv ∧ isZ h1 (q + 23) 10 hc ∧ isO h1 (q + 24) 2 [.int (nI (0)), .ref (q + 25), .ref (q + 26)] ∧ isI h1 (q + 25) 1200 an ∧ isI h1 (q + 26) 24 wk ∧ (∀ k, k < 10 → hv k = -1 ∧ hc k = 0) ∧ (∀ k, k < 1200 → an k = 0) ∧ (∀ k, k < 24 → wk k = -1)) (by decide) (Nat.le_of_ble_eq_true rfl) ?_
  show Wc _ _ 0 [(0, .ref (q))] [] _ _ _ _ _
  refine wc_ld (pc' := 1) (q := 0) (kin := 2) (v := .ref (q)) rfl (fun _ _ _ _ => rfl) rfl rfl ?_
  refine wc_obj (pc' := 4) rfl rfl (Nat.le_of_ble_eq_true rfl) ?_
  refine wc_ld (pc' := 5) (q := 0) (kin := 2) (v := .ref (q)) rfl (fun _ _ _ _ => rfl) rfl rfl ?_
  refine wc_newE (pc' := 8) (k := q + 1) (c2 := 1) (s2 := 13) rfl rfl (by decide) (by decide) hl rfl rfl ?_
  refine wc_pu (pc' := 9) (st' := [.ref (q + 1), .ref (q + 1), .ref (q)]) rfl (fun _ _ _ _ => rfl) rfl rfl ?_
  refine wc_speS (pc' := 12) (c2 := 20) (s2 := 1329) rfl rfl (by decide) rfl rfl (Nat.le_of_ble_eq_true rfl) (c_Land _ _ (q + 1) (ln_app hl) (ap_new hl)) rfl rfl (by decide) (fun h1 e2 => ?_)
  obtain ⟨l_h1, k_h1, a0_h1, a1_h1, a2_h1, a3_h1, a4_h1, a5_h1, a6_h1, a7_h1, a8_h1, a9_h1, a10_h1, a11_h1, a12_h1, a13_h1, a14_h1, a15_h1, a16_h1, a17_h1, a18_h1, a19_h1⟩ := e2
  show Wc _ _ 12 _ [.ref (q + 1), .ref (q)] h1 _ _ _ _
  refine wc_put (pc' := 15) rfl rfl ((k_h1 q (by omega)).trans (ap_old o)) (Nat.le_of_ble_eq_true rfl) ⟨rfl, rfl⟩ ?_
  refine wc_ld (pc' := 16) (q := 0) (kin := 2) (v := .ref (q)) rfl (fun _ _ _ _ => rfl) rfl rfl ?_
  refine wc_newE (pc' := 19) (k := q + 21) (c2 := 21) (s2 := 1332) rfl rfl (by decide) (by decide) (ln_set l_h1) rfl rfl ?_
  refine wc_pu (pc' := 20) (st' := [.ref (q + 21), .ref (q + 21), .ref (q)]) rfl (fun _ _ _ _ => rfl) rfl rfl ?_
  refine wc_speS (pc' := 23) (c2 := 23) (s2 := 1352) rfl rfl (by decide) rfl rfl (Nat.le_of_ble_eq_true rfl) (c_Voice _ _ (q + 21) (ln_app (ln_set l_h1)) (ap_new (ln_set l_h1))) rfl rfl (by decide) (fun h3 e4 => ?_)
  obtain ⟨hv_h3, hc_h3, l_h3, k_h3, a0_h3, a1_h3, a2_h3, vz_h3⟩ := e4
  show Wc _ _ 23 _ [.ref (q + 21), .ref (q)] h3 _ _ _ _
  refine wc_put (pc' := 26) rfl rfl ((k_h3 q (by omega)).trans (ap_old (gs_self ((k_h1 q (by omega)).trans (ap_old o))))) (Nat.le_of_ble_eq_true rfl) ⟨rfl, rfl⟩ ?_
  refine wc_ld (pc' := 27) (q := 0) (kin := 2) (v := .ref (q)) rfl (fun _ _ _ _ => rfl) rfl rfl ?_
  refine wc_newE (pc' := 30) (k := q + 24) (c2 := 24) (s2 := 1355) rfl rfl (by decide) (by decide) (ln_set l_h3) rfl rfl ?_
  refine wc_pu (pc' := 31) (st' := [.ref (q + 24), .ref (q + 24), .ref (q)]) rfl (fun _ _ _ _ => rfl) rfl rfl ?_
  refine wc_speS (pc' := 34) (c2 := 26) (s2 := 2579) rfl rfl (by decide) rfl rfl (Nat.le_of_ble_eq_true rfl) (c_Notes _ _ (q + 24) (ln_app (ln_set l_h3)) (ap_new (ln_set l_h3))) rfl rfl (by decide) (fun h5 e6 => ?_)
  obtain ⟨an_h5, wk_h5, l_h5, k_h5, a0_h5, a1_h5, a2_h5, na_h5, nw_h5⟩ := e6
  show Wc _ _ 34 _ [.ref (q + 24), .ref (q)] h5 _ _ _ _
  refine wc_put (pc' := 37) rfl rfl ((k_h5 q (by omega)).trans (ap_old (gs_self ((k_h3 q (by omega)).trans (ap_old (gs_self ((k_h1 q (by omega)).trans (ap_old o)))))))) (Nat.le_of_ble_eq_true rfl) ⟨rfl, rfl⟩ ?_
  exact wc_vret rfl rfl ⟨rfl, rfl, _, _, _, _, (ln_set l_h5), (fq_set (fun j hj => (k_h5 j (by omega)).trans ((fq_app (fq_set (fun j hj => (k_h3 j (by omega)).trans ((fq_app (fq_set (fun j hj => (k_h1 j (by omega)).trans ((fq_app (fun _ _ => rfl) hl (by omega)) j hj)) (by omega)) (ln_set l_h1) (by omega)) j hj)) (by omega)) (ln_set l_h3) (by omega)) j hj)) (by omega)), (gs_self ((k_h5 q (by omega)).trans (ap_old (gs_self ((k_h3 q (by omega)).trans (ap_old (gs_self ((k_h1 q (by omega)).trans (ap_old o))))))))), (gs_ne (by omega) ((k_h5 (q + 1) (by omega)).trans (ap_old (gs_ne (by omega) ((k_h3 (q + 1) (by omega)).trans (ap_old (gs_ne (by omega) a0_h1))))))), (gs_ne (by omega) ((k_h5 (q + 2) (by omega)).trans (ap_old (gs_ne (by omega) ((k_h3 (q + 2) (by omega)).trans (ap_old (gs_ne (by omega) a1_h1))))))), (gs_ne (by omega) ((k_h5 (q + 3) (by omega)).trans (ap_old (gs_ne (by omega) ((k_h3 (q + 3) (by omega)).trans (ap_old (gs_ne (by omega) a2_h1))))))), (gs_ne (by omega) ((k_h5 (q + 4) (by omega)).trans (ap_old (gs_ne (by omega) ((k_h3 (q + 4) (by omega)).trans (ap_old (gs_ne (by omega) a3_h1))))))), (gs_ne (by omega) ((k_h5 (q + 5) (by omega)).trans (ap_old (gs_ne (by omega) ((k_h3 (q + 5) (by omega)).trans (ap_old (gs_ne (by omega) a4_h1))))))), (gs_ne (by omega) ((k_h5 (q + 6) (by omega)).trans (ap_old (gs_ne (by omega) ((k_h3 (q + 6) (by omega)).trans (ap_old (gs_ne (by omega) a5_h1))))))), (gs_ne (by omega) ((k_h5 (q + 7) (by omega)).trans (ap_old (gs_ne (by omega) ((k_h3 (q + 7) (by omega)).trans (ap_old (gs_ne (by omega) a6_h1))))))), (gs_ne (by omega) ((k_h5 (q + 8) (by omega)).trans (ap_old (gs_ne (by omega) ((k_h3 (q + 8) (by omega)).trans (ap_old (gs_ne (by omega) a7_h1))))))), (gs_ne (by omega) ((k_h5 (q + 9) (by omega)).trans (ap_old (gs_ne (by omega) ((k_h3 (q + 9) (by omega)).trans (ap_old (gs_ne (by omega) a8_h1))))))), (gs_ne (by omega) ((k_h5 (q + 10) (by omega)).trans (ap_old (gs_ne (by omega) ((k_h3 (q + 10) (by omega)).trans (ap_old (gs_ne (by omega) a9_h1))))))), (gs_ne (by omega) ((k_h5 (q + 11) (by omega)).trans (ap_old (gs_ne (by omega) ((k_h3 (q + 11) (by omega)).trans (ap_old (gs_ne (by omega) a10_h1))))))), (gs_ne (by omega) ((k_h5 (q + 12) (by omega)).trans (ap_old (gs_ne (by omega) ((k_h3 (q + 12) (by omega)).trans (ap_old (gs_ne (by omega) a11_h1))))))), (gs_ne (by omega) ((k_h5 (q + 13) (by omega)).trans (ap_old (gs_ne (by omega) ((k_h3 (q + 13) (by omega)).trans (ap_old (gs_ne (by omega) a12_h1))))))), (gs_ne (by omega) ((k_h5 (q + 14) (by omega)).trans (ap_old (gs_ne (by omega) ((k_h3 (q + 14) (by omega)).trans (ap_old (gs_ne (by omega) a13_h1))))))), (gs_ne (by omega) ((k_h5 (q + 15) (by omega)).trans (ap_old (gs_ne (by omega) ((k_h3 (q + 15) (by omega)).trans (ap_old (gs_ne (by omega) a14_h1))))))), (gs_ne (by omega) ((k_h5 (q + 16) (by omega)).trans (ap_old (gs_ne (by omega) ((k_h3 (q + 16) (by omega)).trans (ap_old (gs_ne (by omega) a15_h1))))))), (gs_ne (by omega) ((k_h5 (q + 17) (by omega)).trans (ap_old (gs_ne (by omega) ((k_h3 (q + 17) (by omega)).trans (ap_old (gs_ne (by omega) a16_h1))))))), (gs_ne (by omega) ((k_h5 (q + 18) (by omega)).trans (ap_old (gs_ne (by omega) ((k_h3 (q + 18) (by omega)).trans (ap_old (gs_ne (by omega) a17_h1))))))), (gs_ne (by omega) ((k_h5 (q + 19) (by omega)).trans (ap_old (gs_ne (by omega) ((k_h3 (q + 19) (by omega)).trans (ap_old (gs_ne (by omega) a18_h1))))))), (gs_ne (by omega) ((k_h5 (q + 20) (by omega)).trans (ap_old (gs_ne (by omega) ((k_h3 (q + 20) (by omega)).trans (ap_old (gs_ne (by omega) a19_h1))))))), (gs_ne (by omega) ((k_h5 (q + 21) (by omega)).trans (ap_old (gs_ne (by omega) a0_h3)))), (gs_ne (by omega) ((k_h5 (q + 22) (by omega)).trans (ap_old (gs_ne (by omega) a1_h3)))), (gs_ne (by omega) ((k_h5 (q + 23) (by omega)).trans (ap_old (gs_ne (by omega) a2_h3)))), (gs_ne (by omega) a0_h5), (gs_ne (by omega) a1_h5), (gs_ne (by omega) a2_h5), vz_h3, na_h5, nw_h5⟩

