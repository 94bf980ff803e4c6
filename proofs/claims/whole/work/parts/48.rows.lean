/-! ROW, WRITE, PASTE -/
noncomputable def qN (p : Prop) (a b : Nat → Int64) : Nat → Int64 := @ite (Nat → Int64) p (Classical.propDecidable p) a b
theorem qN_t {p : Prop} {a b : Nat → Int64} (h : p) : qN p a b = a := if_pos h
theorem qN_f {p : Prop} {a b : Nat → Int64} (h : ¬ p) : qN p a b = b := if_neg h
theorem SlV.up {h h9 : aH} {mn wd : Nat → Int32} {nu nu' nm : Nat → Int64} {s : Nat} {d n : Int32} (S : SlV h mn wd nu) (hs : s < 4) (F : Fr [63 + 2 * s, 64 + 2 * s] h h9) (O : isO h9 (63 + 2 * s) 5 [.int d, .int n, .ref (64 + 2 * s)]) (J : isJ h9 (64 + 2 * s) 60 nm) (h1 : ∀ p, p < 60 → nm p = nu' (60 * s + p)) (h2 : ∀ k p, k < 4 → k ≠ s → p < 60 → nu' (60 * k + p) = nu (60 * k + p)) : SlV h9 (upd mn s n) (upd wd s d) nu' := by
  obtain ⟨sg, s1, s2⟩ := S
  refine ⟨sg, s1.kp (F.2 _ (by simp only [List.mem_cons, List.not_mem_nil, or_false]; omega)), fun k p1 => ?_⟩
  obtain ⟨c1, c2, nm2, c3, c4⟩ := s2 k p1
  by_cases e : k = s
  · subst e; rw [pk_us, pk_us]; exact ⟨c1, O, nm, J, h1⟩
  · rw [pk_un e, pk_un e]
    exact ⟨c1, c2.kp (F.2 _ (by simp only [List.mem_cons, List.not_mem_nil, or_false]; omega)), nm2, c3.kp (F.2 _ (by simp only [List.mem_cons, List.not_mem_nil, or_false]; omega)), fun p hp => (c4 p hp).trans (h2 k p p1 e hp).symm⟩
theorem upd_id {f : Nat → Int32} {k : Nat} : upd f k (f k) = f := funext (fun p => by
  by_cases e : p = k
  · rw [e, pk_us]
  · rw [pk_un e])
theorem SlV.up1 {h h9 : aH} {mn wd : Nat → Int32} {nu nu' nm : Nat → Int64} {s : Nat} (S : SlV h mn wd nu) (hs : s < 4) (F : Fr [63 + 2 * s, 64 + 2 * s] h h9) (O : isO h9 (63 + 2 * s) 5 [.int (wd s), .int (mn s), .ref (64 + 2 * s)]) (J : isJ h9 (64 + 2 * s) 60 nm) (h1 : ∀ p, p < 60 → nm p = nu' (60 * s + p)) (h2 : ∀ k p, k < 4 → k ≠ s → p < 60 → nu' (60 * k + p) = nu (60 * k + p)) : SlV h9 mn wd nu' := by
  have up := S.up hs F O J h1 h2
  rw [upd_id, upd_id] at up
  exact up
def rowC (s d n : Int32) : Prop := iin s 4 ∧ iin d 4 ∧ n.toInt ≤ 60
noncomputable def rowA (s d n : Int32) : Int32 := qI (rowC s d n) (qI (n.toInt < 0) (-3) (nI 0)) (-2)
def rowG (s d n : Int32) : Prop := rowC s d n ∧ 0 ≤ n.toInt
noncomputable def rowM (s d n : Int32) (mn : Nat → Int32) : Nat → Int32 := qW (rowG s d n) (upd mn s.toNatClampNeg n) mn
noncomputable def rowD (s d n : Int32) (wd : Nat → Int32) : Nat → Int32 := qW (rowG s d n) (upd wd s.toNatClampNeg d) wd
def zer (nu : Nat → Int64) (s k : Nat) : Nat → Int64 := fun p => if 60 * s ≤ p ∧ p < 60 * s + k then lN 0 else nu p
noncomputable def rowN (s d n : Int32) (nu : Nat → Int64) : Nat → Int64 := qN (rowG s d n) (zer nu s.toNatClampNeg 60) nu
theorem row_w (s d n : Int32) {tp : Nat → Int32} {tl : Nat} {mn wd : Nat → Int32} (H : WfS tp tl mn wd) : WfS tp tl (rowM s d n mn) (rowD s d n wd) := by
  obtain ⟨h1, h2, h3⟩ := H
  refine ⟨h1, h2, fun k hk => ?_⟩
  by_cases c : rowG s d n
  · unfold rowM rowD
    rw [qW_t c, qW_t c]
    obtain ⟨⟨c1, c2, c3⟩, c4⟩ := c
    obtain ⟨s9, q1, rfl⟩ := iin_of c1
    obtain ⟨d9, q2, rfl⟩ := iin_of c2
    obtain ⟨n9, q3, rfl⟩ := iin_of (x := n) (n := 61) ⟨c4, by omega⟩
    rw [nI_clamp (by omega)]
    by_cases e : k = s9
    · subst e; rw [pk_us, pk_us]; exact ⟨Or.inr ⟨n9, q3, rfl⟩, d9, q2, rfl⟩
    · rw [pk_un e, pk_un e]; exact h3 k hk
  · unfold rowM rowD; rw [qW_f c, qW_f c]; exact h3 k hk
theorem zer_s {nu : Nat → Int64} {s k : Nat} : vp_updL (zer nu s k) (60 * s + k) (lN 0) = zer nu s (k + 1) := funext (fun p => by
  unfold zer
  by_cases c : p = 60 * s + k
  · rw [c, pk_uLs, if_pos (by omega)]
  · rw [pk_uLn c]
    by_cases d : 60 * s ≤ p ∧ p < 60 * s + k
    · rw [if_pos d, if_pos (by omega)]
    · rw [if_neg d, if_neg (by omega)])
theorem zer_in {nu : Nat → Int64} {s p : Nat} (h : p < 60) : lN 0 = zer nu s 60 (60 * s + p) := (if_pos (by omega)).symm
theorem zer_out {nu : Nat → Int64} {s k p : Nat} (h : k ≠ s) (hp : p < 60) : zer nu s 60 (60 * k + p) = nu (60 * k + p) := if_neg (by omega)
theorem x_startRow (d : Nat) (h : aH) (s8 : Nat) (x y : Int32) (nm : Nat → Int64) (j0 : isO h (63 + 2 * s8) 5 [.int x, .int y, .ref (64 + 2 * s8)]) (j1 : isJ h (64 + 2 * s8) 60 nm) (d9 n9 : Int32) : Sp (Rn (d + 1)) 45 [.ref (63 + 2 * s8), .int (d9), .int (n9)] h (fun r9 h9 => r9 = none ∧ Fr [63 + 2 * s8, 64 + 2 * s8] h h9 ∧ isO h9 (63 + 2 * s8) 5 [.int d9, .int n9, .ref (64 + 2 * s8)] ∧ ∃ nm1, isJ h9 (64 + 2 * s8) 60 nm1 ∧ ∀ p, p < 60 → nm1 p = lN 0) := by
  refine Sp_of (by decide) (Nat.le_of_ble_eq_true rfl) ?_
  show Wn _ _ 0 [(0, .ref (63 + 2 * s8)), (1, .int (d9)), (2, .int (n9))] [] _ _
  refine wn_ld (pc' := 1) (q := 0) (kin := 2) (v := .ref (63 + 2 * s8)) rfl (fun _ _ _ => rfl) rfl rfl ?_
  refine wn_ld (pc' := 2) (q := 1) (kin := 0) (v := .int (d9)) rfl (fun _ _ _ => rfl) rfl rfl ?_
  refine wn_put (pc' := 5) rfl rfl j0 (Nat.le_of_ble_eq_true rfl) ⟨rfl, rfl⟩ ?_
  show Wn _ _ 5 _ [] (h.set (63 + 2 * s8) (.inr (5, [.int (d9), .int (y), .ref (64 + 2 * s8)]))) _
  refine wn_ld (pc' := 6) (q := 0) (kin := 2) (v := .ref (63 + 2 * s8)) rfl (fun _ _ _ => rfl) rfl rfl ?_
  refine wn_ld (pc' := 7) (q := 2) (kin := 0) (v := .int (n9)) rfl (fun _ _ _ => rfl) rfl rfl ?_
  refine wn_put (pc' := 10) rfl rfl (gs_self j0) (Nat.le_of_ble_eq_true rfl) ⟨rfl, rfl⟩ ?_
  show Wn _ _ 10 _ [] ((h.set (63 + 2 * s8) (.inr (5, [.int (d9), .int (y), .ref (64 + 2 * s8)]))).set (63 + 2 * s8) (.inr (5, [.int (d9), .int (n9), .ref (64 + 2 * s8)]))) _
  refine wn_ic (pc' := 11) (w := nI 0) rfl rfl (by decide) ?_
  refine wn_st (pc' := 12) (q := 3) (kin := 0) (lv' := [(0, .ref (63 + 2 * s8)), (1, .int (d9)), (2, .int (n9)), (3, .int (nI (0)))]) rfl (fun _ _ _ => rfl) rfl (Nat.le_of_ble_eq_true rfl) rfl ?_
  have lp2 : ∀ (n_lp2 : Nat) (g1 : aH) (nm1 : Nat → Int64) (k : Nat), 60 + 1 ≤ k + n_lp2 → Fr [63 + 2 * s8, 64 + 2 * s8] h g1 → isO g1 (63 + 2 * s8) 5 [.int (d9), .int (n9), .ref (64 + 2 * s8)] → isJ g1 (64 + 2 * s8) 60 nm1 → k ≤ 60 → (∀ p, p < k → nm1 p = lN 0) → Wn (Rn (d + 0)) 45 12 [(0, .ref (63 + 2 * s8)), (1, .int (d9)), (2, .int (n9)), (3, .int (nI (k)))] [] (g1) (fun r9 h9 => r9 = none ∧ Fr [63 + 2 * s8, 64 + 2 * s8] h h9 ∧ isO h9 (63 + 2 * s8) 5 [.int d9, .int n9, .ref (64 + 2 * s8)] ∧ ∃ nm1, isJ h9 (64 + 2 * s8) 60 nm1 ∧ ∀ p, p < 60 → nm1 p = lN 0) := by
    intro n_lp2
    induction n_lp2 with
    | zero => intro g1 nm1 k hm_lp2 hf_g1 c_632s8_g1 c_642s8_g1 hk hZ; exfalso; omega
    | succ n_lp2 ih_lp2 =>
      intro g1 nm1 k hm_lp2 hf_g1 c_632s8_g1 c_642s8_g1 hk hZ
      refine wn_ld (pc' := 13) (q := 3) (kin := 0) (v := .int (nI (k))) rfl (fun _ _ _ => rfl) rfl rfl ?_
      refine wn_bp (pc' := 15) (w := nI 60) rfl rfl (by decide) ?_
      refine wn_icmpN (t := 31) (f := 18) rfl rfl rfl (by omega) (by omega) (fun c3 => ?_) (fun c3 => ?_)
      · have c3 : 60 ≤ k := c3
        exact wn_vret rfl rfl ⟨rfl, hf_g1, c_632s8_g1, _, c_642s8_g1, fun p hp => hZ p (by omega)⟩
      · have c3 : k < 60 := c3
        refine wn_ld (pc' := 19) (q := 0) (kin := 2) (v := .ref (63 + 2 * s8)) rfl (fun _ _ _ => rfl) rfl rfl ?_
        refine wn_get (pc' := 22) (v := .ref (64 + 2 * s8)) rfl rfl c_632s8_g1 rfl ?_
        refine wn_ld (pc' := 23) (q := 3) (kin := 0) (v := .int (nI (k))) rfl (fun _ _ _ => rfl) rfl rfl ?_
        refine wn_pu (pc' := 24) (st' := .long (lN 0) :: [.int (nI (k)), .ref (64 + 2 * s8)]) rfl (fun _ _ _ => rfl) rfl rfl ?_
        refine wn_last (pc' := 25) (j := k) rfl rfl c_642s8_g1 rfl (by omega) (by decide) ?_
        refine wn_incN (n := 1) (pc' := 28) (lv' := [(0, .ref (63 + 2 * s8)), (1, .int (d9)), (2, .int (n9)), (3, .int (nI (k + 1)))]) rfl rfl rfl (Nat.le_of_ble_eq_true rfl) rfl (by decide) ?_
        refine wn_jp (pc' := 12) rfl rfl ?_
        refine wn_weak (lv' := [(0, .ref (63 + 2 * s8)), (1, .int (d9)), (2, .int (n9)), (3, .int (nI (k + 1)))]) (by simp) ?_
        have z9 := ih_lp2 (g1.set (64 + 2 * s8) (.inl (3, 60, .inr (.inl (vp_updL nm1 (k) ((lN 0))))))) (vp_updL nm1 (k) ((lN 0))) (k + 1) (by omega) (Fr.st hf_g1 (by simp)) (gs_ne (by omega) c_632s8_g1) (gs_self c_642s8_g1) (by omega) (fun p hp => by by_cases e : p = k; (subst e; exact pk_uLs); (rw [pk_uLn e]; exact hZ p (by omega)))
        exact z9
  refine wn_weak (lv' := [(0, .ref (63 + 2 * s8)), (1, .int (d9)), (2, .int (n9)), (3, .int (nI (0)))]) (by simp) ?_
  have z9 := lp2 (60 + 1) ((h.set (63 + 2 * s8) (.inr (5, [.int (d9), .int (y), .ref (64 + 2 * s8)]))).set (63 + 2 * s8) (.inr (5, [.int (d9), .int (n9), .ref (64 + 2 * s8)]))) nm 0 (by omega) (Fr.st (Fr.st (Fr.rfl' [63 + 2 * s8, 64 + 2 * s8] h) (by simp)) (by simp)) (gs_self (gs_self j0)) (gs_ne (by omega) (gs_ne (by omega) j1)) (by omega) (fun _ q => absurd q (by omega))
  exact z9

theorem x_row (d : Nat) (h : aH)  (tp : Nat → Int32) (tl : Nat) (mn wd : Nat → Int32) (nu : Nat → Int64) (ct : Nat → Int32) (hS : WfS tp tl mn wd) (o0 : isO h 0 8 [.ref 1, .int (nI tl), .ref 2, .ref 23, .ref 50, .ref 51, .ref 52, .ref 58, .ref 59, .ref 60, .ref 61, .ref 62]) (o1 : isB h 1 1200 ct) (o2 : ∀ p, p < 1200 → ct p = tp p) (SL : SlV h mn wd nu) (s u n : Int32) : Sp (Rn (d + 2)) 130 [.ref (0), .int (s), .int (u), .int (n)] h (fun r9 h9 => r9 = some (.int (rowA s u n)) ∧ h9.length = h.length ∧ (∀ k, 2 ≤ k → k < 51 ∨ 52 ≤ k → k < 63 ∨ 71 ≤ k → h9[k]? = h[k]?) ∧ isO h9 0 8 [.ref 1, .int (nI (tl)), .ref 2, .ref 23, .ref 50, .ref 51, .ref 52, .ref 58, .ref 59, .ref 60, .ref 61, .ref 62] ∧ (∃ ct', isB h9 1 1200 ct' ∧ ∀ p, p < 1200 → ct' p = tp p) ∧ SlV h9 (rowM s u n mn) (rowD s u n wd) (rowN s u n nu)) := by
  obtain ⟨sg, sl1, sl2⟩ := id SL
  have hT := hS.1
  refine Sp_of (by decide) (Nat.le_of_ble_eq_true rfl) ?_
  show Wn _ _ 0 [(0, .ref (0)), (1, .int (s)), (2, .int (u)), (3, .int (n))] [] _ _
  refine wn_ld (pc' := 1) (q := 1) (kin := 0) (v := .int (s)) rfl (fun _ _ _ => rfl) rfl rfl ?_
  refine wn_staI (pc' := 4) rfl rfl (by decide) rfl rfl (Nat.le_of_ble_eq_true rfl) (x_isSlot _ _ _) ?_
  refine wn_ifeqB (t := 22) (f := 7) rfl rfl rfl (fun c1 => ?_) (fun c1 => ?_)
  · have c1 : ¬ (iin s 4) := c1
    refine wn_bp (pc' := 24) (w := -2) rfl rfl (by decide) ?_
    have en4 : (nI 4).toInt = 4 := by decide
    have en60 : (nI 60).toInt = 60 := by decide
    have ez0 : (0 : Int32).toInt = 0 := by decide
    refine wn_iret rfl rfl rfl ⟨congrArg (fun z => some (Value.int z)) ?_, rfl, fun _ _ _ _ => rfl, o0, ⟨_, o1, o2⟩, ?_⟩
    · exact (qI_f (fun q => c1 q.1)).symm
    · rw [show rowM s u n mn = mn from qW_f (fun q => (fun q => c1 q.1) q.1), show rowD s u n wd = wd from qW_f (fun q => (fun q => c1 q.1) q.1), show rowN s u n nu = nu from qN_f (fun q => (fun q => c1 q.1) q.1)]; exact SL
  · have c1 : (iin s 4) := c1
    obtain ⟨s9, hs9, rfl⟩ := iin_of c1
    have ti_s := nI_toInt (n := s9) (show s9 < 2 ^ 31 by omega)
    have cl_s := nI_clamp (n := s9) (show s9 < 2 ^ 31 by omega)
    obtain ⟨nm_s9, nj_s9, nv_s9⟩ := (sl2 s9 (by omega)).2.2
    refine wn_ld (pc' := 8) (q := 2) (kin := 0) (v := .int (u)) rfl (fun _ _ _ => rfl) rfl rfl ?_
    refine wn_ifc (t := 22) (f := 11) rfl rfl rfl (fun c2 => ?_) (fun c2 => ?_)
    · have c2 : ((u)) < 0 := c2
      refine wn_bp (pc' := 24) (w := -2) rfl rfl (by decide) ?_
      have en4 : (nI 4).toInt = 4 := by decide
      have en60 : (nI 60).toInt = 60 := by decide
      have ez0 : (0 : Int32).toInt = 0 := by decide
      try simp only [Int32.lt_iff_toInt_lt, Int32.le_iff_toInt_le, i2l_int, Int32.toInt_zero, iin] at c2
      refine wn_iret rfl rfl rfl ⟨congrArg (fun z => some (Value.int z)) ?_, rfl, fun _ _ _ _ => rfl, o0, ⟨_, o1, o2⟩, ?_⟩
      · exact (qI_f (fun q => by have q2 := q.2; simp only [iin] at q2; omega)).symm
      · rw [show rowM (nI s9) u n mn = mn from qW_f (fun q => (fun q => by have q2 := q.2; simp only [iin] at q2; omega) q.1), show rowD (nI s9) u n wd = wd from qW_f (fun q => (fun q => by have q2 := q.2; simp only [iin] at q2; omega) q.1), show rowN (nI s9) u n nu = nu from qN_f (fun q => (fun q => by have q2 := q.2; simp only [iin] at q2; omega) q.1)]; exact SL
    · have c2 : 0 ≤ ((u)) := c2
      refine wn_ld (pc' := 12) (q := 2) (kin := 0) (v := .int (u)) rfl (fun _ _ _ => rfl) rfl rfl ?_
      refine wn_ic (pc' := 13) (w := nI 4) rfl rfl (by decide) ?_
      refine wn_icmp (t := 22) (f := 16) rfl rfl rfl (fun c3 => ?_) (fun c3 => ?_)
      · have c3 : ((nI (4))) ≤ ((u)) := c3
        refine wn_bp (pc' := 24) (w := -2) rfl rfl (by decide) ?_
        have en4 : (nI 4).toInt = 4 := by decide
        have en60 : (nI 60).toInt = 60 := by decide
        have ez0 : (0 : Int32).toInt = 0 := by decide
        try simp only [Int32.lt_iff_toInt_lt, Int32.le_iff_toInt_le, i2l_int, Int32.toInt_zero, iin] at c2
        try simp only [Int32.lt_iff_toInt_lt, Int32.le_iff_toInt_le, i2l_int, Int32.toInt_zero, iin] at c3
        refine wn_iret rfl rfl rfl ⟨congrArg (fun z => some (Value.int z)) ?_, rfl, fun _ _ _ _ => rfl, o0, ⟨_, o1, o2⟩, ?_⟩
        · exact (qI_f (fun q => by have q2 := q.2; simp only [iin] at q2; omega)).symm
        · rw [show rowM (nI s9) u n mn = mn from qW_f (fun q => (fun q => by have q2 := q.2; simp only [iin] at q2; omega) q.1), show rowD (nI s9) u n wd = wd from qW_f (fun q => (fun q => by have q2 := q.2; simp only [iin] at q2; omega) q.1), show rowN (nI s9) u n nu = nu from qN_f (fun q => (fun q => by have q2 := q.2; simp only [iin] at q2; omega) q.1)]; exact SL
      · have c3 : ((u)) < ((nI (4))) := c3
        refine wn_ld (pc' := 17) (q := 3) (kin := 0) (v := .int (n)) rfl (fun _ _ _ => rfl) rfl rfl ?_
        refine wn_bp (pc' := 19) (w := nI 60) rfl rfl (by decide) ?_
        refine wn_icmp (t := 25) (f := 22) rfl rfl rfl (fun c4 => ?_) (fun c4 => ?_)
        · have c4 : ((n)) ≤ ((nI (60))) := c4
          refine wn_ld (pc' := 26) (q := 3) (kin := 0) (v := .int (n)) rfl (fun _ _ _ => rfl) rfl rfl ?_
          refine wn_ifc (t := 32) (f := 29) rfl rfl rfl (fun c5 => ?_) (fun c5 => ?_)
          · have c5 : 0 ≤ ((n)) := c5
            refine wn_ld (pc' := 33) (q := 0) (kin := 2) (v := .ref (0)) rfl (fun _ _ _ => rfl) rfl rfl ?_
            refine wn_get (pc' := 36) (v := .ref (51)) rfl rfl o0 rfl ?_
            refine wn_ld (pc' := 37) (q := 1) (kin := 0) (v := .int (nI (s9))) rfl (fun _ _ _ => rfl) rfl rfl ?_
            refine wn_aaldv (pc' := 38) (j := s9) (v := .ref (63 + 2 * s9)) rfl rfl (Or.inr rfl) sl1 rfl (by omega) (by decide) ((congrArg va_rf (sl2 s9 (by omega)).1)) ?_
            refine wn_ld (pc' := 39) (q := 2) (kin := 0) (v := .int (u)) rfl (fun _ _ _ => rfl) rfl rfl ?_
            refine wn_ld (pc' := 40) (q := 3) (kin := 0) (v := .int (n)) rfl (fun _ _ _ => rfl) rfl rfl ?_
            refine wn_virS (pc' := 43) rfl rfl (by decide) rfl rfl (sl2 s9 (by omega)).2.1 (Nat.le_of_ble_eq_true rfl) (x_startRow _ _ s9 _ _ _ (sl2 s9 (by omega)).2.1 nj_s9 u n) (fun r9 h6 e7 => ?_)
            obtain ⟨rfl, f_h6, o_h6, nm_h6, i_h6, z_h6⟩ := e7
            show Wn _ _ 43 _ [] h6 _
            refine wn_ic (pc' := 44) (w := nI 0) rfl rfl (by decide) ?_
            have en4 : (nI 4).toInt = 4 := by decide
            have en60 : (nI 60).toInt = 60 := by decide
            have ez0 : (0 : Int32).toInt = 0 := by decide
            try simp only [Int32.lt_iff_toInt_lt, Int32.le_iff_toInt_le, i2l_int, Int32.toInt_zero, iin] at c2
            try simp only [Int32.lt_iff_toInt_lt, Int32.le_iff_toInt_le, i2l_int, Int32.toInt_zero, iin] at c3
            try simp only [Int32.lt_iff_toInt_lt, Int32.le_iff_toInt_le, i2l_int, Int32.toInt_zero, iin] at c4
            try simp only [Int32.lt_iff_toInt_lt, Int32.le_iff_toInt_le, i2l_int, Int32.toInt_zero, iin] at c5
            have hC : rowC (nI s9) u n := ⟨iin_nI (by omega) (by omega), by simp only [iin]; omega, by omega⟩
            have hG : rowG (nI s9) u n := ⟨hC, by omega⟩
            refine wn_iret rfl rfl rfl ⟨congrArg (fun z => some (Value.int z)) ?_, f_h6.1, fun k p1 p2 p3 => f_h6.2 k (by simp only [List.mem_cons, List.not_mem_nil, or_false]; omega), o0.kp (f_h6.2 _ (by simp only [List.mem_cons, List.not_mem_nil, or_false]; omega)), ⟨_, o1.kp (f_h6.2 _ (by simp only [List.mem_cons, List.not_mem_nil, or_false]; omega)), o2⟩, ?_⟩
            · unfold rowA; rw [qI_t hC, qI_f (by omega)]
            · unfold rowM rowD rowN; rw [qW_t hG, qW_t hG, qN_t hG, cl_s]
              exact SL.up (by omega) f_h6 o_h6 i_h6 (fun p hp => (z_h6 p hp).trans (zer_in hp)) (fun k p hk he hp => zer_out he hp)
          · have c5 : ((n)) < 0 := c5
            refine wn_bp (pc' := 31) (w := -3) rfl rfl (by decide) ?_
            have en4 : (nI 4).toInt = 4 := by decide
            have en60 : (nI 60).toInt = 60 := by decide
            have ez0 : (0 : Int32).toInt = 0 := by decide
            try simp only [Int32.lt_iff_toInt_lt, Int32.le_iff_toInt_le, i2l_int, Int32.toInt_zero, iin] at c2
            try simp only [Int32.lt_iff_toInt_lt, Int32.le_iff_toInt_le, i2l_int, Int32.toInt_zero, iin] at c3
            try simp only [Int32.lt_iff_toInt_lt, Int32.le_iff_toInt_le, i2l_int, Int32.toInt_zero, iin] at c4
            try simp only [Int32.lt_iff_toInt_lt, Int32.le_iff_toInt_le, i2l_int, Int32.toInt_zero, iin] at c5
            have hC : rowC (nI s9) u n := ⟨iin_nI (by omega) (by omega), by simp only [iin]; omega, by omega⟩
            refine wn_iret rfl rfl rfl ⟨congrArg (fun z => some (Value.int z)) ?_, rfl, fun _ _ _ _ => rfl, o0, ⟨_, o1, o2⟩, ?_⟩
            · unfold rowA; rw [qI_t hC, qI_t (by omega)]
            · rw [show rowM (nI s9) u n mn = mn from qW_f (fun q => by have := q.2; omega), show rowD (nI s9) u n wd = wd from qW_f (fun q => by have := q.2; omega), show rowN (nI s9) u n nu = nu from qN_f (fun q => by have := q.2; omega)]; exact SL
        · have c4 : ((nI (60))) < ((n)) := c4
          refine wn_bp (pc' := 24) (w := -2) rfl rfl (by decide) ?_
          have en4 : (nI 4).toInt = 4 := by decide
          have en60 : (nI 60).toInt = 60 := by decide
          have ez0 : (0 : Int32).toInt = 0 := by decide
          try simp only [Int32.lt_iff_toInt_lt, Int32.le_iff_toInt_le, i2l_int, Int32.toInt_zero, iin] at c2
          try simp only [Int32.lt_iff_toInt_lt, Int32.le_iff_toInt_le, i2l_int, Int32.toInt_zero, iin] at c3
          try simp only [Int32.lt_iff_toInt_lt, Int32.le_iff_toInt_le, i2l_int, Int32.toInt_zero, iin] at c4
          refine wn_iret rfl rfl rfl ⟨congrArg (fun z => some (Value.int z)) ?_, rfl, fun _ _ _ _ => rfl, o0, ⟨_, o1, o2⟩, ?_⟩
          · exact (qI_f (fun q => by have q2 := q.2; simp only [iin] at q2; omega)).symm
          · rw [show rowM (nI s9) u n mn = mn from qW_f (fun q => (fun q => by have q2 := q.2; simp only [iin] at q2; omega) q.1), show rowD (nI s9) u n wd = wd from qW_f (fun q => (fun q => by have q2 := q.2; simp only [iin] at q2; omega) q.1), show rowN (nI s9) u n nu = nu from qN_f (fun q => (fun q => by have q2 := q.2; simp only [iin] at q2; omega) q.1)]; exact SL

theorem m_isSlot (d : Nat) (h : aH) (a : Int32) : Rn (d + 2) 238 [.int (a)] h (some (.int (bI (iin a 4)))) h 0 0 := by
  refine Rn_of (by decide) (Nat.le_of_ble_eq_true rfl) ?_
  show Wn _ _ 0 [(0, .int (a))] [] _ _
  refine wn_ld (pc' := 1) (q := 0) (kin := 0) (v := .int (a)) rfl (fun _ _ _ => rfl) rfl rfl ?_
  refine wn_pu (pc' := 2) (st' := [.long (Int32.toInt64 (a))]) rfl (fun _ _ _ => rfl) rfl rfl ?_
  refine wn_pu (pc' := 3) (st' := .long (lN 0) :: [.long (Int32.toInt64 (a))]) rfl (fun _ _ _ => rfl) rfl rfl ?_
  refine wn_go (pc' := 6) (lv' := [(0, .int (a))]) (st' := [.long ((3 : Int64)), .long (lN 0), .long (Int32.toInt64 (a))]) rfl (fun _ _ _ k9 => k9) ?_
  refine wn_staI (pc' := 9) rfl rfl (by decide) rfl rfl (Nat.le_of_ble_eq_true rfl) (m_inK _ _ a 3 ((3 : Int64)) (by decide)) ?_
  exact wn_iret rfl rfl (nar_bI _) ⟨rfl, rfl⟩

theorem m_row (d : Nat) (h : aH)  (tp : Nat → Int32) (tl : Nat) (mn wd : Nat → Int32) (nu : Nat → Int64) (hS : WfS tp tl mn wd) (MT : MtV h tp tl mn wd nu) (s u n : Int32) : Sp (Rn (d + 3)) 240 [.ref (71), .int (s), .int (u), .int (n)] h (fun r9 h9 => r9 = some (.int (rowA s u n)) ∧ h9.length = h.length ∧ (∀ k, k ≠ 71 → k ≠ 75 → k ≠ 76 → k < 81 ∨ 85 ≤ k → h9[k]? = h[k]?) ∧ (∀ th sz at9 fr tk vl fk fp il up lo, isO h 71 9 (MoF th (nI tl) sz at9 fr tk vl fk fp il up lo) → isO h9 71 9 (MoF th (nI (tl)) sz at9 fr tk vl fk fp il up lo)) ∧ isB h9 75 1200 (tp) ∧ (∃ fv', isI h9 76 5 fv') ∧ isI h9 81 4 (rowM s u n mn) ∧ isI h9 82 4 (rowD s u n wd) ∧ isJ h9 83 240 (rowN s u n nu) ∧ ∃ mv', isJ h9 84 60 mv') := by
  obtain ⟨th, sz, at9, fr, tk, vl, fk, fp, il, up, lo, fv, mv, q0, q1, q2, q3, q4, q5, q6⟩ := id MT
  have hT := hS.1
  refine Sp_of (by decide) (Nat.le_of_ble_eq_true rfl) ?_
  show Wn _ _ 0 [(0, .ref (71)), (1, .int (s)), (2, .int (u)), (3, .int (n))] [] _ _
  refine wn_ld (pc' := 1) (q := 1) (kin := 0) (v := .int (s)) rfl (fun _ _ _ => rfl) rfl rfl ?_
  refine wn_staI (pc' := 4) rfl rfl (by decide) rfl rfl (Nat.le_of_ble_eq_true rfl) (m_isSlot _ _ _) ?_
  refine wn_ifeqB (t := 25) (f := 7) rfl rfl rfl (fun c1 => ?_) (fun c1 => ?_)
  · have c1 : ¬ (iin s 4) := c1
    refine wn_bp (pc' := 27) (w := -2) rfl rfl (by decide) ?_
    have en60 : (nI 60).toInt = 60 := by decide
    have ez0 : (0 : Int32).toInt = 0 := by decide
    refine wn_iret rfl rfl rfl ⟨congrArg (fun z => some (Value.int z)) ?_, rfl, fun _ _ _ _ _ => rfl, fun _ _ _ _ _ _ _ _ _ _ _ q => q, q1, ⟨_, q2⟩, ?_, ?_, ?_, _, q6⟩
    · exact (qI_f (fun q => c1 q.1)).symm
    · rw [show rowM s u n mn = mn from qW_f (fun q => (fun q => c1 q.1) q.1)]; exact q3
    · rw [show rowD s u n wd = wd from qW_f (fun q => (fun q => c1 q.1) q.1)]; exact q4
    · rw [show rowN s u n nu = nu from qN_f (fun q => (fun q => c1 q.1) q.1)]; exact q5
  · have c1 : (iin s 4) := c1
    obtain ⟨s9, hs9, rfl⟩ := iin_of c1
    have ti_s := nI_toInt (n := s9) (show s9 < 2 ^ 31 by omega)
    have cl_s := nI_clamp (n := s9) (show s9 < 2 ^ 31 by omega)
    refine wn_ld (pc' := 8) (q := 2) (kin := 0) (v := .int (u)) rfl (fun _ _ _ => rfl) rfl rfl ?_
    refine wn_pu (pc' := 9) (st' := [.long (Int32.toInt64 (u))]) rfl (fun _ _ _ => rfl) rfl rfl ?_
    refine wn_pu (pc' := 10) (st' := .long (lN 0) :: [.long (Int32.toInt64 (u))]) rfl (fun _ _ _ => rfl) rfl rfl ?_
    refine wn_go (pc' := 13) (lv' := [(0, .ref (71)), (1, .int (nI (s9))), (2, .int (u)), (3, .int (n))]) (st' := [.long ((3 : Int64)), .long (lN 0), .long (Int32.toInt64 (u))]) rfl (fun _ _ _ k9 => k9) ?_
    refine wn_staI (pc' := 16) rfl rfl (by decide) rfl rfl (Nat.le_of_ble_eq_true rfl) (m_inK _ _ u 3 ((3 : Int64)) (by decide)) ?_
    refine wn_ifeqB (t := 25) (f := 19) rfl rfl rfl (fun c2 => ?_) (fun c2 => ?_)
    · have c2 : ¬ (iin u 4) := c2
      refine wn_bp (pc' := 27) (w := -2) rfl rfl (by decide) ?_
      have en60 : (nI 60).toInt = 60 := by decide
      have ez0 : (0 : Int32).toInt = 0 := by decide
      refine wn_iret rfl rfl rfl ⟨congrArg (fun z => some (Value.int z)) ?_, rfl, fun _ _ _ _ _ => rfl, fun _ _ _ _ _ _ _ _ _ _ _ q => q, q1, ⟨_, q2⟩, ?_, ?_, ?_, _, q6⟩
      · exact (qI_f (fun q => c2 q.2.1)).symm
      · rw [show rowM (nI s9) u n mn = mn from qW_f (fun q => (fun q => c2 q.2.1) q.1)]; exact q3
      · rw [show rowD (nI s9) u n wd = wd from qW_f (fun q => (fun q => c2 q.2.1) q.1)]; exact q4
      · rw [show rowN (nI s9) u n nu = nu from qN_f (fun q => (fun q => c2 q.2.1) q.1)]; exact q5
    · have c2 : (iin u 4) := c2
      obtain ⟨u9, hu9, rfl⟩ := iin_of c2
      have ti_u := nI_toInt (n := u9) (show u9 < 2 ^ 31 by omega)
      have cl_u := nI_clamp (n := u9) (show u9 < 2 ^ 31 by omega)
      refine wn_ld (pc' := 20) (q := 3) (kin := 0) (v := .int (n)) rfl (fun _ _ _ => rfl) rfl rfl ?_
      refine wn_bp (pc' := 22) (w := nI 60) rfl rfl (by decide) ?_
      refine wn_icmp (t := 28) (f := 25) rfl rfl rfl (fun c3 => ?_) (fun c3 => ?_)
      · have c3 : ((n)) ≤ ((nI (60))) := c3
        refine wn_ld (pc' := 29) (q := 3) (kin := 0) (v := .int (n)) rfl (fun _ _ _ => rfl) rfl rfl ?_
        refine wn_ifc (t := 35) (f := 32) rfl rfl rfl (fun c4 => ?_) (fun c4 => ?_)
        · have c4 : 0 ≤ ((n)) := c4
          refine wn_ld (pc' := 36) (q := 0) (kin := 2) (v := .ref (71)) rfl (fun _ _ _ => rfl) rfl rfl ?_
          refine wn_get (pc' := 39) (v := .ref (81)) rfl rfl q0 rfl ?_
          refine wn_ld (pc' := 40) (q := 1) (kin := 0) (v := .int (nI (s9))) rfl (fun _ _ _ => rfl) rfl rfl ?_
          refine wn_ld (pc' := 41) (q := 3) (kin := 0) (v := .int (n)) rfl (fun _ _ _ => rfl) rfl rfl ?_
          refine wn_iast (pc' := 42) (j := s9) rfl rfl q3 rfl (by omega) (by decide) ?_
          refine wn_ld (pc' := 43) (q := 0) (kin := 2) (v := .ref (71)) rfl (fun _ _ _ => rfl) rfl rfl ?_
          refine wn_get (pc' := 46) (v := .ref (82)) rfl rfl (gs_ne (by decide) q0) rfl ?_
          refine wn_ld (pc' := 47) (q := 1) (kin := 0) (v := .int (nI (s9))) rfl (fun _ _ _ => rfl) rfl rfl ?_
          refine wn_ld (pc' := 48) (q := 2) (kin := 0) (v := .int (nI (u9))) rfl (fun _ _ _ => rfl) rfl rfl ?_
          refine wn_iast (pc' := 49) (j := s9) rfl rfl (gs_ne (by decide) q4) rfl (by omega) (by decide) ?_
          refine wn_ic (pc' := 50) (w := nI 0) rfl rfl (by decide) ?_
          refine wn_st (pc' := 52) (q := 4) (kin := 0) (lv' := [(0, .ref (71)), (1, .int (nI (s9))), (2, .int (nI (u9))), (3, .int (n)), (4, .int (nI (0)))]) rfl (fun _ _ _ => rfl) rfl (Nat.le_of_ble_eq_true rfl) rfl ?_
          have lp6 : ∀ (n_lp6 : Nat) (g5 : aH) (nu1 : Nat → Int64) (k : Nat), 60 + 1 ≤ k + n_lp6 → Fr [81, 82, 83] h g5 → isI g5 81 4 (upd mn (s9) ((n))) → isI g5 82 4 (upd wd (s9) ((nI (u9)))) → isJ g5 83 240 nu1 → k ≤ 60 → nu1 = zer nu s9 k → Wn (Rn (d + 2)) 240 52 [(0, .ref (71)), (1, .int (nI (s9))), (2, .int (nI (u9))), (3, .int (n)), (4, .int (nI (k)))] [] (g5) (fun r9 h9 => r9 = some (.int (rowA (nI s9) (nI u9) n)) ∧ h9.length = h.length ∧ (∀ k, k ≠ 71 → k ≠ 75 → k ≠ 76 → k < 81 ∨ 85 ≤ k → h9[k]? = h[k]?) ∧ (∀ th sz at9 fr tk vl fk fp il up lo, isO h 71 9 (MoF th (nI tl) sz at9 fr tk vl fk fp il up lo) → isO h9 71 9 (MoF th (nI (tl)) sz at9 fr tk vl fk fp il up lo)) ∧ isB h9 75 1200 (tp) ∧ (∃ fv', isI h9 76 5 fv') ∧ isI h9 81 4 (rowM (nI s9) (nI u9) n mn) ∧ isI h9 82 4 (rowD (nI s9) (nI u9) n wd) ∧ isJ h9 83 240 (rowN (nI s9) (nI u9) n nu) ∧ ∃ mv', isJ h9 84 60 mv') := by
            intro n_lp6
            induction n_lp6 with
            | zero => intro g5 nu1 k hm_lp6 hf_g5 c_81_g5 c_82_g5 c_83_g5 hk hZ; exfalso; omega
            | succ n_lp6 ih_lp6 =>
              intro g5 nu1 k hm_lp6 hf_g5 c_81_g5 c_82_g5 c_83_g5 hk hZ
              refine wn_ld (pc' := 54) (q := 4) (kin := 0) (v := .int (nI (k))) rfl (fun _ _ _ => rfl) rfl rfl ?_
              refine wn_bp (pc' := 56) (w := nI 60) rfl rfl (by decide) ?_
              refine wn_icmpN (t := 78) (f := 59) rfl rfl rfl (by omega) (by omega) (fun c7 => ?_) (fun c7 => ?_)
              · have c7 : 60 ≤ k := c7
                obtain rfl : k = 60 := by omega
                refine wn_ic (pc' := 79) (w := nI 0) rfl rfl (by decide) ?_
                have en60 : (nI 60).toInt = 60 := by decide
                have ez0 : (0 : Int32).toInt = 0 := by decide
                try simp only [Int32.lt_iff_toInt_lt, Int32.le_iff_toInt_le, i2l_int, Int32.toInt_zero, iin] at c3
                try simp only [Int32.lt_iff_toInt_lt, Int32.le_iff_toInt_le, i2l_int, Int32.toInt_zero, iin] at c4
                have hC : rowC (nI s9) (nI u9) n := ⟨iin_nI (by omega) (by omega), iin_nI (by omega) (by omega), by omega⟩
                have hG : rowG (nI s9) (nI u9) n := ⟨hC, by omega⟩
                refine wn_iret rfl rfl rfl ⟨congrArg (fun z => some (Value.int z)) ?_, hf_g5.1, fun k p1 p2 p3 p4 => hf_g5.2 k (by simp only [List.mem_cons, List.not_mem_nil, or_false]; omega), fun _ _ _ _ _ _ _ _ _ _ _ q => (hf_g5.2 71 (by decide)).trans q, (hf_g5.2 75 (by decide)).trans q1, ⟨_, (hf_g5.2 76 (by decide)).trans q2⟩, ?_, ?_, ?_, _, (hf_g5.2 84 (by decide)).trans q6⟩
                · unfold rowA; rw [qI_t hC, qI_f (by omega)]
                · unfold rowM; rw [qW_t hG, cl_s]; exact c_81_g5
                · unfold rowD; rw [qW_t hG, cl_s]; exact c_82_g5
                · unfold rowN; rw [qN_t hG, cl_s, ← hZ]; exact c_83_g5
              · have c7 : k < 60 := c7
                refine wn_ld (pc' := 60) (q := 0) (kin := 2) (v := .ref (71)) rfl (fun _ _ _ => rfl) rfl rfl ?_
                refine wn_get (pc' := 63) (v := .ref (83)) rfl rfl ((hf_g5.2 71 (by decide)).trans q0) rfl ?_
                refine wn_bp (pc' := 65) (w := nI 60) rfl rfl (by decide) ?_
                refine wn_ld (pc' := 66) (q := 1) (kin := 0) (v := .int (nI (s9))) rfl (fun _ _ _ => rfl) rfl rfl ?_
                refine wn_mulN (pc' := 67) rfl rfl ?_
                refine wn_ld (pc' := 69) (q := 4) (kin := 0) (v := .int (nI (k))) rfl (fun _ _ _ => rfl) rfl rfl ?_
                refine wn_addN (pc' := 70) rfl rfl ?_
                refine wn_pu (pc' := 71) (st' := .long (lN 0) :: [.int (nI ((60 * s9) + k)), .ref (83)]) rfl (fun _ _ _ => rfl) rfl rfl ?_
                refine wn_last (pc' := 72) (j := (60 * s9) + k) rfl rfl c_83_g5 rfl (by omega) (by decide) ?_
                refine wn_incN (n := 1) (pc' := 75) (lv' := [(0, .ref (71)), (1, .int (nI (s9))), (2, .int (nI (u9))), (3, .int (n)), (4, .int (nI (k + 1)))]) rfl rfl rfl (Nat.le_of_ble_eq_true rfl) rfl (by decide) ?_
                refine wn_jp (pc' := 52) rfl rfl ?_
                refine wn_weak (lv' := [(0, .ref (71)), (1, .int (nI (s9))), (2, .int (nI (u9))), (3, .int (n)), (4, .int (nI (k + 1)))]) (by simp) ?_
                have z9 := ih_lp6 (g5.set 83 (.inl (3, 240, .inr (.inl (vp_updL nu1 ((60 * s9) + k) ((lN 0))))))) (vp_updL nu1 ((60 * s9) + k) ((lN 0))) (k + 1) (by omega) (Fr.st hf_g5 (by decide)) (gs_ne (by decide) c_81_g5) (gs_ne (by decide) c_82_g5) (gs_self c_83_g5) (by omega) (by rw [hZ]; exact zer_s)
                exact z9
          refine wn_weak (lv' := [(0, .ref (71)), (1, .int (nI (s9))), (2, .int (nI (u9))), (3, .int (n)), (4, .int (nI (0)))]) (by simp) ?_
          have z9 := lp6 (60 + 1) ((h.set 81 (.inl (0, 4, .inl (upd mn (s9) ((n)))))).set 82 (.inl (0, 4, .inl (upd wd (s9) ((nI (u9))))))) nu 0 (by omega) (Fr.st (Fr.st (Fr.rfl' [81, 82, 83] h) (by decide)) (by decide)) (gs_ne (by decide) (gs_self q3)) (gs_self (gs_ne (by decide) q4)) (gs_ne (by decide) (gs_ne (by decide) q5)) (by omega) (funext (fun p => (if_neg (by omega)).symm))
          exact z9
        · have c4 : ((n)) < 0 := c4
          refine wn_bp (pc' := 34) (w := -3) rfl rfl (by decide) ?_
          have en60 : (nI 60).toInt = 60 := by decide
          have ez0 : (0 : Int32).toInt = 0 := by decide
          try simp only [Int32.lt_iff_toInt_lt, Int32.le_iff_toInt_le, i2l_int, Int32.toInt_zero, iin] at c3
          try simp only [Int32.lt_iff_toInt_lt, Int32.le_iff_toInt_le, i2l_int, Int32.toInt_zero, iin] at c4
          have hC : rowC (nI s9) (nI u9) n := ⟨iin_nI (by omega) (by omega), iin_nI (by omega) (by omega), by omega⟩
          refine wn_iret rfl rfl rfl ⟨congrArg (fun z => some (Value.int z)) ?_, rfl, fun _ _ _ _ _ => rfl, fun _ _ _ _ _ _ _ _ _ _ _ q => q, q1, ⟨_, q2⟩, ?_, ?_, ?_, _, q6⟩
          · unfold rowA; rw [qI_t hC, qI_t (by omega)]
          · rw [show rowM (nI s9) (nI u9) n mn = mn from qW_f (fun q => by have := q.2; omega)]; exact q3
          · rw [show rowD (nI s9) (nI u9) n wd = wd from qW_f (fun q => by have := q.2; omega)]; exact q4
          · rw [show rowN (nI s9) (nI u9) n nu = nu from qN_f (fun q => by have := q.2; omega)]; exact q5
      · have c3 : ((nI (60))) < ((n)) := c3
        refine wn_bp (pc' := 27) (w := -2) rfl rfl (by decide) ?_
        have en60 : (nI 60).toInt = 60 := by decide
        have ez0 : (0 : Int32).toInt = 0 := by decide
        try simp only [Int32.lt_iff_toInt_lt, Int32.le_iff_toInt_le, i2l_int, Int32.toInt_zero, iin] at c3
        refine wn_iret rfl rfl rfl ⟨congrArg (fun z => some (Value.int z)) ?_, rfl, fun _ _ _ _ _ => rfl, fun _ _ _ _ _ _ _ _ _ _ _ q => q, q1, ⟨_, q2⟩, ?_, ?_, ?_, _, q6⟩
        · exact (qI_f (fun q => by have := q.2.2; omega)).symm
        · rw [show rowM (nI s9) (nI u9) n mn = mn from qW_f (fun q => (fun q => by have := q.2.2; omega) q.1)]; exact q3
        · rw [show rowD (nI s9) (nI u9) n wd = wd from qW_f (fun q => (fun q => by have := q.2.2; omega) q.1)]; exact q4
        · rw [show rowN (nI s9) (nI u9) n nu = nu from qN_f (fun q => (fun q => by have := q.2.2; omega) q.1)]; exact q5

theorem kase_41 (s : Int32) (u : Int32) (n : Int32) : CaseI Rq 130 240 [.int s, .int u, .int n] := kase_s (fun _ tl mn wd nu => rowA s u n) (fun tp _ => tp) (fun tl => tl) (fun mn wd => rowM s u n mn) (fun mn wd => rowD s u n wd) (fun mn wd nu => rowN s u n nu) (fun tp tl mn wd H => row_w s u n H) (fun h tp tl mn wd nu ct hS o0 o1 o2 SL => x_row 698 h tp tl mn wd nu ct hS o0 o1 o2 SL s u n) (fun h tp tl mn wd nu hS MT => m_row 697 h tp tl mn wd nu hS MT s u n)
def cutA (a : Nat) (v : Int64) : Int64 := if a = 0 then Int32.toInt64 ((Int64.toInt32 v).toInt8.toInt32) else if a = 1 then Int32.toInt64 ((Int64.toInt32 v).toInt16.toInt32) else if a = 2 then Int32.toInt64 (Int64.toInt32 v) else v
theorem cut_bv {k n : Nat} (hk : 0 < k) (hn : n + k = 64) (x : BitVec 64) (z : BitVec 64) (hz : ∀ i, i < 64 → z.getLsbD i = if i < k then x.getLsbD i else x.getLsbD (k - 1)) : (x <<< n).sshiftRight n = z := by
  apply BitVec.eq_of_getLsbD_eq
  intro i hi
  rw [hz i hi, BitVec.getLsbD_sshiftRight, BitVec.msb_eq_getLsbD_last, BitVec.getLsbD_shiftLeft, BitVec.getLsbD_shiftLeft]
  by_cases c : i < k
  · rw [if_pos c, if_pos (by omega), show n + i - n = i by omega, decide_eq_false (show ¬ 64 ≤ i by omega), decide_eq_true (show n + i < 64 by omega), decide_eq_false (show ¬ n + i < n by omega)]; rfl
  · rw [if_neg c, if_neg (by omega), show 64 - 1 - n = k - 1 by omega, decide_eq_false (show ¬ 64 ≤ i by omega), decide_eq_true (show 64 - 1 < 64 by omega), decide_eq_false (show ¬ 64 - 1 < n by omega)]; rfl
theorem cut_j (s : Int32) {n : Nat} (hs : ((s.toInt64 &&& 63).toBitVec.smod 64).toNat = n) (v : Int64) {z : Int64} (hz : (v.toBitVec <<< n).sshiftRight n = z.toBitVec) : (v <<< (s.toInt64 &&& 63)) >>> (s.toInt64 &&& 63) = z := by
  apply Int64.toBitVec_inj.mp
  rw [← hz, Int64.toBitVec_shiftRight, Int64.toBitVec_shiftLeft]
  show (v.toBitVec <<< ((s.toInt64 &&& 63).toBitVec.smod 64).toNat).sshiftRight ((s.toInt64 &&& 63).toBitVec.smod 64).toNat = _
  rw [hs]
theorem cut_8 (v : Int64) : (v <<< ((nI 56).toInt64 &&& 63)) >>> ((nI 56).toInt64 &&& 63) = Int32.toInt64 ((Int64.toInt32 v).toInt8.toInt32) := by
  refine cut_j (nI 56) (n := 56) (by decide) v (cut_bv (k := 8) (by omega) (by omega) _ _ (fun i hi => ?_))
  show ((((v.toBitVec.signExtend 32).signExtend 8).signExtend 32).signExtend 64).getLsbD i = _
  simp only [BitVec.getLsbD_signExtend, BitVec.msb_eq_getLsbD_last]
  by_cases c : i < 8
  · simp [c, hi, show i < 32 by omega]
  · by_cases d : i < 32
    · simp [c, hi, d]
    · simp [c, hi, d]
theorem cut_16 (v : Int64) : (v <<< ((nI 48).toInt64 &&& 63)) >>> ((nI 48).toInt64 &&& 63) = Int32.toInt64 ((Int64.toInt32 v).toInt16.toInt32) := by
  refine cut_j (nI 48) (n := 48) (by decide) v (cut_bv (k := 16) (by omega) (by omega) _ _ (fun i hi => ?_))
  show ((((v.toBitVec.signExtend 32).signExtend 16).signExtend 32).signExtend 64).getLsbD i = _
  simp only [BitVec.getLsbD_signExtend, BitVec.msb_eq_getLsbD_last]
  by_cases c : i < 16
  · simp [c, hi, show i < 32 by omega]
  · by_cases d : i < 32
    · simp [c, hi, d]
    · simp [c, hi, d]
theorem cut_32 (v : Int64) : (v <<< ((nI 32).toInt64 &&& 63)) >>> ((nI 32).toInt64 &&& 63) = Int32.toInt64 (Int64.toInt32 v) := by
  refine cut_j (nI 32) (n := 32) (by decide) v (cut_bv (k := 32) (by omega) (by omega) _ _ (fun i hi => ?_))
  show ((v.toBitVec.signExtend 32).signExtend 64).getLsbD i = _
  simp only [BitVec.getLsbD_signExtend, BitVec.msb_eq_getLsbD_last]
  by_cases c : i < 32
  · simp [c, hi]
  · simp [c, hi]
theorem cut_0 (v : Int64) : (v <<< ((nI 0).toInt64 &&& 63)) >>> ((nI 0).toInt64 &&& 63) = v := by
  refine cut_j (nI 0) (n := 0) (by decide) v (cut_bv (k := 64) (by omega) (by omega) _ _ (fun i hi => ?_))
  rw [if_pos hi]
theorem x_cut (d : Nat) (h : aH) (q a1 r : Nat) (y : Int32) (ha : a1 < 4) (j0 : isO h q 5 [.int (nI a1), .int y, .ref r]) (v : Int64) : Rn (d + 1) 46 [.ref (q), .long (v)] h (some (.long (cutA a1 v))) h 0 0 := by
  refine Rn_of (by decide) (Nat.le_of_ble_eq_true rfl) ?_
  show Wn _ _ 0 [(0, .ref (q)), (1, .long (v))] [] _ _
  refine wn_ld (pc' := 1) (q := 0) (kin := 2) (v := .ref (q)) rfl (fun _ _ _ => rfl) rfl rfl ?_
  refine wn_get (pc' := 4) (v := .int (nI (a1))) rfl rfl j0 rfl ?_
  rcases (show a1 = 0 ∨ a1 = 1 ∨ a1 = 2 ∨ a1 = 3 by omega) with rfl | rfl | rfl | rfl
  · refine wn_sw (off := 28) (pc' := 32) rfl rfl (by decide) rfl ?_
    refine wn_ld (pc' := 33) (q := 1) (kin := 1) (v := .long (v)) rfl (fun _ _ _ => rfl) rfl rfl ?_
    refine wn_pu (pc' := 34) (st' := [.int (Int64.toInt32 (v))]) rfl (fun _ _ _ => rfl) rfl rfl ?_
    refine wn_pu (pc' := 35) (st' := [.int (((Int64.toInt32 (v))).toInt8.toInt32)]) rfl (fun _ _ _ => rfl) rfl rfl ?_
    refine wn_pu (pc' := 36) (st' := [.long (Int32.toInt64 (((Int64.toInt32 (v))).toInt8.toInt32))]) rfl (fun _ _ _ => rfl) rfl rfl ?_
    exact wn_lret rfl rfl ⟨rfl, rfl⟩
  · refine wn_sw (off := 33) (pc' := 37) rfl rfl (by decide) rfl ?_
    refine wn_ld (pc' := 38) (q := 1) (kin := 1) (v := .long (v)) rfl (fun _ _ _ => rfl) rfl rfl ?_
    refine wn_pu (pc' := 39) (st' := [.int (Int64.toInt32 (v))]) rfl (fun _ _ _ => rfl) rfl rfl ?_
    refine wn_pu (pc' := 40) (st' := [.int (((Int64.toInt32 (v))).toInt16.toInt32)]) rfl (fun _ _ _ => rfl) rfl rfl ?_
    refine wn_pu (pc' := 41) (st' := [.long (Int32.toInt64 (((Int64.toInt32 (v))).toInt16.toInt32))]) rfl (fun _ _ _ => rfl) rfl rfl ?_
    exact wn_lret rfl rfl ⟨rfl, rfl⟩
  · refine wn_sw (off := 38) (pc' := 42) rfl rfl (by decide) rfl ?_
    refine wn_ld (pc' := 43) (q := 1) (kin := 1) (v := .long (v)) rfl (fun _ _ _ => rfl) rfl rfl ?_
    refine wn_pu (pc' := 44) (st' := [.int (Int64.toInt32 (v))]) rfl (fun _ _ _ => rfl) rfl rfl ?_
    refine wn_pu (pc' := 45) (st' := [.long (Int32.toInt64 (Int64.toInt32 (v)))]) rfl (fun _ _ _ => rfl) rfl rfl ?_
    exact wn_lret rfl rfl ⟨rfl, rfl⟩
  · refine wn_sw (off := 42) (pc' := 46) rfl rfl (by decide) rfl ?_
    refine wn_ld (pc' := 47) (q := 1) (kin := 1) (v := .long (v)) rfl (fun _ _ _ => rfl) rfl rfl ?_
    exact wn_lret rfl rfl ⟨rfl, rfl⟩

theorem m_cut (d : Nat) (h : aH) (v : Int64) (a1 : Nat) (ha : a1 < 4) : Rn (d + 1) 239 [.long (v), .int (nI (a1))] h (some (.long (cutA a1 v))) h 0 0 := by
  refine Rn_of (by decide) (Nat.le_of_ble_eq_true rfl) ?_
  show Wn _ _ 0 [(0, .long (v)), (2, .int (nI (a1)))] [] _ _
  rcases (show a1 = 0 ∨ a1 = 1 ∨ a1 = 2 ∨ a1 = 3 by omega) with rfl | rfl | rfl | rfl
  · refine wn_bp (pc' := 2) (w := nI 64) rfl rfl (by decide) ?_
    refine wn_bp (pc' := 4) (w := nI 8) rfl rfl (by decide) ?_
    refine wn_ld (pc' := 5) (q := 2) (kin := 0) (v := .int (nI (0))) rfl (fun _ _ _ => rfl) rfl rfl ?_
    refine wn_pu (pc' := 6) (st' := [.int ((nI (8)) <<< ((nI (0)) &&& 31)), .int (nI (64))]) rfl (fun _ _ _ => rfl) rfl rfl ?_
    refine wn_pu (pc' := 7) (st' := [.int ((nI (64)) - ((nI (8)) <<< ((nI (0)) &&& 31)))]) rfl (fun _ _ _ => rfl) rfl rfl ?_
    rw [show ((nI (64)) - ((nI (8)) <<< ((nI (0)) &&& 31))) = nI 56 by decide]
    refine wn_st (pc' := 8) (q := 3) (kin := 0) (lv' := [(0, .long (v)), (2, .int (nI (0))), (3, .int (nI (56)))]) rfl (fun _ _ _ => rfl) rfl (Nat.le_of_ble_eq_true rfl) rfl ?_
    refine wn_ld (pc' := 9) (q := 0) (kin := 1) (v := .long (v)) rfl (fun _ _ _ => rfl) rfl rfl ?_
    refine wn_ld (pc' := 10) (q := 3) (kin := 0) (v := .int (nI (56))) rfl (fun _ _ _ => rfl) rfl rfl ?_
    refine wn_pu (pc' := 11) (st' := [.long ((v) <<< (((nI (56))).toInt64 &&& 63))]) rfl (fun _ _ _ => rfl) rfl rfl ?_
    refine wn_ld (pc' := 12) (q := 3) (kin := 0) (v := .int (nI (56))) rfl (fun _ _ _ => rfl) rfl rfl ?_
    refine wn_pu (pc' := 13) (st' := [.long (((v) <<< (((nI (56))).toInt64 &&& 63)) >>> (((nI (56))).toInt64 &&& 63))]) rfl (fun _ _ _ => rfl) rfl rfl ?_
    exact wn_lret rfl rfl ⟨congrArg (fun z => some (Value.long z)) (cut_8 v), rfl⟩
  · refine wn_bp (pc' := 2) (w := nI 64) rfl rfl (by decide) ?_
    refine wn_bp (pc' := 4) (w := nI 8) rfl rfl (by decide) ?_
    refine wn_ld (pc' := 5) (q := 2) (kin := 0) (v := .int (nI (1))) rfl (fun _ _ _ => rfl) rfl rfl ?_
    refine wn_pu (pc' := 6) (st' := [.int ((nI (8)) <<< ((nI (1)) &&& 31)), .int (nI (64))]) rfl (fun _ _ _ => rfl) rfl rfl ?_
    refine wn_pu (pc' := 7) (st' := [.int ((nI (64)) - ((nI (8)) <<< ((nI (1)) &&& 31)))]) rfl (fun _ _ _ => rfl) rfl rfl ?_
    rw [show ((nI (64)) - ((nI (8)) <<< ((nI (1)) &&& 31))) = nI 48 by decide]
    refine wn_st (pc' := 8) (q := 3) (kin := 0) (lv' := [(0, .long (v)), (2, .int (nI (1))), (3, .int (nI (48)))]) rfl (fun _ _ _ => rfl) rfl (Nat.le_of_ble_eq_true rfl) rfl ?_
    refine wn_ld (pc' := 9) (q := 0) (kin := 1) (v := .long (v)) rfl (fun _ _ _ => rfl) rfl rfl ?_
    refine wn_ld (pc' := 10) (q := 3) (kin := 0) (v := .int (nI (48))) rfl (fun _ _ _ => rfl) rfl rfl ?_
    refine wn_pu (pc' := 11) (st' := [.long ((v) <<< (((nI (48))).toInt64 &&& 63))]) rfl (fun _ _ _ => rfl) rfl rfl ?_
    refine wn_ld (pc' := 12) (q := 3) (kin := 0) (v := .int (nI (48))) rfl (fun _ _ _ => rfl) rfl rfl ?_
    refine wn_pu (pc' := 13) (st' := [.long (((v) <<< (((nI (48))).toInt64 &&& 63)) >>> (((nI (48))).toInt64 &&& 63))]) rfl (fun _ _ _ => rfl) rfl rfl ?_
    exact wn_lret rfl rfl ⟨congrArg (fun z => some (Value.long z)) (cut_16 v), rfl⟩
  · refine wn_bp (pc' := 2) (w := nI 64) rfl rfl (by decide) ?_
    refine wn_bp (pc' := 4) (w := nI 8) rfl rfl (by decide) ?_
    refine wn_ld (pc' := 5) (q := 2) (kin := 0) (v := .int (nI (2))) rfl (fun _ _ _ => rfl) rfl rfl ?_
    refine wn_pu (pc' := 6) (st' := [.int ((nI (8)) <<< ((nI (2)) &&& 31)), .int (nI (64))]) rfl (fun _ _ _ => rfl) rfl rfl ?_
    refine wn_pu (pc' := 7) (st' := [.int ((nI (64)) - ((nI (8)) <<< ((nI (2)) &&& 31)))]) rfl (fun _ _ _ => rfl) rfl rfl ?_
    rw [show ((nI (64)) - ((nI (8)) <<< ((nI (2)) &&& 31))) = nI 32 by decide]
    refine wn_st (pc' := 8) (q := 3) (kin := 0) (lv' := [(0, .long (v)), (2, .int (nI (2))), (3, .int (nI (32)))]) rfl (fun _ _ _ => rfl) rfl (Nat.le_of_ble_eq_true rfl) rfl ?_
    refine wn_ld (pc' := 9) (q := 0) (kin := 1) (v := .long (v)) rfl (fun _ _ _ => rfl) rfl rfl ?_
    refine wn_ld (pc' := 10) (q := 3) (kin := 0) (v := .int (nI (32))) rfl (fun _ _ _ => rfl) rfl rfl ?_
    refine wn_pu (pc' := 11) (st' := [.long ((v) <<< (((nI (32))).toInt64 &&& 63))]) rfl (fun _ _ _ => rfl) rfl rfl ?_
    refine wn_ld (pc' := 12) (q := 3) (kin := 0) (v := .int (nI (32))) rfl (fun _ _ _ => rfl) rfl rfl ?_
    refine wn_pu (pc' := 13) (st' := [.long (((v) <<< (((nI (32))).toInt64 &&& 63)) >>> (((nI (32))).toInt64 &&& 63))]) rfl (fun _ _ _ => rfl) rfl rfl ?_
    exact wn_lret rfl rfl ⟨congrArg (fun z => some (Value.long z)) (cut_32 v), rfl⟩
  · refine wn_bp (pc' := 2) (w := nI 64) rfl rfl (by decide) ?_
    refine wn_bp (pc' := 4) (w := nI 8) rfl rfl (by decide) ?_
    refine wn_ld (pc' := 5) (q := 2) (kin := 0) (v := .int (nI (3))) rfl (fun _ _ _ => rfl) rfl rfl ?_
    refine wn_pu (pc' := 6) (st' := [.int ((nI (8)) <<< ((nI (3)) &&& 31)), .int (nI (64))]) rfl (fun _ _ _ => rfl) rfl rfl ?_
    refine wn_pu (pc' := 7) (st' := [.int ((nI (64)) - ((nI (8)) <<< ((nI (3)) &&& 31)))]) rfl (fun _ _ _ => rfl) rfl rfl ?_
    rw [show ((nI (64)) - ((nI (8)) <<< ((nI (3)) &&& 31))) = nI 0 by decide]
    refine wn_st (pc' := 8) (q := 3) (kin := 0) (lv' := [(0, .long (v)), (2, .int (nI (3))), (3, .int (nI (0)))]) rfl (fun _ _ _ => rfl) rfl (Nat.le_of_ble_eq_true rfl) rfl ?_
    refine wn_ld (pc' := 9) (q := 0) (kin := 1) (v := .long (v)) rfl (fun _ _ _ => rfl) rfl rfl ?_
    refine wn_ld (pc' := 10) (q := 3) (kin := 0) (v := .int (nI (0))) rfl (fun _ _ _ => rfl) rfl rfl ?_
    refine wn_pu (pc' := 11) (st' := [.long ((v) <<< (((nI (0))).toInt64 &&& 63))]) rfl (fun _ _ _ => rfl) rfl rfl ?_
    refine wn_ld (pc' := 12) (q := 3) (kin := 0) (v := .int (nI (0))) rfl (fun _ _ _ => rfl) rfl rfl ?_
    refine wn_pu (pc' := 13) (st' := [.long (((v) <<< (((nI (0))).toInt64 &&& 63)) >>> (((nI (0))).toInt64 &&& 63))]) rfl (fun _ _ _ => rfl) rfl rfl ?_
    exact wn_lret rfl rfl ⟨congrArg (fun z => some (Value.long z)) (cut_0 v), rfl⟩

def wrI (mn : Nat → Int32) (s : Nat) (i : Int32) : Prop := 0 ≤ i.toInt ∧ i.toInt < (mn s).toInt
noncomputable def writeA (s i : Int32) (mn : Nat → Int32) : Int32 := qI (iin s 4) (qI (mn s.toNatClampNeg = -1) (-6) (qI (wrI mn s.toNatClampNeg i) (nI 0) (-7))) (-2)
def wrG (s i : Int32) (mn : Nat → Int32) : Prop := iin s 4 ∧ (¬ mn s.toNatClampNeg = -1) ∧ wrI mn s.toNatClampNeg i
noncomputable def writeN (s i : Int32) (v : Int64) (mn wd : Nat → Int32) (nu : Nat → Int64) : Nat → Int64 := qN (wrG s i mn) (vp_updL nu (60 * s.toNatClampNeg + i.toNatClampNeg) (cutA (wd s.toNatClampNeg).toNatClampNeg v)) nu
theorem x_write (d : Nat) (h : aH)  (tp : Nat → Int32) (tl : Nat) (mn wd : Nat → Int32) (nu : Nat → Int64) (ct : Nat → Int32) (hS : WfS tp tl mn wd) (o0 : isO h 0 8 [.ref 1, .int (nI tl), .ref 2, .ref 23, .ref 50, .ref 51, .ref 52, .ref 58, .ref 59, .ref 60, .ref 61, .ref 62]) (o1 : isB h 1 1200 ct) (o2 : ∀ p, p < 1200 → ct p = tp p) (SL : SlV h mn wd nu) (s i : Int32) (v : Int64) : Sp (Rn (d + 2)) 131 [.ref (0), .int (s), .int (i), .long (v)] h (fun r9 h9 => r9 = some (.int (writeA s i mn)) ∧ h9.length = h.length ∧ (∀ k, 2 ≤ k → k < 51 ∨ 52 ≤ k → k < 63 ∨ 71 ≤ k → h9[k]? = h[k]?) ∧ isO h9 0 8 [.ref 1, .int (nI (tl)), .ref 2, .ref 23, .ref 50, .ref 51, .ref 52, .ref 58, .ref 59, .ref 60, .ref 61, .ref 62] ∧ (∃ ct', isB h9 1 1200 ct' ∧ ∀ p, p < 1200 → ct' p = tp p) ∧ SlV h9 (mn) (wd) (writeN s i v mn wd nu)) := by
  obtain ⟨sg, sl1, sl2⟩ := id SL
  have hT := hS.1
  refine Sp_of (by decide) (Nat.le_of_ble_eq_true rfl) ?_
  show Wn _ _ 0 [(0, .ref (0)), (1, .int (s)), (2, .int (i)), (3, .long (v))] [] _ _
  refine wn_ld (pc' := 1) (q := 1) (kin := 0) (v := .int (s)) rfl (fun _ _ _ => rfl) rfl rfl ?_
  refine wn_staI (pc' := 4) rfl rfl (by decide) rfl rfl (Nat.le_of_ble_eq_true rfl) (x_isSlot _ _ _) ?_
  refine wn_ifneB (t := 10) (f := 7) rfl rfl rfl (fun c1 => ?_) (fun c1 => ?_)
  · have c1 : (iin s 4) := c1
    obtain ⟨s9, hs9, rfl⟩ := iin_of c1
    have ti_s := nI_toInt (n := s9) (show s9 < 2 ^ 31 by omega)
    have cl_s := nI_clamp (n := s9) (show s9 < 2 ^ 31 by omega)
    obtain ⟨nm_s9, nj_s9, nv_s9⟩ := (sl2 s9 (by omega)).2.2
    refine wn_ld (pc' := 11) (q := 0) (kin := 2) (v := .ref (0)) rfl (fun _ _ _ => rfl) rfl rfl ?_
    refine wn_get (pc' := 14) (v := .ref (51)) rfl rfl o0 rfl ?_
    refine wn_ld (pc' := 15) (q := 1) (kin := 0) (v := .int (nI (s9))) rfl (fun _ _ _ => rfl) rfl rfl ?_
    refine wn_aaldv (pc' := 16) (j := s9) (v := .ref (63 + 2 * s9)) rfl rfl (Or.inr rfl) sl1 rfl (by omega) (by decide) ((congrArg va_rf (sl2 s9 (by omega)).1)) ?_
    refine wn_st (pc' := 18) (q := 5) (kin := 2) (lv' := [(0, .ref (0)), (1, .int (nI (s9))), (2, .int (i)), (3, .long (v)), (5, .ref (63 + 2 * s9))]) rfl (fun _ _ _ => rfl) rfl (Nat.le_of_ble_eq_true rfl) rfl ?_
    refine wn_ld (pc' := 20) (q := 5) (kin := 2) (v := .ref (63 + 2 * s9)) rfl (fun _ _ _ => rfl) rfl rfl ?_
    refine wn_get (pc' := 23) (v := .int (mn s9)) rfl rfl (sl2 s9 (by omega)).2.1 rfl ?_
    refine wn_ic (pc' := 24) (w := -1) rfl rfl (by decide) ?_
    refine wn_icmp (t := 30) (f := 27) rfl rfl rfl (fun c2 => ?_) (fun c2 => ?_)
    · have c2 : ¬ ((mn s9)) = ((-1)) := c2
      refine wn_ld (pc' := 31) (q := 2) (kin := 0) (v := .int (i)) rfl (fun _ _ _ => rfl) rfl rfl ?_
      refine wn_ifc (t := 43) (f := 34) rfl rfl rfl (fun c3 => ?_) (fun c3 => ?_)
      · have c3 : ((i)) < 0 := c3
        refine wn_bp (pc' := 45) (w := -7) rfl rfl (by decide) ?_
        have ez0 : (0 : Int32).toInt = 0 := by decide
        have wn : ¬ wrI mn s9 i := fun q => by have q1 := q.1; have q2 := q.2; simp only [Int32.lt_iff_toInt_lt, Int32.le_iff_toInt_le, i2l_int, Int32.toInt_zero, iin] at c3; omega
        refine wn_iret rfl rfl rfl ⟨congrArg (fun z => some (Value.int z)) ?_, rfl, fun _ _ _ _ => rfl, o0, ⟨_, o1, o2⟩, ?_⟩
        · unfold writeA; rw [qI_t (iin_nI (by omega) (by omega)), cl_s, qI_f c2, qI_f wn]
        · rw [show writeN (nI s9) i v mn wd nu = nu from qN_f (fun q => by have q2 := q.2.2; rw [cl_s] at q2; exact wn q2)]; exact SL
      · have c3 : 0 ≤ ((i)) := c3
        refine wn_ld (pc' := 35) (q := 2) (kin := 0) (v := .int (i)) rfl (fun _ _ _ => rfl) rfl rfl ?_
        refine wn_ld (pc' := 37) (q := 5) (kin := 2) (v := .ref (63 + 2 * s9)) rfl (fun _ _ _ => rfl) rfl rfl ?_
        refine wn_get (pc' := 40) (v := .int (mn s9)) rfl rfl (sl2 s9 (by omega)).2.1 rfl ?_
        refine wn_icmp (t := 46) (f := 43) rfl rfl rfl (fun c4 => ?_) (fun c4 => ?_)
        · have c4 : ((i)) < ((mn s9)) := c4
          obtain ⟨m_s9, hm_s9, em_s9⟩ := (hS.2.2 s9 (by omega)).1.resolve_left c2
          have tm_s9 : (mn s9).toInt = (m_s9 : Int) := by rw [em_s9]; exact nI_toInt (by omega)
          obtain ⟨a1, ha1, ew1⟩ := (hS.2.2 s9 (by omega)).2
          try simp only [Int32.lt_iff_toInt_lt, Int32.le_iff_toInt_le, i2l_int, Int32.toInt_zero, iin] at c3
          try simp only [Int32.lt_iff_toInt_lt, Int32.le_iff_toInt_le, i2l_int, Int32.toInt_zero, iin] at c4
          have i9i : iin i m_s9 := ⟨by omega, by omega⟩
          obtain ⟨i9, hi9, rfl⟩ := iin_of i9i
          have ti_i := nI_toInt (n := i9) (show i9 < 2 ^ 31 by omega)
          have cl_i := nI_clamp (n := i9) (show i9 < 2 ^ 31 by omega)
          refine wn_ld (pc' := 48) (q := 5) (kin := 2) (v := .ref (63 + 2 * s9)) rfl (fun _ _ _ => rfl) rfl rfl ?_
          refine wn_get (pc' := 51) (v := .ref (64 + 2 * s9)) rfl rfl (sl2 s9 (by omega)).2.1 rfl ?_
          refine wn_ld (pc' := 52) (q := 2) (kin := 0) (v := .int (nI (i9))) rfl (fun _ _ _ => rfl) rfl rfl ?_
          refine wn_ld (pc' := 54) (q := 5) (kin := 2) (v := .ref (63 + 2 * s9)) rfl (fun _ _ _ => rfl) rfl rfl ?_
          refine wn_ld (pc' := 55) (q := 3) (kin := 1) (v := .long (v)) rfl (fun _ _ _ => rfl) rfl rfl ?_
          refine wn_virL (pc' := 58) rfl rfl (by decide) rfl rfl (sl2 s9 (by omega)).2.1 (Nat.le_of_ble_eq_true rfl) (x_cut _ _ (63 + 2 * s9) a1 _ _ ha1 (by rw [← ew1]; exact (sl2 s9 (by omega)).2.1) v) ?_
          refine wn_last (pc' := 59) (j := i9) rfl rfl nj_s9 rfl (by omega) (by decide) ?_
          refine wn_ic (pc' := 60) (w := nI 0) rfl rfl (by decide) ?_
          have wy : wrI mn s9 (nI i9) := ⟨by rw [ti_i]; omega, by rw [ti_i, tm_s9]; omega⟩
          have hG : wrG (nI s9) (nI i9) mn := ⟨iin_nI (by omega) (by omega), by rw [cl_s]; exact ⟨c2, wy⟩⟩
          refine wn_iret rfl rfl rfl ⟨congrArg (fun z => some (Value.int z)) ?_, (Fr.st (Fr.rfl' [63 + 2 * s9, 64 + 2 * s9] h) (by simp)).1, fun k p1 p2 p3 => (Fr.st (Fr.rfl' [63 + 2 * s9, 64 + 2 * s9] h) (by simp)).2 k (by simp only [List.mem_cons, List.not_mem_nil, or_false]; omega), o0.kp ((Fr.st (Fr.rfl' [63 + 2 * s9, 64 + 2 * s9] h) (by simp)).2 _ (by simp only [List.mem_cons, List.not_mem_nil, or_false]; omega)), ⟨_, o1.kp ((Fr.st (Fr.rfl' [63 + 2 * s9, 64 + 2 * s9] h) (by simp)).2 _ (by simp only [List.mem_cons, List.not_mem_nil, or_false]; omega)), o2⟩, ?_⟩
          · unfold writeA; rw [qI_t (iin_nI (by omega) (by omega)), cl_s, qI_f c2, qI_t wy]
          · unfold writeN; rw [qN_t hG, cl_s, cl_i, ew1, nI_clamp (by omega)]
            refine SL.up1 (show s9 < 4 by omega) (Fr.st (Fr.rfl' [63 + 2 * s9, 64 + 2 * s9] h) (by simp)) (gs_ne (by omega) (sl2 s9 (by omega)).2.1) (gs_self nj_s9) (fun p hp => ?_) (fun k p hk he hp => pk_uLn (by omega))
            by_cases e : p = i9
            · rw [e, pk_uLs, pk_uLs]
            · rw [pk_uLn e, pk_uLn (by omega)]; exact nv_s9 p hp
        · have c4 : ((mn s9)) ≤ ((i)) := c4
          refine wn_bp (pc' := 45) (w := -7) rfl rfl (by decide) ?_
          have ez0 : (0 : Int32).toInt = 0 := by decide
          have wn : ¬ wrI mn s9 i := fun q => by have q1 := q.1; have q2 := q.2; simp only [Int32.lt_iff_toInt_lt, Int32.le_iff_toInt_le, i2l_int, Int32.toInt_zero, iin] at c4; omega
          refine wn_iret rfl rfl rfl ⟨congrArg (fun z => some (Value.int z)) ?_, rfl, fun _ _ _ _ => rfl, o0, ⟨_, o1, o2⟩, ?_⟩
          · unfold writeA; rw [qI_t (iin_nI (by omega) (by omega)), cl_s, qI_f c2, qI_f wn]
          · rw [show writeN (nI s9) i v mn wd nu = nu from qN_f (fun q => by have q2 := q.2.2; rw [cl_s] at q2; exact wn q2)]; exact SL
    · have c2 : ((mn s9)) = ((-1)) := c2
      refine wn_bp (pc' := 29) (w := -6) rfl rfl (by decide) ?_
      refine wn_iret rfl rfl rfl ⟨congrArg (fun z => some (Value.int z)) ?_, rfl, fun _ _ _ _ => rfl, o0, ⟨_, o1, o2⟩, ?_⟩
      · unfold writeA; rw [qI_t (iin_nI (by omega) (by omega)), cl_s, qI_t c2]
      · rw [show writeN (nI s9) i v mn wd nu = nu from qN_f (fun q => by have q2 := q.2.1; rw [cl_s] at q2; exact q2 c2)]; exact SL
  · have c1 : ¬ (iin s 4) := c1
    refine wn_bp (pc' := 9) (w := -2) rfl rfl (by decide) ?_
    refine wn_iret rfl rfl rfl ⟨congrArg (fun z => some (Value.int z)) ?_, rfl, fun _ _ _ _ => rfl, o0, ⟨_, o1, o2⟩, ?_⟩
    · exact (qI_f c1).symm
    · rw [show writeN s i v mn wd nu = nu from qN_f (fun q => c1 q.1)]; exact SL

theorem m_write (d : Nat) (h : aH)  (tp : Nat → Int32) (tl : Nat) (mn wd : Nat → Int32) (nu : Nat → Int64) (hS : WfS tp tl mn wd) (MT : MtV h tp tl mn wd nu) (s i : Int32) (v : Int64) : Sp (Rn (d + 3)) 241 [.ref (71), .int (s), .int (i), .long (v)] h (fun r9 h9 => r9 = some (.int (writeA s i mn)) ∧ h9.length = h.length ∧ (∀ k, k ≠ 71 → k ≠ 75 → k ≠ 76 → k < 81 ∨ 85 ≤ k → h9[k]? = h[k]?) ∧ (∀ th sz at9 fr tk vl fk fp il up lo, isO h 71 9 (MoF th (nI tl) sz at9 fr tk vl fk fp il up lo) → isO h9 71 9 (MoF th (nI (tl)) sz at9 fr tk vl fk fp il up lo)) ∧ isB h9 75 1200 (tp) ∧ (∃ fv', isI h9 76 5 fv') ∧ isI h9 81 4 (mn) ∧ isI h9 82 4 (wd) ∧ isJ h9 83 240 (writeN s i v mn wd nu) ∧ ∃ mv', isJ h9 84 60 mv') := by
  obtain ⟨th, sz, at9, fr, tk, vl, fk, fp, il, up, lo, fv, mv, q0, q1, q2, q3, q4, q5, q6⟩ := id MT
  have hT := hS.1
  refine Sp_of (by decide) (Nat.le_of_ble_eq_true rfl) ?_
  show Wn _ _ 0 [(0, .ref (71)), (1, .int (s)), (2, .int (i)), (3, .long (v))] [] _ _
  refine wn_ld (pc' := 1) (q := 1) (kin := 0) (v := .int (s)) rfl (fun _ _ _ => rfl) rfl rfl ?_
  refine wn_staI (pc' := 4) rfl rfl (by decide) rfl rfl (Nat.le_of_ble_eq_true rfl) (m_isSlot _ _ _) ?_
  refine wn_ifneB (t := 10) (f := 7) rfl rfl rfl (fun c1 => ?_) (fun c1 => ?_)
  · have c1 : (iin s 4) := c1
    obtain ⟨s9, hs9, rfl⟩ := iin_of c1
    have ti_s := nI_toInt (n := s9) (show s9 < 2 ^ 31 by omega)
    have cl_s := nI_clamp (n := s9) (show s9 < 2 ^ 31 by omega)
    refine wn_ld (pc' := 11) (q := 0) (kin := 2) (v := .ref (71)) rfl (fun _ _ _ => rfl) rfl rfl ?_
    refine wn_get (pc' := 14) (v := .ref (81)) rfl rfl q0 rfl ?_
    refine wn_ld (pc' := 15) (q := 1) (kin := 0) (v := .int (nI (s9))) rfl (fun _ _ _ => rfl) rfl rfl ?_
    refine wn_ialdv (pc' := 16) (j := s9) (v := (mn (s9))) rfl rfl q3 rfl (by omega) (by decide) (rfl) ?_
    refine wn_ic (pc' := 17) (w := -1) rfl rfl (by decide) ?_
    refine wn_icmp (t := 23) (f := 20) rfl rfl rfl (fun c2 => ?_) (fun c2 => ?_)
    · have c2 : ¬ ((mn (s9))) = ((-1)) := c2
      obtain ⟨m_s9, hm_s9, em_s9⟩ := (hS.2.2 s9 (by omega)).1.resolve_left c2
      have tm_s9 : (mn s9).toInt = (m_s9 : Int) := by rw [em_s9]; exact nI_toInt (by omega)
      obtain ⟨a1, ha1, ew1⟩ := (hS.2.2 s9 (by omega)).2
      have tmx : (mn s9 - nI 1).toInt = (mn s9).toInt - 1 := by rw [tm_s9, em_s9, pk_sub_toInt (by omega) (by decide)]; rfl
      refine wn_ld (pc' := 24) (q := 2) (kin := 0) (v := .int (i)) rfl (fun _ _ _ => rfl) rfl rfl ?_
      refine wn_pu (pc' := 25) (st' := [.long (Int32.toInt64 (i))]) rfl (fun _ _ _ => rfl) rfl rfl ?_
      refine wn_pu (pc' := 26) (st' := .long (lN 0) :: [.long (Int32.toInt64 (i))]) rfl (fun _ _ _ => rfl) rfl rfl ?_
      refine wn_ld (pc' := 27) (q := 0) (kin := 2) (v := .ref (71)) rfl (fun _ _ _ => rfl) rfl rfl ?_
      refine wn_get (pc' := 30) (v := .ref (81)) rfl rfl q0 rfl ?_
      refine wn_ld (pc' := 31) (q := 1) (kin := 0) (v := .int (nI (s9))) rfl (fun _ _ _ => rfl) rfl rfl ?_
      refine wn_ialdv (pc' := 32) (j := s9) (v := (mn (s9))) rfl rfl q3 rfl (by omega) (by decide) (rfl) ?_
      refine wn_ic (pc' := 33) (w := nI 1) rfl rfl (by decide) ?_
      refine wn_pu (pc' := 34) (st' := [.int ((mn (s9)) - (nI (1))), .long (lN 0), .long (Int32.toInt64 (i))]) rfl (fun _ _ _ => rfl) rfl rfl ?_
      refine wn_pu (pc' := 35) (st' := [.long (Int32.toInt64 ((mn (s9)) - (nI (1)))), .long (lN 0), .long (Int32.toInt64 (i))]) rfl (fun _ _ _ => rfl) rfl rfl ?_
      refine wn_staI (pc' := 38) rfl rfl (by decide) rfl rfl (Nat.le_of_ble_eq_true rfl) (m_in _ _ _ _ _) ?_
      refine wn_ifneB (t := 44) (f := 41) rfl rfl rfl (fun c3 => ?_) (fun c3 => ?_)
      · have c3 : ((lN 0).toInt ≤ (Int32.toInt64 (i)).toInt ∧ (Int32.toInt64 (i)).toInt ≤ (Int32.toInt64 ((mn (s9)) - (nI (1)))).toInt) := c3
        have i9i : iin i m_s9 := by have q1 := c3.1; have q2 := c3.2; rw [i2l_int] at q1; rw [i2l_int, i2l_int, tmx] at q2; have e1 : (lN 0).toInt = 0 := (by decide); exact ⟨by omega, by omega⟩
        obtain ⟨i9, hi9, rfl⟩ := iin_of i9i
        have ti_i := nI_toInt (n := i9) (show i9 < 2 ^ 31 by omega)
        have cl_i := nI_clamp (n := i9) (show i9 < 2 ^ 31 by omega)
        refine wn_ld (pc' := 45) (q := 0) (kin := 2) (v := .ref (71)) rfl (fun _ _ _ => rfl) rfl rfl ?_
        refine wn_get (pc' := 48) (v := .ref (83)) rfl rfl q0 rfl ?_
        refine wn_bp (pc' := 50) (w := nI 60) rfl rfl (by decide) ?_
        refine wn_ld (pc' := 51) (q := 1) (kin := 0) (v := .int (nI (s9))) rfl (fun _ _ _ => rfl) rfl rfl ?_
        refine wn_mulN (pc' := 52) rfl rfl ?_
        refine wn_ld (pc' := 53) (q := 2) (kin := 0) (v := .int (nI (i9))) rfl (fun _ _ _ => rfl) rfl rfl ?_
        refine wn_addN (pc' := 54) rfl rfl ?_
        refine wn_ld (pc' := 55) (q := 3) (kin := 1) (v := .long (v)) rfl (fun _ _ _ => rfl) rfl rfl ?_
        refine wn_ld (pc' := 56) (q := 0) (kin := 2) (v := .ref (71)) rfl (fun _ _ _ => rfl) rfl rfl ?_
        refine wn_get (pc' := 59) (v := .ref (82)) rfl rfl q0 rfl ?_
        refine wn_ld (pc' := 60) (q := 1) (kin := 0) (v := .int (nI (s9))) rfl (fun _ _ _ => rfl) rfl rfl ?_
        refine wn_ialdv (pc' := 61) (j := s9) (v := (nI (a1))) rfl rfl q4 rfl (by omega) (by decide) (ew1) ?_
        refine wn_staL (pc' := 64) rfl rfl (by decide) rfl rfl (Nat.le_of_ble_eq_true rfl) (m_cut _ _ v a1 ha1) ?_
        refine wn_last (pc' := 65) (j := (60 * s9) + i9) rfl rfl q5 rfl (by omega) (by decide) ?_
        refine wn_ic (pc' := 66) (w := nI 0) rfl rfl (by decide) ?_
        have wy : wrI mn s9 (nI i9) := ⟨by rw [ti_i]; omega, by rw [ti_i, tm_s9]; omega⟩
        have hG : wrG (nI s9) (nI i9) mn := ⟨iin_nI (by omega) (by omega), by rw [cl_s]; exact ⟨c2, wy⟩⟩
        refine wn_iret rfl rfl rfl ⟨congrArg (fun z => some (Value.int z)) ?_, (Fr.st (Fr.rfl' [83] h) (by decide)).1, fun k p1 p2 p3 p4 => (Fr.st (Fr.rfl' [83] h) (by decide)).2 k (by simp only [List.mem_cons, List.not_mem_nil, or_false]; omega), fun _ _ _ _ _ _ _ _ _ _ _ q => ((Fr.st (Fr.rfl' [83] h) (by decide)).2 71 (by decide)).trans q, ((Fr.st (Fr.rfl' [83] h) (by decide)).2 75 (by decide)).trans q1, ⟨_, ((Fr.st (Fr.rfl' [83] h) (by decide)).2 76 (by decide)).trans q2⟩, ((Fr.st (Fr.rfl' [83] h) (by decide)).2 81 (by decide)).trans q3, ((Fr.st (Fr.rfl' [83] h) (by decide)).2 82 (by decide)).trans q4, ?_, _, ((Fr.st (Fr.rfl' [83] h) (by decide)).2 84 (by decide)).trans q6⟩
        · unfold writeA; rw [qI_t (iin_nI (by omega) (by omega)), cl_s, qI_f c2, qI_t wy]
        · unfold writeN; rw [qN_t hG, cl_s, cl_i, ew1, nI_clamp (by omega)]; exact (gs_self q5)
      · have c3 : ¬ ((lN 0).toInt ≤ (Int32.toInt64 (i)).toInt ∧ (Int32.toInt64 (i)).toInt ≤ (Int32.toInt64 ((mn (s9)) - (nI (1)))).toInt) := c3
        refine wn_bp (pc' := 43) (w := -7) rfl rfl (by decide) ?_
        have wn : ¬ wrI mn s9 i := fun q => c3 ⟨by rw [i2l_int]; have e1 : (lN 0).toInt = 0 := (by decide); have := q.1; omega, by rw [i2l_int, i2l_int, tmx]; have := q.2; omega⟩
        refine wn_iret rfl rfl rfl ⟨congrArg (fun z => some (Value.int z)) ?_, rfl, fun _ _ _ _ _ => rfl, fun _ _ _ _ _ _ _ _ _ _ _ q => q, q1, ⟨_, q2⟩, ?_, ?_, ?_, _, q6⟩
        · unfold writeA; rw [qI_t (iin_nI (by omega) (by omega)), cl_s, qI_f c2, qI_f wn]
        · exact q3
        · exact q4
        · rw [show writeN (nI s9) i v mn wd nu = nu from qN_f (fun q => by have q2 := q.2.2; rw [cl_s] at q2; exact wn q2)]; exact q5
    · have c2 : ((mn (s9))) = ((-1)) := c2
      refine wn_bp (pc' := 22) (w := -6) rfl rfl (by decide) ?_
      refine wn_iret rfl rfl rfl ⟨congrArg (fun z => some (Value.int z)) ?_, rfl, fun _ _ _ _ _ => rfl, fun _ _ _ _ _ _ _ _ _ _ _ q => q, q1, ⟨_, q2⟩, ?_, ?_, ?_, _, q6⟩
      · unfold writeA; rw [qI_t (iin_nI (by omega) (by omega)), cl_s, qI_t c2]
      · exact q3
      · exact q4
      · rw [show writeN (nI s9) i v mn wd nu = nu from qN_f (fun q => by have q2 := q.2.1; rw [cl_s] at q2; exact q2 c2)]; exact q5
  · have c1 : ¬ (iin s 4) := c1
    refine wn_bp (pc' := 9) (w := -2) rfl rfl (by decide) ?_
    refine wn_iret rfl rfl rfl ⟨congrArg (fun z => some (Value.int z)) ?_, rfl, fun _ _ _ _ _ => rfl, fun _ _ _ _ _ _ _ _ _ _ _ q => q, q1, ⟨_, q2⟩, ?_, ?_, ?_, _, q6⟩
    · exact (qI_f c1).symm
    · exact q3
    · exact q4
    · rw [show writeN s i v mn wd nu = nu from qN_f (fun q => c1 q.1)]; exact q5

theorem kase_42 (s i : Int32) (v : Int64) : CaseI Rq 131 241 [.int s, .int i, .long v] := kase_s (fun _ tl mn wd nu => writeA s i mn) (fun tp _ => tp) (fun tl => tl) (fun mn wd => mn) (fun mn wd => wd) (fun mn wd nu => writeN s i v mn wd nu) (fun tp tl mn wd H => H) (fun h tp tl mn wd nu ct hS o0 o1 o2 SL => x_write 698 h tp tl mn wd nu ct hS o0 o1 o2 SL s i v) (fun h tp tl mn wd nu hS MT => m_write 697 h tp tl mn wd nu hS MT s i v)
