/-! BACK -/
section CG
variable {w w' : Nat → Int32}
theorem cg_a (E : ∀ p, p < 2676 → w' p = w p) : AgW w w' := fun p hp => E p (by unfold vol at hp; omega)
theorem cg_wf (E : ∀ p, p < 2676 → w' p = w p) (hWf : WfW w) : WfW w' := by
  have b1 := hWf.1.2.1.2
  have b2 := hWf.1.2.2.2.1.2
  refine wf_ag hWf (cg_a E) (fun v hv => ?_) (fun i hi => ?_) (fun p hp => ?_)
  · rw [E _ (by omega)]; exact (hWf.2.1 v hv).2
  · rw [E _ (by omega), E _ (by omega)]; exact ⟨(hWf.2.2.2.1 i hi).2.2.1, (hWf.2.2.2.1 i hi).2.2.2⟩
  · rw [E _ (by omega)]; exact hWf.2.2.2.2.1.2 p hp
theorem cg_8 (E : ∀ p, p < 2676 → w' p = w p) (hWf : WfW w) (h8 : Hd8 w) : Hd8 w' := by
  have b2 := hWf.1.2.2.2.1.2
  unfold Hd8 at h8 ⊢
  rw [ag_nt (cg_a E), hdN_eq (w := w) (fun i hi => E _ (by omega))]; exact h8
theorem SceneR.cg {h : aH} {q a b c : Nat} (E : ∀ p, p < 2676 → w' p = w p) (hWf : WfW w) (H : SceneR h q a b c w) : SceneR h q a b c w' := by
  have b1 := hWf.1.2.1.2
  have b2 := hWf.1.2.2.2.1.2
  exact ⟨H.1, H.2.1.ag hWf (cg_a E), H.2.2.1.ag hWf (cg_a E), H.2.2.2.1.eq (ag_nt (cg_a E)) (fun i hi => ⟨E _ (by omega), E _ (by omega)⟩), H.2.2.2.2.eq (ag_nv (cg_a E)) (fun p hp => E _ (by omega)) (fun v hv => E _ (by omega))⟩
end CG
noncomputable def bkA (a : Int32) (hi : Nat → Int32) : Int32 := qI (iin a 3) (qI (hi a.toNatClampNeg = 0) (-6) (nI 0)) (-2)
def bkG (a : Int32) (hi : Nat → Int32) : Prop := iin a 3 ∧ ¬ hi a.toNatClampNeg = 0
def imW (im : Nat → Int32) (k : Nat) : Nat → Int32 := fun p => im (2676 * k + p)
def bkP (im w : Nat → Int32) (a k : Nat) : Nat → Int32 := fun p => if p < k then im (2676 * a + p) else w p
theorem bkP_s {im w : Nat → Int32} {a k : Nat} : upd (bkP im w a k) k (im (2676 * a + k)) = bkP im w a (k + 1) := funext (fun p => by
  unfold bkP
  by_cases c : p = k
  · rw [c, pk_us, if_pos (by omega)]
  · rw [pk_un c]
    by_cases d : p < k
    · rw [if_pos d, if_pos (by omega)]
    · rw [if_neg d, if_neg (by omega)])
theorem bkP_e {im w : Nat → Int32} {a : Nat} : ∀ p, p < 2676 → bkP im w a 2676 p = imW im a p := fun p hp => if_pos hp
def ImP (h : aH) (im hi : Nat → Int32) (ig : Nat → Option Nat) : Prop := ∀ k, k < 3 → (hi k = 0 ∧ ig k = none) ∨ (hi k = 1 ∧ ∃ q, ig k = some q ∧ 85 ≤ q ∧ SceneR h q (q + 1) (q + 21) (q + 24) (fun p => im (2676 * k + p)) ∧ WfW (fun p => im (2676 * k + p)))
theorem x_back (d : Nat) (h : aH) (ls : Nat) (w : Nat → Int32) (V : XV h ls w) (im hi : Nat → Int32) (ig : Nat → Option Nat) (b13 : isA h 4 50 3 ig) (b14 : ImP h im hi ig) (b7 : SpreadR h ls w) (a : Int32) : Sp (Rn (d + 4)) 129 [.ref (0), .int (a)] h (fun r9 h9 => r9 = some (.int (bkA a hi)) ∧ (¬ bkG a hi → h9 = h) ∧ (bkG a hi → h9.length = h.length ∧ (∀ k, k < ls ∨ ls + 20 ≤ k → k < 44 ∨ 50 ≤ k → k < 52 ∨ 55 ≤ k → h9[k]? = h[k]?) ∧ SceneR h9 23 ls 44 47 (imW im a.toNatClampNeg) ∧ isO h9 52 6 [.ref ls, .ref 53, .ref 54, .ref 55, .ref 56, .ref 57] ∧ ∃ re1 st1, isI h9 53 10 re1 ∧ isI h9 54 10 st1 ∧ ∀ k, k < 10 → re1 k = -1 ∧ st1 k = 0)) := by
  obtain ⟨v0, ⟨x9, v1⟩, ⟨v2, Ld, Lw, Vo, No⟩, v3⟩ := id V
  obtain ⟨re, stl, vr, ne, ms, s0, s1, s2, s3, s4, s5, s6⟩ := id b7
  refine Sp_of (by decide) (Nat.le_of_ble_eq_true rfl) ?_
  show Wn _ _ 0 [(0, .ref (0)), (1, .int (a))] [] _ _
  refine wn_ld (pc' := 1) (q := 1) (kin := 0) (v := .int (a)) rfl (fun _ _ _ => rfl) rfl rfl ?_
  refine wn_ifc (t := 9) (f := 4) rfl rfl rfl (fun c1 => ?_) (fun c1 => ?_)
  · have c1 : ((a)) < 0 := c1
    refine wn_bp (pc' := 11) (w := -2) rfl rfl (by decide) ?_
    simp only [Int32.lt_iff_toInt_lt, Int32.le_iff_toInt_le, i2l_int, Int32.toInt_zero, iin] at c1
    have en3 : (nI 3).toInt = 3 := by decide
    have nx : ¬ iin a 3 := fun q => by simp only [iin] at q; omega
    exact wn_iret rfl rfl rfl ⟨congrArg (fun z => some (Value.int z)) (qI_f nx).symm, fun _ => rfl, fun q => absurd q.1 nx⟩
  · have c1 : 0 ≤ ((a)) := c1
    refine wn_ld (pc' := 5) (q := 1) (kin := 0) (v := .int (a)) rfl (fun _ _ _ => rfl) rfl rfl ?_
    refine wn_ic (pc' := 6) (w := nI 3) rfl rfl (by decide) ?_
    refine wn_icmp (t := 12) (f := 9) rfl rfl rfl (fun c2 => ?_) (fun c2 => ?_)
    · have c2 : ((a)) < ((nI (3))) := c2
      simp only [Int32.lt_iff_toInt_lt, Int32.le_iff_toInt_le, i2l_int, Int32.toInt_zero, iin] at c1
      simp only [Int32.lt_iff_toInt_lt, Int32.le_iff_toInt_le, i2l_int, Int32.toInt_zero, iin] at c2
      have en3 : (nI 3).toInt = 3 := by decide
      have ai : iin a 3 := ⟨by omega, by omega⟩
      obtain ⟨a9, ha9, rfl⟩ := iin_of ai
      have ti_a := nI_toInt (n := a9) (show a9 < 2 ^ 31 by omega)
      have cl_a := nI_clamp (n := a9) (show a9 < 2 ^ 31 by omega)
      rcases b14 a9 ha9 with ⟨z1, z2⟩ | ⟨z1, q, z2, z3, z4, z5⟩
      · refine wn_ld (pc' := 13) (q := 0) (kin := 2) (v := .ref (0)) rfl (fun _ _ _ => rfl) rfl rfl ?_
        refine wn_get (pc' := 16) (v := .ref (50)) rfl rfl v1 rfl ?_
        refine wn_ld (pc' := 17) (q := 1) (kin := 0) (v := .int (nI (a9))) rfl (fun _ _ _ => rfl) rfl rfl ?_
        refine wn_aaldv (pc' := 18) (j := a9) (v := .null) rfl rfl (Or.inl rfl) b13 rfl (by omega) (by decide) ((congrArg va_rf z2)) ?_
        refine wn_st (pc' := 19) (q := 2) (kin := 2) (lv' := [(0, .ref (0)), (1, .int (nI (a9))), (2, .null)]) rfl (fun _ _ _ => rfl) rfl (Nat.le_of_ble_eq_true rfl) rfl ?_
        refine wn_ld (pc' := 20) (q := 2) (kin := 2) (v := .null) rfl (fun _ _ _ => rfl) rfl rfl ?_
        refine wn_nn0 (f := 23) rfl rfl ?_
        refine wn_bp (pc' := 25) (w := -6) rfl rfl (by decide) ?_
        have i3 : iin (nI a9) 3 := iin_nI (by omega) (by omega)
        refine wn_iret rfl rfl rfl ⟨congrArg (fun z => some (Value.int z)) ?_, fun _ => rfl, fun q => ?_⟩
        · unfold bkA; rw [qI_t i3, cl_a, qI_t z1]
        · have q2 := q.2; rw [cl_a] at q2; exact absurd z1 q2
      · refine wn_ld (pc' := 13) (q := 0) (kin := 2) (v := .ref (0)) rfl (fun _ _ _ => rfl) rfl rfl ?_
        refine wn_get (pc' := 16) (v := .ref (50)) rfl rfl v1 rfl ?_
        refine wn_ld (pc' := 17) (q := 1) (kin := 0) (v := .int (nI (a9))) rfl (fun _ _ _ => rfl) rfl rfl ?_
        refine wn_aaldv (pc' := 18) (j := a9) (v := .ref (q)) rfl rfl (Or.inl rfl) b13 rfl (by omega) (by decide) ((congrArg va_rf z2)) ?_
        refine wn_st (pc' := 19) (q := 2) (kin := 2) (lv' := [(0, .ref (0)), (1, .int (nI (a9))), (2, .ref (q))]) rfl (fun _ _ _ => rfl) rfl (Nat.le_of_ble_eq_true rfl) rfl ?_
        refine wn_ld (pc' := 20) (q := 2) (kin := 2) (v := .ref (q)) rfl (fun _ _ _ => rfl) rfl rfl ?_
        refine wn_nnR (t := 26) rfl rfl ?_
        refine wn_ld (pc' := 27) (q := 0) (kin := 2) (v := .ref (0)) rfl (fun _ _ _ => rfl) rfl rfl ?_
        refine wn_get (pc' := 30) (v := .ref (23)) rfl rfl v1 rfl ?_
        refine wn_ld (pc' := 31) (q := 2) (kin := 2) (v := .ref (q)) rfl (fun _ _ _ => rfl) rfl rfl ?_
        refine wn_virS (pc' := 34) rfl rfl (by decide) rfl rfl v2 (Nat.le_of_ble_eq_true rfl) (x_cpScene _ _ 23 ls 44 47 q (q + 1) (q + 21) (q + 24) (imW im a9) z5 (Or.inl ⟨rfl, v0, rfl, rfl, z3, rfl, rfl, rfl⟩) v2 (Ld.s Lw) Vo.s No.s z4) (fun r9 h3 e4 => ?_)
        obtain ⟨rfl, l_h3, k_h3, R_h3⟩ := e4
        show Wn _ _ 34 _ [] h3 _
        refine wn_ld (pc' := 35) (q := 0) (kin := 2) (v := .ref (0)) rfl (fun _ _ _ => rfl) rfl rfl ?_
        refine wn_get (pc' := 38) (v := .ref (52)) rfl rfl ((k_h3 0 (by omega) (by omega) (by omega)).trans v1) rfl ?_
        refine wn_ld (pc' := 39) (q := 0) (kin := 2) (v := .ref (0)) rfl (fun _ _ _ => rfl) rfl rfl ?_
        refine wn_get (pc' := 42) (v := .ref (23)) rfl rfl ((k_h3 0 (by omega) (by omega) (by omega)).trans v1) rfl ?_
        refine wn_get (pc' := 45) (v := .ref (ls)) rfl rfl ((k_h3 23 (by omega) (by omega) (by omega)).trans v2) rfl ?_
        refine wn_virS (pc' := 48) rfl rfl (by decide) rfl rfl ((k_h3 52 (by omega) (by omega) (by omega)).trans s0) (Nat.le_of_ble_eq_true rfl) (x_startWith _ _ ls ls re stl ((k_h3 52 (by omega) (by omega) (by omega)).trans s0) (s1.kp (k_h3 _ (by omega) (by omega) (by omega))) (s2.kp (k_h3 _ (by omega) (by omega) (by omega)))) (fun r9 h5 e6 => ?_)
        obtain ⟨rfl, f_h5, o_h5, re_h5, st_h5, i1_h5, i2_h5, hz_h5⟩ := e6
        show Wn _ _ 48 _ [] h5 _
        refine wn_ic (pc' := 49) (w := nI 0) rfl rfl (by decide) ?_
        have i3 : iin (nI a9) 3 := iin_nI (by omega) (by omega)
        have nz : ¬ hi a9 = 0 := by rw [z1]; decide
        refine wn_iret rfl rfl rfl ⟨congrArg (fun z => some (Value.int z)) ?_, fun q => absurd (show bkG (nI a9) hi from ⟨i3, by rw [cl_a]; exact nz⟩) q, fun _ => ?_⟩
        · unfold bkA; rw [qI_t i3, cl_a, qI_f nz]
        · rw [cl_a]
          exact ⟨f_h5.1.trans l_h3, fun k p1 p2 p3 => (f_h5.2 k (by simp only [List.mem_cons, List.not_mem_nil, or_false]; omega)).trans (k_h3 k p1 (by omega) (by omega)), R_h3.kp (f_h5.2 _ (by decide)) (fun k p1 p2 => f_h5.2 k (by simp only [List.mem_cons, List.not_mem_nil, or_false]; omega)) (fun k p1 p2 => f_h5.2 k (by simp only [List.mem_cons, List.not_mem_nil, or_false]; omega)) (fun k p1 p2 => f_h5.2 k (by simp only [List.mem_cons, List.not_mem_nil, or_false]; omega)), o_h5, _, _, i1_h5, i2_h5, hz_h5⟩
    · have c2 : ((nI (3))) ≤ ((a)) := c2
      refine wn_bp (pc' := 11) (w := -2) rfl rfl (by decide) ?_
      simp only [Int32.lt_iff_toInt_lt, Int32.le_iff_toInt_le, i2l_int, Int32.toInt_zero, iin] at c1
      simp only [Int32.lt_iff_toInt_lt, Int32.le_iff_toInt_le, i2l_int, Int32.toInt_zero, iin] at c2
      have en3 : (nI 3).toInt = 3 := by decide
      have nx : ¬ iin a 3 := fun q => by simp only [iin] at q; omega
      exact wn_iret rfl rfl rfl ⟨congrArg (fun z => some (Value.int z)) (qI_f nx).symm, fun _ => rfl, fun q => absurd q.1 nx⟩

theorem m_back (d : Nat) (h : aH) (w tp : Nat → Int32) (tl : Nat) (im hi : Nat → Int32) (fk fp : Int32) (mn wd : Nat → Int32) (nu : Nat → Int64) (HM : RepM h w tp tl im hi fk fp mn wd nu) (a : Int32) : Sp (Rn (d + 2)) 146 [.ref (71), .int (a)] h (fun r9 h9 => r9 = some (.int (bkA a hi)) ∧ (¬ bkG a hi → h9 = h) ∧ (bkG a hi → h9.length = h.length ∧ (∀ k, k ≠ 71 → k ≠ 72 → h9[k]? = h[k]?) ∧ isI h9 72 2676 (bkP im w a.toNatClampNeg 2676) ∧ ∀ th sz at9 fr tk vl fk fp il up lo, isO h 71 9 (MoF th (nI tl) sz at9 fr tk vl fk fp il up lo) → isO h9 71 9 (MoF th (nI tl) sz at9 fr tk vl fk fp (nI 0) up lo))) := by
  obtain ⟨th, sz, at9, fr, tk, vl, il, up, lo, fv, fs, sa9, tn, le, mv, q0, q1, q2, q3, q4, q5, q6, q7, q8, q9, q10, q11, q12, q13, q14⟩ := id HM
  refine Sp_of (by decide) (Nat.le_of_ble_eq_true rfl) ?_
  show Wn _ _ 0 [(0, .ref (71)), (1, .int (a))] [] _ _
  refine wn_ld (pc' := 1) (q := 1) (kin := 0) (v := .int (a)) rfl (fun _ _ _ => rfl) rfl rfl ?_
  refine wn_pu (pc' := 2) (st' := [.long (Int32.toInt64 (a))]) rfl (fun _ _ _ => rfl) rfl rfl ?_
  refine wn_pu (pc' := 3) (st' := .long (lN 0) :: [.long (Int32.toInt64 (a))]) rfl (fun _ _ _ => rfl) rfl rfl ?_
  refine wn_go (pc' := 6) (lv' := [(0, .ref (71)), (1, .int (a))]) (st' := [.long ((2 : Int64)), .long (lN 0), .long (Int32.toInt64 (a))]) rfl (fun _ _ _ k9 => k9) ?_
  refine wn_staI (pc' := 9) rfl rfl (by decide) rfl rfl (Nat.le_of_ble_eq_true rfl) (m_inK _ _ a 2 ((2 : Int64)) (by decide)) ?_
  refine wn_ifneB (t := 15) (f := 12) rfl rfl rfl (fun c1 => ?_) (fun c1 => ?_)
  · have c1 : (iin a 3) := c1
    obtain ⟨a9, ha9, rfl⟩ := iin_of c1
    have ti_a := nI_toInt (n := a9) (show a9 < 2 ^ 31 by omega)
    have cl_a := nI_clamp (n := a9) (show a9 < 2 ^ 31 by omega)
    refine wn_ld (pc' := 16) (q := 0) (kin := 2) (v := .ref (71)) rfl (fun _ _ _ => rfl) rfl rfl ?_
    refine wn_get (pc' := 19) (v := .ref (74)) rfl rfl q0 rfl ?_
    refine wn_ld (pc' := 20) (q := 1) (kin := 0) (v := .int (nI (a9))) rfl (fun _ _ _ => rfl) rfl rfl ?_
    refine wn_baldv (pc' := 21) (j := a9) (v := (hi (a9))) rfl rfl (Or.inr rfl) q3 rfl (by omega) (by decide) (rfl) ?_
    refine wn_ifc (t := 27) (f := 24) rfl rfl rfl (fun c2 => ?_) (fun c2 => ?_)
    · have c2 : ¬ ((hi (a9))) = 0 := c2
      refine wn_ic (pc' := 28) (w := nI 0) rfl rfl (by decide) ?_
      refine wn_st (pc' := 29) (q := 2) (kin := 0) (lv' := [(0, .ref (71)), (1, .int (nI (a9))), (2, .int (nI (0)))]) rfl (fun _ _ _ => rfl) rfl (Nat.le_of_ble_eq_true rfl) rfl ?_
      have lp4 : ∀ (n_lp4 : Nat) (g3 : aH) (w1 : Nat → Int32) (k : Nat), 2676 + 1 ≤ k + n_lp4 → Fr [71, 72] h g3 → isO g3 71 9 [.int (th), .ref (72), .ref (73), .ref (74), .ref (75), .int (nI (tl)), .ref (76), .int (sz), .int (at9), .int (fr), .int (tk), .int (vl), .int (fk), .int (fp), .ref (77), .int (il), .ref (78), .ref (79), .ref (80), .long (up), .long (lo), .ref (81), .ref (82), .ref (83), .ref (84)] → isI g3 72 2676 w1 → k ≤ 2676 → w1 = bkP im w a9 k → Wn (Rn (d + 1)) 146 29 [(0, .ref (71)), (1, .int (nI (a9))), (2, .int (nI (k)))] [] (g3) (fun r9 h9 => r9 = some (.int (bkA (nI a9) hi)) ∧ (¬ bkG (nI a9) hi → h9 = h) ∧ (bkG (nI a9) hi → h9.length = h.length ∧ (∀ k, k ≠ 71 → k ≠ 72 → h9[k]? = h[k]?) ∧ isI h9 72 2676 (bkP im w (nI a9).toNatClampNeg 2676) ∧ ∀ th sz at9 fr tk vl fk fp il up lo, isO h 71 9 (MoF th (nI tl) sz at9 fr tk vl fk fp il up lo) → isO h9 71 9 (MoF th (nI tl) sz at9 fr tk vl fk fp (nI 0) up lo))) := by
        intro n_lp4
        induction n_lp4 with
        | zero => intro g3 w1 k hm_lp4 hf_g3 c_71_g3 c_72_g3 hk hZ; exfalso; omega
        | succ n_lp4 ih_lp4 =>
          intro g3 w1 k hm_lp4 hf_g3 c_71_g3 c_72_g3 hk hZ
          refine wn_ld (pc' := 30) (q := 2) (kin := 0) (v := .int (nI (k))) rfl (fun _ _ _ => rfl) rfl rfl ?_
          refine wn_sp (pc' := 33) (w := nI 2676) rfl rfl (by decide) ?_
          refine wn_icmpN (t := 60) (f := 36) rfl rfl rfl (by omega) (by omega) (fun c5 => ?_) (fun c5 => ?_)
          · have c5 : 2676 ≤ k := c5
            obtain rfl : k = 2676 := by omega
            refine wn_ld (pc' := 61) (q := 0) (kin := 2) (v := .ref (71)) rfl (fun _ _ _ => rfl) rfl rfl ?_
            refine wn_ic (pc' := 62) (w := nI 0) rfl rfl (by decide) ?_
            refine wn_put (pc' := 65) rfl rfl c_71_g3 (Nat.le_of_ble_eq_true rfl) ⟨rfl, rfl⟩ ?_
            show Wn _ _ 65 _ [] (g3.set 71 (.inr (9, [.int (th), .ref (72), .ref (73), .ref (74), .ref (75), .int (nI (tl)), .ref (76), .int (sz), .int (at9), .int (fr), .int (tk), .int (vl), .int (fk), .int (fp), .ref (77), .int (nI (0)), .ref (78), .ref (79), .ref (80), .long (up), .long (lo), .ref (81), .ref (82), .ref (83), .ref (84)]))) _
            refine wn_ic (pc' := 66) (w := nI 0) rfl rfl (by decide) ?_
            have i3 : iin (nI a9) 3 := iin_nI (by omega) (by omega)
            refine wn_iret rfl rfl rfl ⟨congrArg (fun z => some (Value.int z)) ?_, fun q => absurd (show bkG (nI a9) hi from ⟨i3, by rw [cl_a]; exact c2⟩) q, fun _ => ⟨(Fr.st hf_g3 (by decide)).1, fun k p1 p2 => (Fr.st hf_g3 (by decide)).2 k (by simp only [List.mem_cons, List.not_mem_nil, or_false]; omega), ?_, ?_⟩⟩
            · unfold bkA; rw [qI_t i3, cl_a, qI_f c2]
            · rw [cl_a, ← hZ]; exact (gs_ne (by decide) c_72_g3)
            · intro th2 sz2 at2 fr2 tk2 vl2 fk2 fp2 il2 up2 lo2 q
              have e := isO_inj q q0
              unfold MoF at e
              simp only [List.cons.injEq, Value.int.injEq, Value.long.injEq, and_true, true_and] at e
              obtain ⟨rfl, rfl, rfl, rfl, rfl, rfl, rfl, rfl, rfl, rfl, rfl⟩ := e
              exact (gs_self c_71_g3)
          · have c5 : k < 2676 := c5
            refine wn_ld (pc' := 37) (q := 0) (kin := 2) (v := .ref (71)) rfl (fun _ _ _ => rfl) rfl rfl ?_
            refine wn_get (pc' := 40) (v := .ref (72)) rfl rfl c_71_g3 rfl ?_
            refine wn_ld (pc' := 41) (q := 2) (kin := 0) (v := .int (nI (k))) rfl (fun _ _ _ => rfl) rfl rfl ?_
            refine wn_ld (pc' := 42) (q := 0) (kin := 2) (v := .ref (71)) rfl (fun _ _ _ => rfl) rfl rfl ?_
            refine wn_get (pc' := 45) (v := .ref (73)) rfl rfl c_71_g3 rfl ?_
            refine wn_sp (pc' := 48) (w := nI 2676) rfl rfl (by decide) ?_
            refine wn_ld (pc' := 49) (q := 1) (kin := 0) (v := .int (nI (a9))) rfl (fun _ _ _ => rfl) rfl rfl ?_
            refine wn_mulN (pc' := 50) rfl rfl ?_
            refine wn_ld (pc' := 51) (q := 2) (kin := 0) (v := .int (nI (k))) rfl (fun _ _ _ => rfl) rfl rfl ?_
            refine wn_addN (pc' := 52) rfl rfl ?_
            refine wn_ialdv (pc' := 53) (j := (2676 * a9) + k) (v := (im ((2676 * a9) + k))) rfl rfl ((hf_g3.2 73 (by decide)).trans q2) rfl (by omega) (by decide) (rfl) ?_
            refine wn_iast (pc' := 54) (j := k) rfl rfl c_72_g3 rfl (by omega) (by decide) ?_
            refine wn_incN (n := 1) (pc' := 57) (lv' := [(0, .ref (71)), (1, .int (nI (a9))), (2, .int (nI (k + 1)))]) rfl rfl rfl (Nat.le_of_ble_eq_true rfl) rfl (by decide) ?_
            refine wn_jp (pc' := 29) rfl rfl ?_
            refine wn_weak (lv' := [(0, .ref (71)), (1, .int (nI (a9))), (2, .int (nI (k + 1)))]) (by simp) ?_
            have z9 := ih_lp4 (g3.set 72 (.inl (0, 2676, .inl (upd w1 (k) ((im ((2676 * a9) + k))))))) (upd w1 (k) ((im ((2676 * a9) + k)))) (k + 1) (by omega) (Fr.st hf_g3 (by decide)) (gs_ne (by decide) c_71_g3) (gs_self c_72_g3) (by omega) (by rw [hZ]; exact bkP_s)
            exact z9
      refine wn_weak (lv' := [(0, .ref (71)), (1, .int (nI (a9))), (2, .int (nI (0)))]) (by simp) ?_
      have z9 := lp4 (2676 + 1) h w 0 (by omega) (Fr.rfl' [71, 72] h) q0 q1 (by omega) (funext (fun p => (if_neg (by omega)).symm))
      exact z9
    · have c2 : ((hi (a9))) = 0 := c2
      refine wn_bp (pc' := 26) (w := -6) rfl rfl (by decide) ?_
      have i3 : iin (nI a9) 3 := iin_nI (by omega) (by omega)
      refine wn_iret rfl rfl rfl ⟨congrArg (fun z => some (Value.int z)) ?_, fun _ => rfl, fun q => ?_⟩
      · unfold bkA; rw [qI_t i3, cl_a, qI_t c2]
      · have q2 := q.2; rw [cl_a] at q2; exact absurd c2 q2
  · have c1 : ¬ (iin a 3) := c1
    refine wn_bp (pc' := 14) (w := -2) rfl rfl (by decide) ?_
    exact wn_iret rfl rfl rfl ⟨congrArg (fun z => some (Value.int z)) (qI_f c1).symm, fun _ => rfl, fun q => absurd q.1 c1⟩

theorem kase_40 (a : Int32) : CaseI Rq 129 146 [.int a] := by
  intro h hR
  obtain ⟨w, tp, tl, im, hi, fk, fp, mn, wd, nu, ⟨g1, g8, g9⟩, g2, HM, HC⟩ := id hR
  obtain ⟨ls, lr, ct, bu, lb, ft, ta, un, ln, k9, s9, a9, n9, ig, sg, b0, b1, b2, b3, b4, b5, b6, b7, b8, b9, b10, b11, b12, b13, b14, b15, b16, b17⟩ := id HC
  obtain ⟨re, stl, vr, ne, ms, s0, s1, s2, s3, s4, s5, s6⟩ := id b7
  have V : XV h ls w := ⟨by omega, ⟨_, b1⟩, b6, s0⟩
  obtain ⟨r1, h1, x1, rfl, n1, y1⟩ := x_back 696 h ls w V im hi ig b13 b14 b7 a
  by_cases c : bkG a hi
  · obtain ⟨l1, k1, S1, o1, re1, st1, i1, i2, z1⟩ := y1 c
    have HM1 := HM.kp (h' := h1) (fun k p1 p2 => k1 k (by omega) (by omega) (by omega))
    obtain ⟨r2, h2, x2, rfl, n2, y2⟩ := m_back 698 h1 w tp tl im hi fk fp mn wd nu HM1 a
    obtain ⟨l2, k2, W2, M2⟩ := y2 c
    obtain ⟨ca, cb⟩ := id c
    obtain ⟨a8, ha8, rfl⟩ := iin_of ca
    rw [nI_clamp (show a8 < 2 ^ 31 by omega)] at cb S1 W2
    have hp : hi a8 = 1 ∧ WfW (imW im a8) := by
      rcases b14 a8 ha8 with ⟨e1, _⟩ | ⟨e1, q, _, _, _, e2⟩
      · exact absurd e1 cb
      · exact ⟨e1, e2⟩
    have wf := cg_wf (w := imW im a8) (w' := bkP im w a8 2676) bkP_e hp.2
    have w8 := cg_8 (w := imW im a8) (w' := bkP im w a8 2676) bkP_e hp.2 (g9 a8 ha8 hp.1)
    have S1 := SceneR.cg (w := imW im a8) (w' := bkP im w a8 2676) bkP_e hp.2 S1
    obtain ⟨th, sz, at9, fr, tk, vl, il, up, lo, fv, fs, sa9, tn, le, mv, q0, q1, q2, q3, q4, q5, q6, q7, q8, q9, q10, q11, q12, q13, q14⟩ := id HM1
    have HM2 : RepM h2 (bkP im w a8 2676) tp tl im hi fk fp mn wd nu := ⟨th, sz, at9, fr, tk, vl, nI 0, up, lo, fv, fs, sa9, tn, le, mv, M2 _ _ _ _ _ _ _ _ _ _ _ q0, W2, q2.kp (k2 _ (by decide) (by decide)), q3.kp (k2 _ (by decide) (by decide)), q4.kp (k2 _ (by decide) (by decide)), q5.kp (k2 _ (by decide) (by decide)), q6.kp (k2 _ (by decide) (by decide)), q7.kp (k2 _ (by decide) (by decide)), q8.kp (k2 _ (by decide) (by decide)), q9.kp (k2 _ (by decide) (by decide)), q10.kp (k2 _ (by decide) (by decide)), q11.kp (k2 _ (by decide) (by decide)), q12.kp (k2 _ (by decide) (by decide)), q13.kp (k2 _ (by decide) (by decide)), Or.inl rfl⟩
    have HC1 : RepC h1 (bkP im w a8 2676) tp tl im hi fk fp mn wd nu := by
      refine ⟨ls, lr, ct, bu, lb, ft, ta, un, ln, k9, s9, a9, n9, ig, sg, b0, b1.kp (k1 _ (by omega) (by omega) (by omega)), b2.kp (k1 _ (by omega) (by omega) (by omega)), b3, b4.kp (k1 _ (by omega) (by omega) (by omega)), b5.kp (fun k p1 p2 => k1 k (by omega) (by omega) (by omega)), S1, ⟨re1, st1, vr, ne, ms, o1, i1, i2, s3.kp (k1 _ (by omega) (by omega) (by omega)), s4.kp (k1 _ (by omega) (by omega) (by omega)), s5.kp (k1 _ (by omega) (by omega) (by omega)), fun i hi => Or.inl (z1 i hi)⟩, b8.kp (k1 _ (by omega) (by omega) (by omega)), b9.kp (k1 _ (by omega) (by omega) (by omega)), b10.kp (k1 _ (by omega) (by omega) (by omega)), b11.kp (k1 _ (by omega) (by omega) (by omega)), b12.kp (k1 _ (by omega) (by omega) (by omega)), b13.kp (k1 _ (by omega) (by omega) (by omega)), fun k p1 => ?_, b15, b16.kp (k1 _ (by omega) (by omega) (by omega)), fun k p1 => ?_⟩
      · rcases b14 k p1 with e | ⟨d1, q, d2, d3, d4, d5⟩
        · exact Or.inl e
        · exact Or.inr ⟨d1, q, d2, d3, d4.kp (k1 _ (by omega) (by omega) (by omega)) (fun k p1 p2 => k1 k (by omega) (by omega) (by omega)) (fun k p1 p2 => k1 k (by omega) (by omega) (by omega)) (fun k p1 p2 => k1 k (by omega) (by omega) (by omega)), d5⟩
      · obtain ⟨d1, d2, nm, d3, d4⟩ := b17 k p1
        exact ⟨d1, d2.kp (k1 _ (by omega) (by omega) (by omega)), nm, d3.kp (k1 _ (by omega) (by omega) (by omega)), d4⟩
    have HC2 := HC1.kp (h' := h2) (fun k p => k2 k (by omega) (by omega))
    exact ⟨_, h1, h2, 0, 0, _, _, by decide, by decide, b1, x1, q0, x2, bkP im w a8 2676, tp, tl, im, hi, fk, fp, mn, wd, nu, ⟨wf, w8, g9⟩, g2, HM2, HC2⟩
  · obtain rfl := n1 c
    obtain ⟨r2, h2, x2, rfl, n2, y2⟩ := m_back 698 h1 w tp tl im hi fk fp mn wd nu HM a
    obtain rfl := n2 c
    obtain ⟨th, tp9, sz, at9, fr, tk, vl, fk9, fp9, il, up, lo, q0, q1⟩ := HM.mq.mh
    exact ⟨_, h2, h2, 0, 0, _, _, by decide, by decide, b1, x1, q0, x2, hR⟩
