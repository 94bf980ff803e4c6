/-! calls -/
theorem popN_ok : ∀ (n : Nat) (acc st As r : List Value), popN n acc st = some (As, r) → As.reverse ++ r = acc.reverse ++ st ∧ As.length = n + acc.length
  | 0, acc, st, As, r, h => by
    simp only [popN, Option.some.injEq, Prod.mk.injEq] at h
    obtain ⟨rfl, rfl⟩ := h
    exact ⟨rfl, by omega⟩
  | n + 1, acc, [], As, r, h => by simp [popN] at h
  | n + 1, acc, v :: st, As, r, h => by
    unfold popN at h
    obtain ⟨e1, e2⟩ := popN_ok n (v :: acc) st As r h
    refine ⟨by rw [e1]; simp, by rw [e2]; simp; omega⟩
theorem bNm_lt {a : Nat} (h : a < 244) : bNm a = mNm a := by
  unfold bNm
  split <;> first | (exfalso; omega) | rfl
theorem all_own : ∀ j, j < 244 → mKd j = 0 → mOwn j < 10 := by decide +kernel
theorem mth_n {o ix kk a : Nat} (h : (o, ix, kk, a) ∈ mthL) (hk : kk < 3) : wMth (o, ix, kk, a) ∈ Tw ∧ wMth (o, ix, kk, a) = .methodLink (oNm o) ix (bNm a) := by
  have h9 := List.all_eq_true.mp mth_split _ h
  simp only [Bool.or_eq_true] at h9
  rcases h9 with h9 | h9
  · refine ⟨Tw_in (mth_ok _ (any_bM h9)), ?_⟩
    unfold wMth
    split
    · rename_i e9
      have e9 : kk = 3 := e9
      omega
    · rfl
  · have e9 : kk = 3 := nst_form _ (any_bM h9)
    omega
theorem mth_3 {o ix a : Nat} (h : (o, ix, 3, a) ∈ mthL) : (o, ix, 3, a) ∈ nstL := by
  have h9 := List.all_eq_true.mp mth_split _ h
  simp only [Bool.or_eq_true] at h9
  rcases h9 with h9 | h9
  · have e9 : ∀ q ∈ mtnL, q.2.2.1 < 3 := by decide +kernel
    exact absurd (e9 _ (any_bM h9)) (by simp)
  · exact any_bM h9
def CalOK (z : Nat) (sa sv : Nat → Nat) (cA : Nat → ClassId) (D : va_G) (l : Launch) (d : Nat) (C : aC) : Prop := ∀ (a : Nat) (As : List Value) (h : aH) (rv : Option Value) (h1 : aH) (cc ss : Nat), a < 244 → C a As h rv h1 cc ss → Met l (mNm a) (wsM a) (rmM d cc ss) (PreM z sa sv cA D As h) (PostM z sa cA D h rv h1 cc) cc ss (fun q => z ≤ q)
theorem pre_blind {z : Nat} {sa sv : Nat → Nat} {cA : Nat → ClassId} {D : va_G} {As : List Value} {h : aH} : FrameBlind (PreM z sa sv cA D As h) := fun a U g mk q => ⟨q.1, q.2.1, va_K.moved (u := U) (U := U.calling g mk a) (Vm.Alike.refl U.vm) q.2.2.1, WF.same (u := U) (U := U.calling g mk a) rfl q.2.2.2⟩
section SNC
variable {z : Nat} {sa sv : Nat → Nat} {cA : Nat → ClassId} {D : va_G} {p : Program} {l : Launch} {e : Env} {R : Room} {s : State} {m : MethodId} {args : Array Value} {below : List Frame} {meth : Method} {c : Code} {i : Nat} {Q : State → Prop} {H : Heap} {locs : List Loc} {ls : Array Slot} {pc : Nat} {lv : aL} {st : List Value} {h : aH} {c1 s1 cT sT : Nat} {K : aK}
theorem sn_run {st0 rest : List Value} {rv : Option Value} {h9 : aH} {cc ss : Nat} {a9 : Array Value} (hr : va_Run p l e R s m args below meth c H locs c1 s1 cc ss (F0 m pc ls st0) rest (PostM z sa cA D h rv h9 cc a9) (fun q => z ≤ q)) (hC : Cf z sa cA D s H locs h c1)
    (kk : ∀ (H1 : Heap) (locs1 : List Loc), Cf z sa cA D s H1 locs1 h9 (c1 + cc) → W p l e R s m args below meth c H1 locs1 (c1 + cc) (s1 + ss) Q (F0 m (pc + 3) ls ((rv.map (rV z sa)).toList ++ rest))) : W p l e R s m args below meth c H locs c1 s1 Q (F0 m pc ls st0) := by
  intro T hT X
  obtain ⟨v, st₀, t, T', L, h0, X', hL, e1, e2, ⟨hv, hR, hlen, hz, hk⟩, st⟩ := hr T hT X
  cases hv
  rw [h0] at hz hk
  have hS := hC.2.1
  obtain ⟨t2, a1, b1⟩ := kk T'.heap (locs ++ L) ⟨by rw [e1]; exact hR.2, ⟨Nat.le_trans hS.1 (by rw [e1]; exact hz), fun q h1 h2 => by rw [e1, hk q (Nat.lt_of_lt_of_le h1 hS.1) h2]; exact hS.2.1 q h1 h2, fun q hq => by
      rcases List.mem_append.mp hq with h | h
      · exact hS.2.2 q h
      · exact hL q h⟩, by have := hC.2.2; omega⟩ T' rfl X'
  exact ⟨t2, st t2 a1, b1⟩
theorem sn_pre {As : List Value} (X : Cx z sa sv cA D p s m args meth c i R) (hC : Cf z sa cA D s H locs h c1) (hsz : H.size = z + h.length) : ∀ U : State, U.heap = H → s.WarmedH U.vm → PreM z sa sv cA D As h (As.map (rV z sa)).toArray U := by
  obtain ⟨hx, hb, hml, hown, hts, hKs, hWF, hz, hin, hfr, hlo⟩ := X
  intro U hU hW
  refine ⟨rfl, by rw [hU]; exact ⟨hsz, hC.1⟩, va_K.moved hW.alike hKs, ?_⟩
  rw [hU]
  exact WF.warm hW (WF.kept hWF (fun a h1 h2 => hC.2.1.2.1 a h1 h2))
theorem sn_hR {a d : Nat} (ha : a < 244) (hR : d + 5 ≤ R.frames ∧ 100 * d + 460 ≤ R.locals) : d + 4 + 1 ≤ R.frames ∧ 8 + (mMax a + 11) + (100 * d + 400) ≤ R.locals := by
  obtain ⟨-, -, -, -, -, -, h9⟩ := all_mth a ha
  obtain ⟨g1, g2⟩ := hR
  generalize mMax a = w at h9 ⊢
  refine ⟨g1, ?_⟩
  generalize 100 * d = X at g2 ⊢
  have e9 : X + 460 = 8 + (20 + 11) + (X + 400) + 21 := by rw [Nat.add_comm (8 + (20 + 11)) (X + 400), Nat.add_assoc, Nat.add_assoc]
  rw [e9] at g2
  exact Nat.le_trans (Nat.add_le_add_right (Nat.add_le_add_left (Nat.add_le_add_right h9 11) 8) (X + 400)) (Nat.le_trans (Nat.le_add_right _ 21) g2)
theorem sn_vir {ix a : Nat} (X : Cx z sa sv cA D p s m args meth c i R) (hK : KW z sa cA D p l e R s m args below meth c i Q cT sT K) (hC : Cf z sa cA D s H locs h c1) (hl : lv_has ls (mMax i) (rL z sa lv)) (h1 : c1 ≤ cT) (h2 : s1 ≤ sT) (hd : decode (mByt i) pc = .ok (.invokevirtual ix, 3)) (hk : (mOwn i, ix, 0, a) ∈ mthL) {C : aC} {d : Nat} (hCal : CalOK z sa sv cA D l d C) (hR : d + 5 ≤ R.frames ∧ 100 * d + 460 ≤ R.locals) (hR2 : cT ≤ R.cells ∧ sT ≤ R.slots) (hkd : mKd a = 0) {As : List Value} {k : Nat} {r : List Value} {fs : List Value} (hp : popN (mArg a) [] st = some (As, .ref k :: r)) (hob : h[k]? = some (.inr (mOwn a, fs))) (ho : opCall C cT sT K pc lv h c1 s1 a (.ref k :: As) r) : W p l e R s m args below meth c H locs c1 s1 Q (F0 m pc ls (st.map (rV z sa))) := by
  have X0 := X
  obtain ⟨hx, hb, hml, hown, hts, hKs, hWF, hz, hin, hfr, hlo⟩ := X
  obtain ⟨ha, hr8, rv, h9, cc, ss, hc9, hcc, hss, hc⟩ := ho
  obtain ⟨e1, e2⟩ := popN_ok _ _ _ _ _ hp
  have hst : st = As.reverse ++ .ref k :: r := by simpa using e1.symm
  obtain ⟨m1, m2, m3, m4, m5, m6, m7⟩ := all_mth a ha
  have hisl : a ∈ istL ∧ a ∈ selL := by
    rcases all_knd a ha with q | q | q
    · exact q.2
    · omega
    · omega
  obtain ⟨l1, l2⟩ := mth_n hk (by decide)
  rw [l2, bNm_lt ha] at l1
  have hT : GoodIn Tw (wsV (oNm (mOwn i)) ix (mNm a).cls (mNm a) (wsM a)) := by
    intro w hw
    unfold wsV at hw
    rcases List.mem_append.mp hw with hw | hw
    · simp only [List.mem_cons, List.not_mem_nil, or_false] at hw
      rcases hw with rfl | rfl | rfl | rfl
      · exact good_Tw _ l1
      · exact good_Tw _ (Tw_in (ist_ok a hisl.1))
      · exact good_Tw _ (Tw_in (sel_ok a hisl.2))
      · rw [m1]; exact good_Tw _ (Tw_in (ini_ok _ (all_ini _ m2)))
    · exact good_wsM ha w hw
  refine sn_size hC.1 hC.2.1 hC.2.2 hz (fun hsz => ?_)
  rw [hst, List.map_append, List.map_reverse, List.map_cons]
  refine sn_run (va_runV (As := As.map (rV z sa)) (rest := r.map (rV z sa)) (b := z + k) (C := (mNm a).cls) ⟨hx, hb, hml, hown, hts⟩ (hCal a _ h rv h9 cc ss ha hc9) (cwV (mArg a) hts hT rfl rfl rfl ⟨rfl, m3, m4, m6⟩ (sn_hR ha hR)) ⟨pre_blind, ?_, sn_pre X0 hC hsz⟩ rfl (by rw [List.length_map, e2]; rfl) hl.1 rfl (lv_room (by rw [rV_sum]; exact hr8)) hd ⟨by omega, by omega⟩) hC (fun H1 locs1 hC1 => ?_)
  · rw [m1]
    exact va_recv hKs hC.1 (cls_at (mOwn a) (all_own a ha hkd)) (wld_at hob)
  · have kk := hK _ _ _ _ _ _ hc H1 locs1 ls hC1 hl hcc hss
    rw [List.map_append] at kk
    cases rv <;> exact kk
theorem sn_sta {ix a : Nat} (X : Cx z sa sv cA D p s m args meth c i R) (hK : KW z sa cA D p l e R s m args below meth c i Q cT sT K) (hC : Cf z sa cA D s H locs h c1) (hl : lv_has ls (mMax i) (rL z sa lv)) (h1 : c1 ≤ cT) (h2 : s1 ≤ sT) (hd : decode (mByt i) pc = .ok (.invokestatic ix, 3)) (hk : (mOwn i, ix, 1, a) ∈ mthL) {C : aC} {d : Nat} (hCal : CalOK z sa sv cA D l d C) (hR : d + 5 ≤ R.frames ∧ 100 * d + 460 ≤ R.locals) (hR2 : cT ≤ R.cells ∧ sT ≤ R.slots) (hkd : mKd a = 1) {As : List Value} {r : List Value} (hp : popN (mArg a) [] st = some (As, r)) (ho : opCall C cT sT K pc lv h c1 s1 a As r) : W p l e R s m args below meth c H locs c1 s1 Q (F0 m pc ls (st.map (rV z sa))) := by
  have X0 := X
  obtain ⟨hx, hb, hml, hown, hts, hKs, hWF, hz, hin, hfr, hlo⟩ := X
  obtain ⟨ha, hr8, rv, h9, cc, ss, hc9, hcc, hss, hc⟩ := ho
  obtain ⟨e1, e2⟩ := popN_ok _ _ _ _ _ hp
  have hst : st = As.reverse ++ r := by simpa using e1.symm
  obtain ⟨m1, m2, m3, m4, m5, m6, m7⟩ := all_mth a ha
  have hisl : a ∈ stcL := by
    rcases all_knd a ha with q | q | q
    · omega
    · exact q.2
    · omega
  obtain ⟨l1, l2⟩ := mth_n hk (by decide)
  rw [l2, bNm_lt ha] at l1
  refine sn_size hC.1 hC.2.1 hC.2.2 hz (fun hsz => ?_)
  rw [hst, List.map_append, List.map_reverse]
  refine sn_run (va_runS (As := As.map (rV z sa)) (rest := r.map (rV z sa)) ⟨hx, hb, hml, hown, hts⟩ (hCal a _ h rv h9 cc ss ha hc9) ⟨callB_of (mArg a) hts (good_wsM ha) rfl rfl rfl (by rw [m1]; exact hts _ (Tw_in (ini_ok _ (all_ini _ m2)))) (hts _ l1) ⟨m3, m4, m6⟩ (sn_hR ha hR), hts _ (Tw_in (stc_ok a hisl))⟩ ⟨pre_blind, sn_pre X0 hC hsz⟩ rfl (by rw [List.length_map, e2]; rfl) hl.1 rfl (lv_room (by rw [rV_sum]; exact hr8)) hd ⟨by omega, by omega⟩) hC (fun H1 locs1 hC1 => ?_)
  have kk := hK _ _ _ _ _ _ hc H1 locs1 ls hC1 hl hcc hss
  rw [List.map_append] at kk
  cases rv <;> exact kk
theorem sn_spe {ix a : Nat} (X : Cx z sa sv cA D p s m args meth c i R) (hK : KW z sa cA D p l e R s m args below meth c i Q cT sT K) (hC : Cf z sa cA D s H locs h c1) (hl : lv_has ls (mMax i) (rL z sa lv)) (h1 : c1 ≤ cT) (h2 : s1 ≤ sT) (hd : decode (mByt i) pc = .ok (.invokespecial ix, 3)) (hk : (mOwn i, ix, 2, a) ∈ mthL ∨ (mOwn i, ix, 3, a) ∈ mthL) {C : aC} {d : Nat} (hCal : CalOK z sa sv cA D l d C) (hR : d + 5 ≤ R.frames ∧ 100 * d + 460 ≤ R.locals) (hR2 : cT ≤ R.cells ∧ sT ≤ R.slots) (hkd : mKd a = 2) {As : List Value} {k : Nat} {r : List Value} (hp : popN (mArg a) [] st = some (As, .ref k :: r)) (ho : opCall C cT sT K pc lv h c1 s1 a (.ref k :: As) r) : W p l e R s m args below meth c H locs c1 s1 Q (F0 m pc ls (st.map (rV z sa))) := by
  have X0 := X
  obtain ⟨hx, hb, hml, hown, hts, hKs, hWF, hz, hin, hfr, hlo⟩ := X
  obtain ⟨ha, hr8, rv, h9, cc, ss, hc9, hcc, hss, hc⟩ := ho
  obtain ⟨e1, e2⟩ := popN_ok _ _ _ _ _ hp
  have hst : st = As.reverse ++ .ref k :: r := by simpa using e1.symm
  obtain ⟨m1, m2, m3, m4, m5, m6, m7⟩ := all_mth a ha
  have hisl : a ∈ istL ∧ (mNm a).name = "<init>" ∧ mRet a = none := by
    rcases all_knd a ha with q | q | q
    · omega
    · omega
    · exact q.2
  have hws : wsM a = Cond.code (mNm a) (mByt a) (mMax a) none :: Tw := by unfold wsM wCode; rw [hisl.2.2]
  refine sn_size hC.1 hC.2.1 hC.2.2 hz (fun hsz => ?_)
  rw [hst, List.map_append, List.map_reverse, List.map_cons]
  have fin : ∀ (H1 : Heap) (locs1 : List Loc), Cf z sa cA D s H1 locs1 h9 (c1 + cc) → W p l e R s m args below meth c H1 locs1 (c1 + cc) (s1 + ss) Q (F0 m (pc + 3) ls ((rv.map (rV z sa)).toList ++ r.map (rV z sa))) := by
    intro H1 locs1 hC1
    have kk := hK _ _ _ _ _ _ hc H1 locs1 ls hC1 hl hcc hss
    rw [List.map_append] at kk
    cases rv <;> exact kk
  have hini : (Cond.initialized (mNm a).cls).before args s = true := by rw [m1]; exact hts _ (Tw_in (ini_ok _ (all_ini _ m2)))
  rcases hk with hk | hk
  · obtain ⟨l1, l2⟩ := mth_n hk (by decide)
    rw [l2, bNm_lt ha] at l1
    exact sn_run (va_runI (As := As.map (rV z sa)) (rest := r.map (rV z sa)) (b := z + k) ⟨hx, hb, hml, hown, hts⟩ (hCal a _ h rv h9 cc ss ha hc9) (cwI (mArg a) hts (good_wsM ha) hws rfl rfl hini (hts _ l1) (hts _ (Tw_in (ist_ok a hisl.1))) hisl.2.1 ⟨m3, m4, m6⟩ (sn_hR ha hR)) ⟨pre_blind, sn_pre X0 hC hsz⟩ rfl (by rw [List.length_map, e2]; rfl) hl.1 rfl (lv_room (by rw [rV_sum]; exact hr8)) hd ⟨by omega, by omega⟩) hC fin
  · have hn := hWF.1 _ (mth_3 hk)
    rw [wMth3 rfl, bNm_lt ha] at hn
    exact sn_run (va_runIN (As := As.map (rV z sa)) (rest := r.map (rV z sa)) (b := z + k) ⟨hx, hb, hml, hown, hts⟩ (hCal a _ h rv h9 cc ss ha hc9) ⟨va_cnB (mArg a) hts (good_wsM ha) hws rfl rfl hn hini ⟨m3, m4, m6⟩ (sn_hR ha hR), hisl.2.1, hts _ (Tw_in (ist_ok a hisl.1))⟩ ⟨pre_blind, sn_pre X0 hC hsz⟩ rfl (by rw [List.length_map, e2]; rfl) hl.1 rfl (lv_room (by rw [rV_sum]; exact hr8)) hd ⟨by omega, by omega⟩) hC fin
theorem sn_obj {ix : Nat} (X : Cx z sa sv cA D p s m args meth c i R) (hK : KW z sa cA D p l e R s m args below meth c i Q cT sT K) (hC : Cf z sa cA D s H locs h c1) (hl : lv_has ls (mMax i) (rL z sa lv)) (h1 : c1 ≤ cT) (h2 : s1 ≤ sT) (hd : decode (mByt i) pc = .ok (.invokespecial ix, 3)) (hk : (mOwn i, ix, 2, 1000) ∈ mthL) {k : Nat} {r : List Value} (ee : st = .ref k :: r) (hr8 : (r.map fun v => v.category).sum ≤ 8) (hc : K (pc + 3) lv r h c1 s1) : W p l e R s m args below meth c H locs c1 s1 Q (F0 m pc ls (st.map (rV z sa))) := by
  obtain ⟨hx, hb, hml, hown, hts, hKs, hWF, hz, hin, hfr, hlo⟩ := X
  obtain ⟨l1, l2⟩ := mth_n hk (by decide)
  rw [l2] at l1
  subst ee
  exact W.objInit hx hb hown (hts _ l1) (hts _ (Tw_in ⟨b_obj1, rfl⟩)) (hts _ (Tw_in ⟨b_obj2, rfl⟩)) rfl (by rw [hml]; exact hl.1) rfl hd (by omega) (by show 2 * 0 + ((r.map (rV z sa)).map fun v => v.category).sum + 12 ≤ _; rw [rV_sum]; omega) (hK _ _ _ _ _ _ hc H locs ls hC hl h1 h2)
theorem sn_mmin {ix : Nat} (X : Cx z sa sv cA D p s m args meth c i R) (hK : KW z sa cA D p l e R s m args below meth c i Q cT sT K) (hC : Cf z sa cA D s H locs h c1) (hl : lv_has ls (mMax i) (rL z sa lv)) (h1 : c1 ≤ cT) (h2 : s1 ≤ sT) (hd : decode (mByt i) pc = .ok (.invokestatic ix, 3)) (hk : (mOwn i, ix, 1, 1001) ∈ mthL) (hR2 : cT ≤ R.cells ∧ sT ≤ R.slots) {x y : Int32} {r : List Value} (ee : st = .int y :: .int x :: r) (hr8 : (r.map fun v => v.category).sum ≤ 8) (hc : K (pc + 3) lv (.int (if y < x then y else x) :: r) h c1 s1) : W p l e R s m args below meth c H locs c1 s1 Q (F0 m pc ls (st.map (rV z sa))) := by
  obtain ⟨hx, hb, hml, hown, hts, hKs, hWF, hz, hin, hfr, hlo⟩ := X
  obtain ⟨l1, l2⟩ := mth_n hk (by decide)
  rw [l2] at l1
  subst ee
  exact va_mmin hx hb (by rw [hml]; exact hl.1.symm) hown (hts _ l1) (hts _ (Tw_in ⟨b_min1, rfl⟩)) (hts _ (Tw_in ⟨b_mth, rfl⟩)) (hts _ (Tw_in ⟨b_min2, rfl⟩)) (by omega) (by rw [rV_sum]; omega) (by omega) (by omega) hd (hK _ _ _ _ _ _ hc H locs ls hC hl h1 h2)
theorem sn_mmax {ix : Nat} (X : Cx z sa sv cA D p s m args meth c i R) (hK : KW z sa cA D p l e R s m args below meth c i Q cT sT K) (hC : Cf z sa cA D s H locs h c1) (hl : lv_has ls (mMax i) (rL z sa lv)) (h1 : c1 ≤ cT) (h2 : s1 ≤ sT) (hd : decode (mByt i) pc = .ok (.invokestatic ix, 3)) (hk : (mOwn i, ix, 1, 1002) ∈ mthL) (hR2 : cT ≤ R.cells ∧ sT ≤ R.slots) {x y : Int32} {r : List Value} (ee : st = .int y :: .int x :: r) (hr8 : (r.map fun v => v.category).sum ≤ 8) (hc : K (pc + 3) lv (.int (if x < y then y else x) :: r) h c1 s1) : W p l e R s m args below meth c H locs c1 s1 Q (F0 m pc ls (st.map (rV z sa))) := by
  obtain ⟨hx, hb, hml, hown, hts, hKs, hWF, hz, hin, hfr, hlo⟩ := X
  obtain ⟨l1, l2⟩ := mth_n hk (by decide)
  rw [l2] at l1
  subst ee
  exact va_mmax hx hb (by rw [hml]; exact hl.1.symm) hown (hts _ l1) (hts _ (Tw_in ⟨b_max1, rfl⟩)) (hts _ (Tw_in ⟨b_mth, rfl⟩)) (hts _ (Tw_in ⟨b_max2, rfl⟩)) (by omega) (by rw [rV_sum]; omega) (by omega) (by omega) hd (hK _ _ _ _ _ _ hc H locs ls hC hl h1 h2)
theorem sn_cpy {ix : Nat} (X : Cx z sa sv cA D p s m args meth c i R) (hK : KW z sa cA D p l e R s m args below meth c i Q cT sT K) (hC : Cf z sa cA D s H locs h c1) (hl : lv_has ls (mMax i) (rL z sa lv)) (h1 : c1 ≤ cT) (h2 : s1 ≤ sT) (hd : decode (mByt i) pc = .ok (.invokestatic ix, 3)) (hk : (mOwn i, ix, 1, 1003) ∈ mthL) (ho : opCpy K pc lv st h c1 s1) : W p l e R s m args below meth c H locs c1 s1 Q (F0 m pc ls (st.map (rV z sa))) := by
  obtain ⟨hx, hb, hml, hown, hts, hKs, hWF, hz, hin, hfr, hlo⟩ := X
  obtain ⟨l1, l2⟩ := mth_n hk (by decide)
  rw [l2] at l1
  obtain ⟨n, dp, sp, q, k, r, n0, n1, rfl, hsp, hdp, hn, hr8, hA, hB, ho⟩ := ho
  have hloc : ((r.map (rV z sa)).map fun v => v.category).sum + (nativeFrameWords "java/lang/System" "arraycopy" 5 + 11) ≤ R.locals := by
    rw [rV_sum]
    have : nativeFrameWords "java/lang/System" "arraycopy" 5 = 7 := by decide +kernel
    omega
  rcases ho with ⟨t, f, g, ht, hk0, hk1, hbit, hc⟩ | ⟨f, g, hk0, hk1, hc⟩
  · rcases ht with rfl | rfl
    · exact va_copyi (c0 := cA 0) (c1 := cA 0) (ty := .int) hx hb (by rw [hml]; exact hl.1.symm) hown (hts _ l1) (hts _ (Tw_in ⟨b_cp1, rfl⟩)) (hts _ (Tw_in ⟨b_cp2, rfl⟩)) (hts _ (Tw_in ⟨b_sys, rfl⟩)) hKs hC.1 (wld_D z sa cA h) hC.2.1 k q 0 0 (wld_at hk0) (wld_at hk1) rfl rfl rfl hsp hdp hn hA hB (fun _ _ => rfl) (by omega) hloc hd (fun H1 locs1 hP _ hS => hK _ _ _ _ _ _ hc H1 locs1 ls (sn_wr hC hP hS rfl) hl h1 h2)
    · exact va_copyi (c0 := cA 2) (c1 := cA 2) (ty := .boolean) hx hb (by rw [hml]; exact hl.1.symm) hown (hts _ l1) (hts _ (Tw_in ⟨b_cp1, rfl⟩)) (hts _ (Tw_in ⟨b_cp2, rfl⟩)) (hts _ (Tw_in ⟨b_sys, rfl⟩)) hKs hC.1 (wld_D z sa cA h) hC.2.1 k q 2 2 (wld_at hk0) (wld_at hk1) rfl rfl rfl hsp hdp hn hA hB (fun x hx9 => by rcases hbit rfl (sp.toNatClampNeg + x) (by omega) with e9 | e9 <;> rw [e9] <;> rfl) (by omega) hloc hd (fun H1 locs1 hP _ hS => hK _ _ _ _ _ _ hc H1 locs1 ls (sn_wr hC hP hS rfl) hl h1 h2)
  · exact va_copyl (c0 := cA 3) (c1 := cA 3) (ty := .long) hx hb (by rw [hml]; exact hl.1.symm) hown (hts _ l1) (hts _ (Tw_in ⟨b_cp1, rfl⟩)) (hts _ (Tw_in ⟨b_cp2, rfl⟩)) (hts _ (Tw_in ⟨b_sys, rfl⟩)) hKs hC.1 (wld_D z sa cA h) hC.2.1 k q 3 3 (wld_at hk0) (wld_at hk1) rfl rfl rfl hsp hdp hn hA hB (fun _ _ => rfl) (by omega) hloc hd (fun H1 locs1 hP _ hS => hK _ _ _ _ _ _ hc H1 locs1 ls (sn_wr hC hP hS rfl) hl h1 h2)
end SNC
