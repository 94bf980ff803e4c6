/-! cells: reading, writing, making -/
theorem bM_eq {a b : Nat × Nat × Nat × Nat} (h : bM a b = true) : a = b := by
  obtain ⟨a1, a2, a3, a4⟩ := a
  obtain ⟨b1, b2, b3, b4⟩ := b
  simp only [bM, Bool.and_eq_true] at h
  obtain ⟨⟨⟨h1, h2⟩, h3⟩, h4⟩ := h
  rw [Nat.eq_of_beq_eq_true h1, Nat.eq_of_beq_eq_true h2, Nat.eq_of_beq_eq_true h3, Nat.eq_of_beq_eq_true h4]
theorem bM3_eq {a b : Nat × Nat × Nat} (h : bM3 a b = true) : a = b := by
  obtain ⟨a1, a2, a3⟩ := a
  obtain ⟨b1, b2, b3⟩ := b
  simp only [bM3, Bool.and_eq_true] at h
  obtain ⟨⟨h1, h2⟩, h3⟩ := h
  rw [Nat.eq_of_beq_eq_true h1, Nat.eq_of_beq_eq_true h2, Nat.eq_of_beq_eq_true h3]
theorem any_bM {a : Nat × Nat × Nat × Nat} {L : List (Nat × Nat × Nat × Nat)} (h : L.any (bM a) = true) : a ∈ L := by
  obtain ⟨x, hx, hb⟩ := List.any_eq_true.mp h
  rw [bM_eq hb]
  exact hx
theorem any_bM3 {a : Nat × Nat × Nat} {L : List (Nat × Nat × Nat)} (h : L.any (bM3 a) = true) : a ∈ L := by
  obtain ⟨x, hx, hb⟩ := List.any_eq_true.mp h
  rw [bM3_eq hb]
  exact hx
theorem cls_at : ∀ ci, ci < 10 → vwCl[ci]? = some (oNm ci, tR ci, nfl ci) := by
  intro ci h
  match ci, h with
  | 0, _ => rfl
  | 1, _ => rfl
  | 2, _ => rfl
  | 3, _ => rfl
  | 4, _ => rfl
  | 5, _ => rfl
  | 6, _ => rfl
  | 7, _ => rfl
  | 8, _ => rfl
  | 9, _ => rfl
  | n + 10, h => exact absurd h (by omega)
theorem cls_in {ci : Nat} (hci : ci < 10) : ∀ w ∈ u_ws (oNm ci) (tR ci) (nfl ci), w ∈ Tw := by
  intro w hw
  unfold u_ws at hw
  obtain ⟨k, hk, rfl⟩ := List.mem_map.mp hw
  exact Tw_in (lay_ok (ci, k) (all_lay ci hci k (List.mem_range.mp hk)))
theorem fld_bnd {q : Nat × Nat × Nat × Nat} (h : q ∈ fldL) : q.2.2.1 < 10 ∧ q.2.2.2 < nfl q.2.2.1 := by
  have := List.all_eq_true.mp all_fld q h
  simp only [Bool.and_eq_true, Nat.blt_eq] at this
  exact ⟨this.2, this.1⟩
theorem put_rV {z : Nat} {sa : Nat → Nat} {ty : FieldType} {v : Value} (hn : narrow ty v = v) (hf : fits ty v = true) : narrow ty (rV z sa v) = rV z sa v ∧ fits ty (rV z sa v) = true := by
  cases v with
  | ref k => cases ty <;> simp_all [rV, narrow, fits]
  | retAddr k => cases ty <;> simp_all [rV, narrow, fits]
  | _ => exact ⟨hn, hf⟩
theorem rV_rf (z : Nat) (sa : Nat → Nat) (q : Option Nat) : rV z sa (va_rf q) = va_rf (q.map (fun x => z + x)) := by cases q <;> rfl
theorem rV_dfl (z : Nat) (sa : Nat → Nat) (ty : FieldType) : rV z sa (defaultValue ty) = defaultValue ty := by cases ty <;> rfl
theorem dfl_at (z : Nat) (sa : Nat → Nat) (L : List FieldType) (j : Nat) (h : j < L.length) : defaultValue (L.getD j .int) = ((L.map defaultValue).map (rV z sa)).getD j .null := by
  rw [List.getD_eq_getElem?_getD, List.getD_eq_getElem?_getD, List.getElem?_map, List.getElem?_map, List.getElem?_eq_getElem h]
  simp [rV_dfl]
section SNH
variable {z : Nat} {sa sv : Nat → Nat} {cA : Nat → ClassId} {D : va_G} {p : Program} {l : Launch} {e : Env} {R : Room} {s : State} {m : MethodId} {args : Array Value} {below : List Frame} {meth : Method} {c : Code} {i : Nat} {Q : State → Prop} {H : Heap} {locs : List Loc} {ls : Array Slot} {pc : Nat} {lv : aL} {st : List Value} {h : aH} {c1 s1 cT sT : Nat} {K : aK}
/-- a cell is written: the world behind it -/
theorem sn_wr {k : Nat} {x : aE} {y : va_E} (hC : Cf z sa cA D s H locs h c1) {H1 : Heap} {locs1 : List Loc} (hP : va_P D vwCl ((wld z sa cA z h).set k (z + k, y)) H1) (hS : va_S (fun q => z ≤ q) s.heap H1 locs1) (hy : rE z sa cA x = y) : Cf z sa cA D s H1 locs1 (h.set k x) c1 := by
  refine ⟨?_, hS, by rw [List.length_set]; exact hC.2.2⟩
  rw [wld_set, hy]
  exact hP
theorem sn_get {ix a b : Nat} (X : Cx z sa sv cA D p s m args meth c i R) (hK : KW z sa cA D p l e R s m args below meth c i Q cT sT K) (hC : Cf z sa cA D s H locs h c1) (hl : lv_has ls (mMax i) (rL z sa lv)) (h1 : c1 ≤ cT) (h2 : s1 ≤ sT) (hd : decode (mByt i) pc = .ok (.getfield ix, 3)) (hk : (mOwn i, ix, a, b) ∈ fldL) (ho : opGet K pc lv st h c1 s1 a b) : W p l e R s m args below meth c H locs c1 s1 Q (F0 m pc ls (st.map (rV z sa))) := by
  obtain ⟨hx, hb, hml, hown, hts, hKs, hWF, hz, hin, hfr, hlo⟩ := X
  obtain ⟨k, r, fs, v, rfl, hk0, hv, hc⟩ := ho
  obtain ⟨ha, hbb⟩ := fld_bnd hk
  exact va_get (own := oNm (mOwn i)) (ref := (tR a b).1) (C := oNm a) (T := tR a) (N := nfl a) hx hb hts (cls_in ha) hown hKs hC.1 k (wld_at hk0) (cls_at a ha) b hbb (hts _ (Tw_in (fld_ok _ hk))) (fun _ h9 => h9) (v := rV z sa v) (by rw [List.getElem?_map, hv]; rfl) hd (hK _ _ _ _ _ _ hc H locs ls hC hl h1 h2)
theorem fin_own : ∀ a, a < 10 → ∀ b, b < nfl a → isFin a b = true → (tR a b).1 = oNm a := by decide +kernel
theorem sn_put {ix a b : Nat} (X : Cx z sa sv cA D p s m args meth c i R) (hK : KW z sa cA D p l e R s m args below meth c i Q cT sT K) (hC : Cf z sa cA D s H locs h c1) (hl : lv_has ls (mMax i) (rL z sa lv)) (h1 : c1 ≤ cT) (h2 : s1 ≤ sT) (hd : decode (mByt i) pc = .ok (.putfield ix, 3)) (hk : (mOwn i, ix, a, b) ∈ fldL) (hfin : isFin a b = true → mKd i = 2 ∧ mOwn i = a) (ho : opPut K pc lv st h c1 s1 a b) : W p l e R s m args below meth c H locs c1 s1 Q (F0 m pc ls (st.map (rV z sa))) := by
  obtain ⟨hx, hb, hml, hown, hts, hKs, hWF, hz, hin, hfr, hlo⟩ := X
  obtain ⟨k, r, fs, v, rfl, hk0, hv, ⟨hn, hf⟩, hc⟩ := ho
  obtain ⟨ha, hbb⟩ := fld_bnd hk
  obtain ⟨hn, hf⟩ := put_rV (z := z) (sa := sa) hn hf
  have fin : ∀ (H1 : Heap) (locs1 : List Loc), va_P D vwCl ((wld z sa cA z h).set k (z + k, .inr (a, (fs.map (rV z sa)).set b (rV z sa v)))) H1 → va_D (fun q => z ≤ q) ((wld z sa cA z h).set k (z + k, .inr (a, (fs.map (rV z sa)).set b (rV z sa v)))) → va_S (fun q => z ≤ q) s.heap H1 locs1 → W p l e R s m args below meth c H1 locs1 c1 s1 Q (F0 m (pc + 3) ls (r.map (rV z sa))) := fun H1 locs1 hP hD hS => hK _ _ _ _ _ _ hc H1 locs1 ls (sn_wr hC hP hS (by simp [rE, List.map_set])) hl h1 h2
  by_cases hq : isFin a b = true
  · obtain ⟨e1, e2⟩ := hfin hq
    exact va_putF (own := oNm (mOwn i)) (ref := (tR a b).1) (C := oNm a) (T := tR a) (N := nfl a) hx hb hts (cls_in ha) (fty a) (all_ty a ha) (all_nm a ha) hown hKs hC.1 (wld_D z sa cA h) hC.2.1 k (wld_at hk0) (cls_at a ha) b hbb (hts _ (Tw_in (fld_ok _ hk))) (fun _ h9 => h9) hq (hin e1) (by rw [e2]; exact fin_own a ha b hbb hq) (all_ty a ha b hbb) hn hf (by rw [List.length_map]; exact hv) hd fin
  · exact va_put (own := oNm (mOwn i)) (ref := (tR a b).1) (C := oNm a) (T := tR a) (N := nfl a) hx hb hts (cls_in ha) (fty a) (all_ty a ha) (all_nm a ha) hown hKs hC.1 (wld_D z sa cA h) hC.2.1 k (wld_at hk0) (cls_at a ha) b hbb (hts _ (Tw_in (fld_ok _ hk))) (fun _ h9 => h9) (by simpa [isFin, tR] using hq) (all_ty a ha b hbb) hn hf (by rw [List.length_map]; exact hv) hd fin
theorem sn_iald (X : Cx z sa sv cA D p s m args meth c i R) (hK : KW z sa cA D p l e R s m args below meth c i Q cT sT K) (hC : Cf z sa cA D s H locs h c1) (hl : lv_has ls (mMax i) (rL z sa lv)) (h1 : c1 ≤ cT) (h2 : s1 ≤ sT) (hd : decode (mByt i) pc = .ok (.iaload, 1)) {C : aC} (hC0 : ∀ j x, C 2000 [.int j] h (some (.int x)) h 0 0 → ∃ L xs, va_X (sa 1000) L xs s s.heap ∧ sa 1000 < s.heap.size ∧ sa 1000 < z ∧ vp_in j L ∧ x = xs j.toNatClampNeg) (ho : opIald C K pc lv st h c1 s1) : W p l e R s m args below meth c H locs c1 s1 Q (F0 m pc ls (st.map (rV z sa))) := by
  obtain ⟨hx, hb, hml, hown, hts, hKs, hWF, hz, hin, hfr, hlo⟩ := X
  rcases ho with ⟨j, k, r, n, f, rfl, hk, hj, hc⟩ | ⟨j, r, x, rfl, hc0, hc⟩
  · exact va_iald (cA := cA 0) hx hb hKs hC.1 k 0 (wld_at hk) rfl hj hd (hK _ _ _ _ _ _ hc H locs ls hC hl h1 h2)
  · obtain ⟨L, xs, x1, x2, x3, x4, rfl⟩ := hC0 j x hc0
    exact va_sld hx hb x1 x2 (by show ¬ z ≤ _; omega) hC.2.1 x4 hd (hK _ _ _ _ _ _ hc H locs ls hC hl h1 h2)
theorem sn_bald (X : Cx z sa sv cA D p s m args meth c i R) (hK : KW z sa cA D p l e R s m args below meth c i Q cT sT K) (hC : Cf z sa cA D s H locs h c1) (hl : lv_has ls (mMax i) (rL z sa lv)) (h1 : c1 ≤ cT) (h2 : s1 ≤ sT) (hd : decode (mByt i) pc = .ok (.baload, 1)) (ho : opBald K pc lv st h c1 s1) : W p l e R s m args below meth c H locs c1 s1 Q (F0 m pc ls (st.map (rV z sa))) := by
  obtain ⟨hx, hb, hml, hown, hts, hKs, hWF, hz, hin, hfr, hlo⟩ := X
  obtain ⟨j, k, r, t, n, f, rfl, ht, hk, hj, hc⟩ := ho
  rcases ht with rfl | rfl
  · exact va_bald (cA := cA 1) hx hb hKs hC.1 k 1 (wld_at hk) rfl hj hd (hK _ _ _ _ _ _ hc H locs ls hC hl h1 h2)
  · exact va_zald (cA := cA 2) hx hb hKs hC.1 k 2 (wld_at hk) rfl hj hd (hK _ _ _ _ _ _ hc H locs ls hC hl h1 h2)
theorem sn_lald (X : Cx z sa sv cA D p s m args meth c i R) (hK : KW z sa cA D p l e R s m args below meth c i Q cT sT K) (hC : Cf z sa cA D s H locs h c1) (hl : lv_has ls (mMax i) (rL z sa lv)) (h1 : c1 ≤ cT) (h2 : s1 ≤ sT) (hd : decode (mByt i) pc = .ok (.laload, 1)) (ho : opLald K pc lv st h c1 s1) : W p l e R s m args below meth c H locs c1 s1 Q (F0 m pc ls (st.map (rV z sa))) := by
  obtain ⟨hx, hb, hml, hown, hts, hKs, hWF, hz, hin, hfr, hlo⟩ := X
  obtain ⟨j, k, r, n, f, rfl, hk, hj, hc⟩ := ho
  exact va_lald (cA := cA 3) hx hb hKs hC.1 k 3 (wld_at hk) rfl hj hd (hK _ _ _ _ _ _ hc H locs ls hC hl h1 h2)
theorem sn_aald (X : Cx z sa sv cA D p s m args meth c i R) (hK : KW z sa cA D p l e R s m args below meth c i Q cT sT K) (hC : Cf z sa cA D s H locs h c1) (hl : lv_has ls (mMax i) (rL z sa lv)) (h1 : c1 ≤ cT) (h2 : s1 ≤ sT) (hd : decode (mByt i) pc = .ok (.aaload, 1)) (ho : opAald K pc lv st h c1 s1) : W p l e R s m args below meth c H locs c1 s1 Q (F0 m pc ls (st.map (rV z sa))) := by
  obtain ⟨hx, hb, hml, hown, hts, hKs, hWF, hz, hin, hfr, hlo⟩ := X
  obtain ⟨j, k, r, t, n, f, rfl, ht, hk, hj, hc⟩ := ho
  have kk := hK _ _ _ _ _ _ hc H locs ls hC hl h1 h2
  rw [List.map_cons, rV_rf] at kk
  rcases ht with rfl | rfl
  · exact va_aldq (cA := cA 4) hx hb hKs hC.1 k 4 (wld_at hk) rfl hj hd kk
  · exact va_aldq (cA := cA 5) hx hb hKs hC.1 k 5 (wld_at hk) rfl hj hd kk
theorem sn_iast (X : Cx z sa sv cA D p s m args meth c i R) (hK : KW z sa cA D p l e R s m args below meth c i Q cT sT K) (hC : Cf z sa cA D s H locs h c1) (hl : lv_has ls (mMax i) (rL z sa lv)) (h1 : c1 ≤ cT) (h2 : s1 ≤ sT) (hd : decode (mByt i) pc = .ok (.iastore, 1)) (ho : opIast K pc lv st h c1 s1) : W p l e R s m args below meth c H locs c1 s1 Q (F0 m pc ls (st.map (rV z sa))) := by
  obtain ⟨hx, hb, hml, hown, hts, hKs, hWF, hz, hin, hfr, hlo⟩ := X
  obtain ⟨x, j, k, r, n, f, rfl, hk, hj, hc⟩ := ho
  exact va_iast (cA := cA 0) hx hb hKs hC.1 (wld_D z sa cA h) hC.2.1 k 0 (wld_at hk) rfl hj hd (fun H1 locs1 hP _ hS => hK _ _ _ _ _ _ hc H1 locs1 ls (sn_wr hC hP hS rfl) hl h1 h2)
theorem sn_bast (X : Cx z sa sv cA D p s m args meth c i R) (hK : KW z sa cA D p l e R s m args below meth c i Q cT sT K) (hC : Cf z sa cA D s H locs h c1) (hl : lv_has ls (mMax i) (rL z sa lv)) (h1 : c1 ≤ cT) (h2 : s1 ≤ sT) (hd : decode (mByt i) pc = .ok (.bastore, 1)) (ho : opBast K pc lv st h c1 s1) : W p l e R s m args below meth c H locs c1 s1 Q (F0 m pc ls (st.map (rV z sa))) := by
  obtain ⟨hx, hb, hml, hown, hts, hKs, hWF, hz, hin, hfr, hlo⟩ := X
  obtain ⟨x, j, k, r, n, f, rfl, hj, ho⟩ := ho
  rcases ho with ⟨hk, hc⟩ | ⟨hk, hc⟩
  · exact va_bast (cA := cA 1) hx hb hKs hC.1 (wld_D z sa cA h) hC.2.1 k 1 (wld_at hk) rfl hj hd (fun H1 locs1 hP _ hS => hK _ _ _ _ _ _ hc H1 locs1 ls (sn_wr hC hP hS rfl) hl h1 h2)
  · exact va_zast (cA := cA 2) hx hb hKs hC.1 (wld_D z sa cA h) hC.2.1 k 2 (wld_at hk) rfl hj hd (fun H1 locs1 hP _ hS => hK _ _ _ _ _ _ hc H1 locs1 ls (sn_wr hC hP hS rfl) hl h1 h2)
theorem sn_last (X : Cx z sa sv cA D p s m args meth c i R) (hK : KW z sa cA D p l e R s m args below meth c i Q cT sT K) (hC : Cf z sa cA D s H locs h c1) (hl : lv_has ls (mMax i) (rL z sa lv)) (h1 : c1 ≤ cT) (h2 : s1 ≤ sT) (hd : decode (mByt i) pc = .ok (.lastore, 1)) (ho : opLast K pc lv st h c1 s1) : W p l e R s m args below meth c H locs c1 s1 Q (F0 m pc ls (st.map (rV z sa))) := by
  obtain ⟨hx, hb, hml, hown, hts, hKs, hWF, hz, hin, hfr, hlo⟩ := X
  obtain ⟨x, j, k, r, n, f, rfl, hk, hj, hc⟩ := ho
  exact va_last (cA := cA 3) hx hb hKs hC.1 (wld_D z sa cA h) hC.2.1 k 3 (wld_at hk) rfl hj hd (fun H1 locs1 hP _ hS => hK _ _ _ _ _ _ hc H1 locs1 ls (sn_wr hC hP hS rfl) hl h1 h2)
theorem sn_aast (X : Cx z sa sv cA D p s m args meth c i R) (hK : KW z sa cA D p l e R s m args below meth c i Q cT sT K) (hC : Cf z sa cA D s H locs h c1) (hl : lv_has ls (mMax i) (rL z sa lv)) (h1 : c1 ≤ cT) (h2 : s1 ≤ sT) (hd : decode (mByt i) pc = .ok (.aastore, 1)) (ho : opAast K pc lv st h c1 s1) : W p l e R s m args below meth c H locs c1 s1 Q (F0 m pc ls (st.map (rV z sa))) := by
  obtain ⟨hx, hb, hml, hown, hts, hKs, hWF, hz, hin, hfr, hlo⟩ := X
  obtain ⟨q, j, k, r, t, n, f, vs, rfl, ht, hk, hq, hj, hc⟩ := ho
  have ef : (fun x => ((va_up f j.toNatClampNeg (some q)) x).map (fun y => z + y)) = va_up (fun x => (f x).map (fun y => z + y)) j.toNatClampNeg (some (z + q)) := by
    funext x
    unfold va_up
    split <;> rfl
  have kk : ∀ (t : Nat) (H1 : Heap) (locs1 : List Loc), K (pc + 1) lv r (h.set k (.inl (t, n, .inr (.inr (.inr (.inr (va_up f j.toNatClampNeg (some q)))))))) c1 s1 → va_P D vwCl ((wld z sa cA z h).set k (z + k, .inl (cA t, n, .inr (.inr (.inr (.inr (va_up (fun x => (f x).map (fun y => z + y)) j.toNatClampNeg (some (z + q))))))))) H1 → va_S (fun q => z ≤ q) s.heap H1 locs1 → W p l e R s m args below meth c H1 locs1 c1 s1 Q (F0 m (pc + 1) ls (r.map (rV z sa))) := fun t H1 locs1 hc hP hS => hK _ _ _ _ _ _ hc H1 locs1 ls (sn_wr hC hP hS (by simp only [rE, rA]; rw [ef])) hl h1 h2
  rcases ht with rfl | rfl
  · exact va_astq (cA := cA 4) (r := (oNm 4, tR 4, nfl 4)) hx hb hKs hC.1 (wld_D z sa cA h) hC.2.1 k 4 q 4 (wld_at hk) rfl (wld_at hq) (cls_at 4 (by decide)) hj hd (fun H1 locs1 hP _ hS => kk 4 H1 locs1 hc hP hS)
  · exact va_astq (cA := cA 5) (r := (oNm 5, tR 5, nfl 5)) hx hb hKs hC.1 (wld_D z sa cA h) hC.2.1 k 5 q 5 (wld_at hk) rfl (wld_at hq) (cls_at 5 (by decide)) hj hd (fun H1 locs1 hP _ hS => kk 5 H1 locs1 hc hP hS)
theorem sn_alen (X : Cx z sa sv cA D p s m args meth c i R) (hK : KW z sa cA D p l e R s m args below meth c i Q cT sT K) (hC : Cf z sa cA D s H locs h c1) (hl : lv_has ls (mMax i) (rL z sa lv)) (h1 : c1 ≤ cT) (h2 : s1 ≤ sT) (hd : decode (mByt i) pc = .ok (.arraylength, 1)) {C : aC} (hC0 : ∀ x, C 2001 [] h (some (.int x)) h 0 0 → ∃ L xs, va_X (sa 1000) L xs s s.heap ∧ sa 1000 < s.heap.size ∧ sa 1000 < z ∧ x = Int32.ofNat L) (ho : opAlen C K pc lv st h c1 s1) : W p l e R s m args below meth c H locs c1 s1 Q (F0 m pc ls (st.map (rV z sa))) := by
  obtain ⟨hx, hb, hml, hown, hts, hKs, hWF, hz, hin, hfr, hlo⟩ := X
  rcases ho with ⟨k, r, t, x, rfl, ht, hk, hc⟩ | ⟨r, x, rfl, hc0, hc⟩
  · have hty : ∃ ty, (tyA cA)[t]? = some (cA t, ty) := by
      match t, ht with
      | 0, _ => exact ⟨_, rfl⟩
      | 1, _ => exact ⟨_, rfl⟩
      | 2, _ => exact ⟨_, rfl⟩
      | 3, _ => exact ⟨_, rfl⟩
      | 4, _ => exact ⟨_, rfl⟩
      | 5, _ => exact ⟨_, rfl⟩
      | n + 6, h => exact absurd h (by omega)
    obtain ⟨ty, hty⟩ := hty
    exact va_alen (cA := cA t) (x := rA z x) hx hb hKs hC.1 k t (wld_at hk) hty rfl hd (hK _ _ _ _ _ _ hc H locs ls hC hl h1 h2)
  · obtain ⟨L, xs, x1, x2, x3, rfl⟩ := hC0 x hc0
    exact va_slen hx hb x1 x2 (by show ¬ z ≤ _; omega) hC.2.1 hd (hK _ _ _ _ _ _ hc H locs ls hC hl h1 h2)
theorem wld_len (z : Nat) (sa : Nat → Nat) (cA : Nat → ClassId) : ∀ (h : aH) (a : Nat), (wld z sa cA a h).length = h.length
  | [], a => rfl
  | x :: r, a => by simp [wld, wld_len z sa cA r (a + 1)]
/-- a cell is made: its address is the next -/
theorem sn_mk {x : aE} {y : va_E} {q : Nat} {H1 : Heap} {locs1 : List Loc} {g : JFrame} {c2 s2 : Nat} (hC : Cf z sa cA D s H locs h c1) (hP : va_P D vwCl (wld z sa cA z h ++ [(q, y)]) H1) (hD : va_D (fun q => z ≤ q) (wld z sa cA z h ++ [(q, y)])) (hS : va_S (fun q => z ≤ q) s.heap H1 locs1) (hy : rE z sa cA x = y) (hc : c2 = c1 + 1) (k : q = z + h.length → Cf z sa cA D s H1 locs1 (h ++ [x]) c2 → W p l e R s m args below meth c H1 locs1 c2 s2 Q g) : W p l e R s m args below meth c H1 locs1 c2 s2 Q g := by
  intro T hT X
  have hw : (wld z sa cA z h).length = h.length := wld_len z sa cA h z
  have a0 : (wld z sa cA z h ++ [(q, y)])[h.length]? = some (q, y) := by rw [← hw, List.getElem?_concat_length]
  have a1 := (hP _ _ a0).lt
  have a2 : z ≤ q := hD.2 _ _ a0
  have a3 := X.heapSize
  rw [hT] at a3
  have a4 := hC.2.2
  have a5 : q < H1.size := a1
  have eq : q = z + h.length := by
    by_cases hlt : q < z + h.length
    · exfalso
      have hk : q - z < h.length := by omega
      have b0 : (wld z sa cA z h ++ [(q, y)])[q - z]? = some (z + (q - z), rE z sa cA h[q - z]) := by
        rw [List.getElem?_append_left (by rw [hw]; exact hk)]
        exact wld_at (List.getElem?_eq_getElem hk)
      have b1 := hD.1 _ _ _ _ b0 a0 (by show z + (q - z) = q; omega)
      omega
    · omega
  refine k eq ⟨?_, hS, by rw [List.length_append, hc]; simp; omega⟩ T hT X
  rw [wld_app, hy, ← eq]
  exact hP
theorem sn_new {ix a : Nat} (X : Cx z sa sv cA D p s m args meth c i R) (hK : KW z sa cA D p l e R s m args below meth c i Q cT sT K) (hC : Cf z sa cA D s H locs h c1) (hl : lv_has ls (mMax i) (rL z sa lv)) (h1 : c1 ≤ cT) (h2 : s1 ≤ sT) (hd : decode (mByt i) pc = .ok (.new ix, 3)) (hk : (mOwn i, ix, a) ∈ newL) (hR : cT ≤ R.cells ∧ sT ≤ R.slots) (ho : opNew cT sT K pc lv st h c1 s1 a) : W p l e R s m args below meth c H locs c1 s1 Q (F0 m pc ls (st.map (rV z sa))) := by
  obtain ⟨hx, hb, hml, hown, hts, hKs, hWF, hz, hin, hfr, hlo⟩ := X
  obtain ⟨ha, hc1, hs1, hc⟩ := ho
  refine va_new (own := oNm (mOwn i)) (C := oNm a) (T := tR a) (N := nfl a) (fs := (dfl a).map (rV z sa)) hx hb hts (cls_in ha) (fty a) (all_ty a ha) hown (hts _ (Tw_in (new_ok _ hk))) (hts _ (Tw_in (itb_ok a (all_itb a ha)))) (hts _ (Tw_in (ini_ok a (all_ini a (by omega))))) hKs hC.1 (wld_D z sa cA h) hC.2.1 (fun q hq => Nat.le_trans hz hq) (cls_at a ha) ?_ (by omega) (by omega) hd (fun q H1 hP hD hS => ?_)
  · intro j hj
    have hj' : j < (fTys.getD a []).length := hj
    exact dfl_at z sa (fTys.getD a []) j hj'
  · refine sn_mk (x := .inr (a, dfl a)) hC hP hD hS rfl rfl (fun eq hC1 => ?_)
    subst eq
    exact hK _ _ _ _ _ _ hc H1 locs ls hC1 hl hc1 hs1
theorem arr_uni {ty : FieldType} {t : Nat} {c9 : ClassId} (hK : va_K D vwCl (tyA cA) s) (ht : (tyA cA)[t]? = some (cA t, ty)) (h9 : va_RA s c9 ty) : c9 = cA t := by
  have h8 := (hK.2 t _ ht).2
  cases ty with
  | object C =>
    obtain ⟨_, _, _, _, _, q4⟩ := h9
    obtain ⟨_, _, _, _, _, p4⟩ := h8
    exact Option.some.inj (q4.symm.trans p4)
  | _ => exact Option.some.inj (Eq.trans (Eq.symm h9) h8)
theorem sn_newa {ty : ArrayType} (X : Cx z sa sv cA D p s m args meth c i R) (hK : KW z sa cA D p l e R s m args below meth c i Q cT sT K) (hC : Cf z sa cA D s H locs h c1) (hl : lv_has ls (mMax i) (rL z sa lv)) (h1 : c1 ≤ cT) (h2 : s1 ≤ sT) (hd : decode (mByt i) pc = .ok (.newarray ty, 2)) (hR : cT ≤ R.cells ∧ sT ≤ R.slots) (ho : opNewa cT sT K pc lv st h c1 s1 ty) : W p l e R s m args below meth c H locs c1 s1 Q (F0 m pc ls (st.map (rV z sa))) := by
  obtain ⟨hx, hb, hml, hown, hts, hKs, hWF, hz, hin, hfr, hlo⟩ := X
  obtain ⟨n, r, rfl, hn, ht, hN, hc1, hs1, hc⟩ := ho
  have hty : (tyA cA)[arT ty]? = some (cA (arT ty), newarray.typeOf ty) ∧ (∀ c9 : ClassId, vp_cell c9 (arZ ty n.toNatClampNeg) = arrV c9 n.toNatClampNeg (fun _ => defaultValue (newarray.typeOf ty))) ∧ n.toNatClampNeg * componentBytes (newarray.typeOf ty) ≤ 536870912 ∧ (Cond.arrayClass (newarray.typeOf ty)).before args s = true ∧ rA z (arZ ty n.toNatClampNeg) = arZ ty n.toNatClampNeg := by
    cases ty <;> simp only [arT] at ht <;> first | (exact absurd ht (by decide)) | skip
    · exact ⟨rfl, fun _ => rfl, by simp only [newarray.typeOf, componentBytes]; omega, hts _ (Tw_in ⟨arr_boolean, rfl⟩), rfl⟩
    · exact ⟨rfl, fun _ => rfl, by simp only [newarray.typeOf, componentBytes]; omega, hts _ (Tw_in ⟨arr_byte, rfl⟩), rfl⟩
    · exact ⟨rfl, fun _ => rfl, by simp only [newarray.typeOf, componentBytes]; omega, hts _ (Tw_in ⟨arr_int, rfl⟩), rfl⟩
    · exact ⟨rfl, fun _ => rfl, by simp only [newarray.typeOf, componentBytes]; omega, hts _ (Tw_in ⟨arr_long, rfl⟩), rfl⟩
  obtain ⟨t1, t2, t3, t4, t5⟩ := hty
  refine va_newa hx hb t4 rfl hKs hC.1 (wld_D z sa cA h) hC.2.1 (fun q hq => Nat.le_trans hz hq) t2 hn rfl t3 (by omega) (by omega) hd (fun q c9 H1 hK9 hP hD hS => ?_)
  have e9 : c9 = cA (arT ty) := arr_uni hKs t1 (hK9.2 (tyA cA).length _ (by rw [List.getElem?_concat_length])).2
  subst e9
  refine sn_mk (x := .inl (arT ty, arZ ty n.toNatClampNeg)) hC hP hD hS (by simp only [rE, t5]) rfl (fun eq hC1 => ?_)
  subst eq
  exact hK _ _ _ _ _ _ hc H1 locs ls hC1 hl hc1 hs1
theorem sn_anew {ix a : Nat} (X : Cx z sa sv cA D p s m args meth c i R) (hK : KW z sa cA D p l e R s m args below meth c i Q cT sT K) (hC : Cf z sa cA D s H locs h c1) (hl : lv_has ls (mMax i) (rL z sa lv)) (h1 : c1 ≤ cT) (h2 : s1 ≤ sT) (hd : decode (mByt i) pc = .ok (.anewarray ix, 3)) (hk : (mOwn i, ix, a) ∈ anwL) (hR : cT ≤ R.cells ∧ sT ≤ R.slots) (ho : opAnew cT sT K pc lv st h c1 s1 a) : W p l e R s m args below meth c H locs c1 s1 Q (F0 m pc ls (st.map (rV z sa))) := by
  obtain ⟨hx, hb, hml, hown, hts, hKs, hWF, hz, hin, hfr, hlo⟩ := X
  obtain ⟨n, r, rfl, hn, ht, hN, hc1, hs1, hc⟩ := ho
  obtain ⟨ty, hty, hao⟩ : ∃ C : String, (tyA cA)[a]? = some (cA a, .object C) ∧ (va_AO C s ∧ C = oNm a) := by
    rcases ht with rfl | rfl
    · exact ⟨_, rfl, hWF.2.1, rfl⟩
    · exact ⟨_, rfl, hWF.2.2.1, rfl⟩
  have hlk := hts _ (Tw_in (anw_ok _ hk))
  unfold wAnw at hlk
  rw [← hao.2] at hlk
  refine va_newq hx hb hown hlk hao.1 hKs hC.1 (wld_D z sa cA h) hC.2.1 (fun q hq => Nat.le_trans hz hq) hn rfl (by omega) (by omega) (by omega) hd (fun q c9 H1 hK9 hP hD hS => ?_)
  have e9 : c9 = cA a := arr_uni hKs hty (hK9.2 (tyA cA).length _ (by rw [List.getElem?_concat_length])).2
  subst e9
  refine sn_mk (x := .inl (a, n.toNatClampNeg, .inr (.inr (.inr (.inr (fun _ => none)))))) hC hP hD hS rfl rfl (fun eq hC1 => ?_)
  subst eq
  exact hK _ _ _ _ _ _ hc H1 locs ls hC1 hl hc1 hs1
theorem sn_ldc {ix b : Nat} (X : Cx z sa sv cA D p s m args meth c i R) (hK : KW z sa cA D p l e R s m args below meth c i Q cT sT K) (hC : Cf z sa cA D s H locs h c1) (hl : lv_has ls (mMax i) (rL z sa lv)) (h1 : c1 ≤ cT) (h2 : s1 ≤ sT) (hd : decode (mByt i) pc = .ok (.ldc ix, 2)) (hk : (mOwn i, ix, b) ∈ ldiL) (hc : K (pc + 2) lv (.int (cstI.getD b 0) :: st) h c1 s1) : W p l e R s m args below meth c H locs c1 s1 Q (F0 m pc ls (st.map (rV z sa))) := by
  obtain ⟨hx, hb, hml, hown, hts, hKs, hWF, hz, hin, hfr, hlo⟩ := X
  exact lv_ldc hx hb hown (hts _ (Tw_in (ldi_ok _ hk))) hd (hK _ _ _ _ _ _ hc H locs ls hC hl h1 h2)
theorem sn_ldcw {ix b : Nat} (X : Cx z sa sv cA D p s m args meth c i R) (hK : KW z sa cA D p l e R s m args below meth c i Q cT sT K) (hC : Cf z sa cA D s H locs h c1) (hl : lv_has ls (mMax i) (rL z sa lv)) (h1 : c1 ≤ cT) (h2 : s1 ≤ sT) (hd : decode (mByt i) pc = .ok (.ldc_w ix, 3)) (hk : (mOwn i, ix, b) ∈ ldiL) (hc : K (pc + 3) lv (.int (cstI.getD b 0) :: st) h c1 s1) : W p l e R s m args below meth c H locs c1 s1 Q (F0 m pc ls (st.map (rV z sa))) := by
  obtain ⟨hx, hb, hml, hown, hts, hKs, hWF, hz, hin, hfr, hlo⟩ := X
  exact lv_ldcw hx hb hown (hts _ (Tw_in (ldi_ok _ hk))) hd (hK _ _ _ _ _ _ hc H locs ls hC hl h1 h2)
theorem sn_ldc2 {ix a : Nat} (X : Cx z sa sv cA D p s m args meth c i R) (hK : KW z sa cA D p l e R s m args below meth c i Q cT sT K) (hC : Cf z sa cA D s H locs h c1) (hl : lv_has ls (mMax i) (rL z sa lv)) (h1 : c1 ≤ cT) (h2 : s1 ≤ sT) (hd : decode (mByt i) pc = .ok (.ldc2_w ix, 3)) (hk : (mOwn i, ix, a) ∈ ldlL) (hc : K (pc + 3) lv (.long (cstL.getD a 0) :: st) h c1 s1) : W p l e R s m args below meth c H locs c1 s1 Q (F0 m pc ls (st.map (rV z sa))) := by
  obtain ⟨hx, hb, hml, hown, hts, hKs, hWF, hz, hin, hfr, hlo⟩ := X
  exact lv_ldc2 hx hb hown (hts _ (Tw_in (ldl_ok _ hk))) hd (hK _ _ _ _ _ _ hc H locs ls hC hl h1 h2)
theorem sn_ldcs {ix b : Nat} (X : Cx z sa sv cA D p s m args meth c i R) (hK : KW z sa cA D p l e R s m args below meth c i Q cT sT K) (hC : Cf z sa cA D s H locs h c1) (hl : lv_has ls (mMax i) (rL z sa lv)) (h1 : c1 ≤ cT) (h2 : s1 ≤ sT) (hd : decode (mByt i) pc = .ok (.ldc ix, 2)) (hk : (mOwn i, ix, b) ∈ ldsL) (hc : K (pc + 2) lv (.retAddr b :: st) h c1 s1) : W p l e R s m args below meth c H locs c1 s1 Q (F0 m pc ls (st.map (rV z sa))) := by
  obtain ⟨hx, hb, hml, hown, hts, hKs, hWF, hz, hin, hfr, hlo⟩ := X
  obtain ⟨-, -, -, w4, -, -, -⟩ := hWF
  have h9 : vk_R (oNm (mOwn i)) ix (litT.getD b "") (sa b) s := w4 (mOwn i, ix, b) hk
  exact va_ldcS (q := sa b) hx hb hown h9 hd (hK _ _ _ _ _ _ hc H locs ls hC hl h1 h2)
end SNH
