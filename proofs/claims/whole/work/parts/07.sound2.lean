/-! each instruction of the small machine, over the kit's rows -/
def KW (z : Nat) (sa : Nat → Nat) (cA : Nat → ClassId) (D : va_G) (p : Program) (l : Launch) (e : Env) (R : Room) (s : State) (m : MethodId) (args : Array Value) (below : List Frame) (meth : Method) (c : Code) (i : Nat) (Q : State → Prop) (cT sT : Nat) (K : aK) : Prop :=
  ∀ (pc : Nat) (lv : aL) (st : List Value) (h : aH) (c1 s1 : Nat), K pc lv st h c1 s1 → ∀ (H : Heap) (locs : List Loc) (ls : Array Slot), Cf z sa cA D s H locs h c1 → lv_has ls (mMax i) (rL z sa lv) → c1 ≤ cT → s1 ≤ sT → W p l e R s m args below meth c H locs c1 s1 Q (F0 m pc ls (st.map (rV z sa)))
section SND
variable {z : Nat} {sa sv : Nat → Nat} {cA : Nat → ClassId} {D : va_G} {p : Program} {l : Launch} {e : Env} {R : Room} {s : State} {m : MethodId} {args : Array Value} {below : List Frame} {meth : Method} {c : Code} {i : Nat} {Q : State → Prop} {H : Heap} {locs : List Loc} {ls : Array Slot} {pc : Nat} {lv : aL} {st : List Value} {h : aH} {c1 s1 cT sT : Nat} {K : aK}
theorem sn_size (hP : va_P D vwCl (wld z sa cA z h) H) (hS : va_S (fun q => z ≤ q) s.heap H locs) (ht : z + h.length = s.heap.size + c1) (hz : z ≤ s.heap.size) {g : JFrame} (k : H.size = z + h.length → W p l e R s m args below meth c H locs c1 s1 Q g) : W p l e R s m args below meth c H locs c1 s1 Q g := by
  intro T hT X
  refine k ?_ T hT X
  have h1 := X.heapSize
  rw [hT] at h1
  have h2 := hS.1
  cases hn : h.length with
  | zero => omega
  | succ n =>
    have hx : n < h.length := by omega
    have h3 := (hP n _ (wld_at (a := z) (List.getElem?_eq_getElem hx))).lt
    have h4 : z + n < H.size := h3
    omega
theorem sn_loc (hl : lv_has ls (mMax i) (rL z sa lv)) {k : Nat} {v : Value} (hv : lvG lv k = some v) : ls[k]? = some (.val (rV z sa v)) := hl.2.2 (k, rV z sa v) (List.mem_map.mpr ⟨(k, v), lvG_mem hv, rfl⟩)
theorem sn_st1 {ls' : Array Slot} {nL k : Nat} {v : Value} (hl : lv_has ls' nL ((k, rV z sa v) :: (rL z sa lv).filter (fun q => !(q.1 == k) && !(q.1 + 1 == k && q.2.category == 2)))) (hv : ¬ kd v = 1) : lv_has ls' nL (rL z sa (lvP lv k v)) := by
  refine ⟨hl.1, hl.2.1, fun q hq => ?_⟩
  have e : lvP lv k v = lvI (lvF1 lv k) k v := by unfold lvP; split <;> simp_all
  rw [e] at hq
  obtain ⟨q0, h0, rfl⟩ := List.mem_map.mp hq
  rcases lvI_mem h0 with h1 | h1
  · subst h1
    exact hl.2.2 _ List.mem_cons_self
  · obtain ⟨a1, a2, a3⟩ := lvF1_mem h1
    refine hl.2.2 _ (List.mem_cons_of_mem _ (List.mem_filter.mpr ⟨List.mem_map.mpr ⟨q0, a1, rfl⟩, ?_⟩))
    simp only [Bool.and_eq_true, Bool.not_eq_true', beq_eq_false_iff_ne, ne_eq, Bool.and_eq_false_iff, rV_cat]
    refine ⟨a2, ?_⟩
    by_cases h5 : q0.1 + 1 = k
    · exact Or.inr (fun h6 => a3 ⟨h5, (ct2_cat _).mpr h6⟩)
    · exact Or.inl h5
theorem sn_st2 {ls' : Array Slot} {nL k : Nat} {v : Value} (hl : lv_has ls' nL ((k, rV z sa v) :: (rL z sa lv).filter (fun q => !(q.1 == k) && (!(q.1 == k + 1) && !(q.1 + 1 == k && q.2.category == 2))))) (hv : kd v = 1) : lv_has ls' nL (rL z sa (lvP lv k v)) := by
  refine ⟨hl.1, hl.2.1, fun q hq => ?_⟩
  have e : lvP lv k v = lvI (lvF2 lv k) k v := by unfold lvP; rw [hv]; rfl
  rw [e] at hq
  obtain ⟨q0, h0, rfl⟩ := List.mem_map.mp hq
  rcases lvI_mem h0 with h1 | h1
  · subst h1
    exact hl.2.2 _ List.mem_cons_self
  · obtain ⟨a1, a2, a3, a4⟩ := lvF2_mem h1
    refine hl.2.2 _ (List.mem_cons_of_mem _ (List.mem_filter.mpr ⟨List.mem_map.mpr ⟨q0, a1, rfl⟩, ?_⟩))
    simp only [Bool.and_eq_true, Bool.not_eq_true', beq_eq_false_iff_ne, ne_eq, Bool.and_eq_false_iff, rV_cat]
    refine ⟨a2, a3, ?_⟩
    by_cases h5 : q0.1 + 1 = k
    · exact Or.inr (fun h6 => a4 ⟨h5, (ct2_cat _).mpr h6⟩)
    · exact Or.inl h5

theorem sn_iload_n {k : Fin 4} (X : Cx z sa sv cA D p s m args meth c i R) (hK : KW z sa cA D p l e R s m args below meth c i Q cT sT K) (hC : Cf z sa cA D s H locs h c1) (hl : lv_has ls (mMax i) (rL z sa lv)) (h1 : c1 ≤ cT) (h2 : s1 ≤ sT) (hd : decode (mByt i) pc = .ok (.iload_n k, 1)) (ho : opLd K (pc + 1) lv st h c1 s1 k.val 0) : W p l e R s m args below meth c H locs c1 s1 Q (F0 m pc ls (st.map (rV z sa))) := by
  obtain ⟨v, hv, hk, hc⟩ := ho
  have hm := sn_loc hl hv
  have kk := hK _ _ _ _ _ _ hc H locs ls hC hl h1 h2
  cases v <;> simp only [kd] at hk <;> try (exact absurd hk (by decide))
  exact lv_iload_n X.1 X.2.1 hd rfl hm kk
theorem sn_lload_n {k : Fin 4} (X : Cx z sa sv cA D p s m args meth c i R) (hK : KW z sa cA D p l e R s m args below meth c i Q cT sT K) (hC : Cf z sa cA D s H locs h c1) (hl : lv_has ls (mMax i) (rL z sa lv)) (h1 : c1 ≤ cT) (h2 : s1 ≤ sT) (hd : decode (mByt i) pc = .ok (.lload_n k, 1)) (ho : opLd K (pc + 1) lv st h c1 s1 k.val 1) : W p l e R s m args below meth c H locs c1 s1 Q (F0 m pc ls (st.map (rV z sa))) := by
  obtain ⟨v, hv, hk, hc⟩ := ho
  have hm := sn_loc hl hv
  have kk := hK _ _ _ _ _ _ hc H locs ls hC hl h1 h2
  cases v <;> simp only [kd] at hk <;> try (exact absurd hk (by decide))
  exact lv_lload_n X.1 X.2.1 hd rfl hm kk
theorem sn_aload_n {k : Fin 4} (X : Cx z sa sv cA D p s m args meth c i R) (hK : KW z sa cA D p l e R s m args below meth c i Q cT sT K) (hC : Cf z sa cA D s H locs h c1) (hl : lv_has ls (mMax i) (rL z sa lv)) (h1 : c1 ≤ cT) (h2 : s1 ≤ sT) (hd : decode (mByt i) pc = .ok (.aload_n k, 1)) (ho : opLd K (pc + 1) lv st h c1 s1 k.val 2) : W p l e R s m args below meth c H locs c1 s1 Q (F0 m pc ls (st.map (rV z sa))) := by
  obtain ⟨v, hv, hk, hc⟩ := ho
  have hm := sn_loc hl hv
  have kk := hK _ _ _ _ _ _ hc H locs ls hC hl h1 h2
  cases v <;> simp only [kd] at hk <;> try (exact absurd hk (by decide))
  · exact lv_aload_nN X.1 X.2.1 hd rfl hm kk
  · exact lv_aload_n X.1 X.2.1 hd rfl hm kk
  · exact lv_aload_n X.1 X.2.1 hd rfl hm kk
theorem sn_iload {k : Nat} (X : Cx z sa sv cA D p s m args meth c i R) (hK : KW z sa cA D p l e R s m args below meth c i Q cT sT K) (hC : Cf z sa cA D s H locs h c1) (hl : lv_has ls (mMax i) (rL z sa lv)) (h1 : c1 ≤ cT) (h2 : s1 ≤ sT) (hd : decode (mByt i) pc = .ok (.iload k, 2)) (ho : opLd K (pc + 2) lv st h c1 s1 k 0) : W p l e R s m args below meth c H locs c1 s1 Q (F0 m pc ls (st.map (rV z sa))) := by
  obtain ⟨v, hv, hk, hc⟩ := ho
  have hm := sn_loc hl hv
  have kk := hK _ _ _ _ _ _ hc H locs ls hC hl h1 h2
  cases v <;> simp only [kd] at hk <;> try (exact absurd hk (by decide))
  exact lv_iload X.1 X.2.1 hd hm kk
theorem sn_lload {k : Nat} (X : Cx z sa sv cA D p s m args meth c i R) (hK : KW z sa cA D p l e R s m args below meth c i Q cT sT K) (hC : Cf z sa cA D s H locs h c1) (hl : lv_has ls (mMax i) (rL z sa lv)) (h1 : c1 ≤ cT) (h2 : s1 ≤ sT) (hd : decode (mByt i) pc = .ok (.lload k, 2)) (ho : opLd K (pc + 2) lv st h c1 s1 k 1) : W p l e R s m args below meth c H locs c1 s1 Q (F0 m pc ls (st.map (rV z sa))) := by
  obtain ⟨v, hv, hk, hc⟩ := ho
  have hm := sn_loc hl hv
  have kk := hK _ _ _ _ _ _ hc H locs ls hC hl h1 h2
  cases v <;> simp only [kd] at hk <;> try (exact absurd hk (by decide))
  exact lv_lload X.1 X.2.1 hd hm kk
theorem sn_aload {k : Nat} (X : Cx z sa sv cA D p s m args meth c i R) (hK : KW z sa cA D p l e R s m args below meth c i Q cT sT K) (hC : Cf z sa cA D s H locs h c1) (hl : lv_has ls (mMax i) (rL z sa lv)) (h1 : c1 ≤ cT) (h2 : s1 ≤ sT) (hd : decode (mByt i) pc = .ok (.aload k, 2)) (ho : opLd K (pc + 2) lv st h c1 s1 k 2) : W p l e R s m args below meth c H locs c1 s1 Q (F0 m pc ls (st.map (rV z sa))) := by
  obtain ⟨v, hv, hk, hc⟩ := ho
  have hm := sn_loc hl hv
  have kk := hK _ _ _ _ _ _ hc H locs ls hC hl h1 h2
  cases v <;> simp only [kd] at hk <;> try (exact absurd hk (by decide))
  · exact lv_aloadN X.1 X.2.1 hd hm kk
  · exact lv_aload X.1 X.2.1 hd hm kk
  · exact lv_aload X.1 X.2.1 hd hm kk
theorem sn_istore_n {k : Fin 4} (X : Cx z sa sv cA D p s m args meth c i R) (hK : KW z sa cA D p l e R s m args below meth c i Q cT sT K) (hC : Cf z sa cA D s H locs h c1) (hl : lv_has ls (mMax i) (rL z sa lv)) (h1 : c1 ≤ cT) (h2 : s1 ≤ sT) (hd : decode (mByt i) pc = .ok (.istore_n k, 1)) (ho : opSt i K (pc + 1) lv st h c1 s1 k.val 0) : W p l e R s m args below meth c H locs c1 s1 Q (F0 m pc ls (st.map (rV z sa))) := by
  obtain ⟨v, r0, rfl, hk, hn, hc⟩ := ho
  cases v <;> simp only [kd] at hk <;> try (exact absurd hk (by decide))
  exact lv_istore_n X.1 X.2.1 hd rfl hl (by simpa using hn) rfl (fun ls9 hl9 => hK _ _ _ _ _ _ hc H locs ls9 hC (sn_st1 (v := .int _) (z := z) (sa := sa) (lv := lv) hl9 (by simp [kd])) h1 h2)
theorem sn_lstore_n {k : Fin 4} (X : Cx z sa sv cA D p s m args meth c i R) (hK : KW z sa cA D p l e R s m args below meth c i Q cT sT K) (hC : Cf z sa cA D s H locs h c1) (hl : lv_has ls (mMax i) (rL z sa lv)) (h1 : c1 ≤ cT) (h2 : s1 ≤ sT) (hd : decode (mByt i) pc = .ok (.lstore_n k, 1)) (ho : opSt i K (pc + 1) lv st h c1 s1 k.val 1) : W p l e R s m args below meth c H locs c1 s1 Q (F0 m pc ls (st.map (rV z sa))) := by
  obtain ⟨v, r0, rfl, hk, hn, hc⟩ := ho
  cases v <;> simp only [kd] at hk <;> try (exact absurd hk (by decide))
  exact lv_lstore_n X.1 X.2.1 hd rfl hl (by simpa using hn) rfl (fun ls9 hl9 => hK _ _ _ _ _ _ hc H locs ls9 hC (sn_st2 (v := .long _) (z := z) (sa := sa) (lv := lv) hl9 rfl) h1 h2)
theorem sn_astore_n {k : Fin 4} (X : Cx z sa sv cA D p s m args meth c i R) (hK : KW z sa cA D p l e R s m args below meth c i Q cT sT K) (hC : Cf z sa cA D s H locs h c1) (hl : lv_has ls (mMax i) (rL z sa lv)) (h1 : c1 ≤ cT) (h2 : s1 ≤ sT) (hd : decode (mByt i) pc = .ok (.astore_n k, 1)) (ho : opSt i K (pc + 1) lv st h c1 s1 k.val 2) : W p l e R s m args below meth c H locs c1 s1 Q (F0 m pc ls (st.map (rV z sa))) := by
  obtain ⟨v, r0, rfl, hk, hn, hc⟩ := ho
  cases v <;> simp only [kd] at hk <;> try (exact absurd hk (by decide))
  · exact lv_astore_nN X.1 X.2.1 hd rfl hl (by simpa using hn) rfl (fun ls9 hl9 => hK _ _ _ _ _ _ hc H locs ls9 hC (sn_st1 (v := .null) (z := z) (sa := sa) (lv := lv) hl9 (by simp [kd])) h1 h2)
  · exact lv_astore_n X.1 X.2.1 hd rfl hl (by simpa using hn) rfl (fun ls9 hl9 => hK _ _ _ _ _ _ hc H locs ls9 hC (sn_st1 (v := .ref _) (z := z) (sa := sa) (lv := lv) hl9 (by simp [kd])) h1 h2)
  · exact lv_astore_n X.1 X.2.1 hd rfl hl (by simpa using hn) rfl (fun ls9 hl9 => hK _ _ _ _ _ _ hc H locs ls9 hC (sn_st1 (v := .retAddr _) (z := z) (sa := sa) (lv := lv) hl9 (by simp [kd])) h1 h2)
theorem sn_istore {k : Nat} (X : Cx z sa sv cA D p s m args meth c i R) (hK : KW z sa cA D p l e R s m args below meth c i Q cT sT K) (hC : Cf z sa cA D s H locs h c1) (hl : lv_has ls (mMax i) (rL z sa lv)) (h1 : c1 ≤ cT) (h2 : s1 ≤ sT) (hd : decode (mByt i) pc = .ok (.istore k, 2)) (ho : opSt i K (pc + 2) lv st h c1 s1 k 0) : W p l e R s m args below meth c H locs c1 s1 Q (F0 m pc ls (st.map (rV z sa))) := by
  obtain ⟨v, r0, rfl, hk, hn, hc⟩ := ho
  cases v <;> simp only [kd] at hk <;> try (exact absurd hk (by decide))
  exact lv_istore X.1 X.2.1 hd hl (by simpa using hn) rfl (fun ls9 hl9 => hK _ _ _ _ _ _ hc H locs ls9 hC (sn_st1 (v := .int _) (z := z) (sa := sa) (lv := lv) hl9 (by simp [kd])) h1 h2)
theorem sn_lstore {k : Nat} (X : Cx z sa sv cA D p s m args meth c i R) (hK : KW z sa cA D p l e R s m args below meth c i Q cT sT K) (hC : Cf z sa cA D s H locs h c1) (hl : lv_has ls (mMax i) (rL z sa lv)) (h1 : c1 ≤ cT) (h2 : s1 ≤ sT) (hd : decode (mByt i) pc = .ok (.lstore k, 2)) (ho : opSt i K (pc + 2) lv st h c1 s1 k 1) : W p l e R s m args below meth c H locs c1 s1 Q (F0 m pc ls (st.map (rV z sa))) := by
  obtain ⟨v, r0, rfl, hk, hn, hc⟩ := ho
  cases v <;> simp only [kd] at hk <;> try (exact absurd hk (by decide))
  exact lv_lstore X.1 X.2.1 hd hl (by simpa using hn) rfl (fun ls9 hl9 => hK _ _ _ _ _ _ hc H locs ls9 hC (sn_st2 (v := .long _) (z := z) (sa := sa) (lv := lv) hl9 rfl) h1 h2)
theorem sn_astore {k : Nat} (X : Cx z sa sv cA D p s m args meth c i R) (hK : KW z sa cA D p l e R s m args below meth c i Q cT sT K) (hC : Cf z sa cA D s H locs h c1) (hl : lv_has ls (mMax i) (rL z sa lv)) (h1 : c1 ≤ cT) (h2 : s1 ≤ sT) (hd : decode (mByt i) pc = .ok (.astore k, 2)) (ho : opSt i K (pc + 2) lv st h c1 s1 k 2) : W p l e R s m args below meth c H locs c1 s1 Q (F0 m pc ls (st.map (rV z sa))) := by
  obtain ⟨v, r0, rfl, hk, hn, hc⟩ := ho
  cases v <;> simp only [kd] at hk <;> try (exact absurd hk (by decide))
  · exact lv_astoreN X.1 X.2.1 hd hl (by simpa using hn) rfl (fun ls9 hl9 => hK _ _ _ _ _ _ hc H locs ls9 hC (sn_st1 (v := .null) (z := z) (sa := sa) (lv := lv) hl9 (by simp [kd])) h1 h2)
  · exact lv_astore X.1 X.2.1 hd hl (by simpa using hn) rfl (fun ls9 hl9 => hK _ _ _ _ _ _ hc H locs ls9 hC (sn_st1 (v := .ref _) (z := z) (sa := sa) (lv := lv) hl9 (by simp [kd])) h1 h2)
  · exact lv_astore X.1 X.2.1 hd hl (by simpa using hn) rfl (fun ls9 hl9 => hK _ _ _ _ _ _ hc H locs ls9 hC (sn_st1 (v := .retAddr _) (z := z) (sa := sa) (lv := lv) hl9 (by simp [kd])) h1 h2)
theorem sn_iinc {k : Nat} {n : Int} (X : Cx z sa sv cA D p s m args meth c i R) (hK : KW z sa cA D p l e R s m args below meth c i Q cT sT K) (hC : Cf z sa cA D s H locs h c1) (hl : lv_has ls (mMax i) (rL z sa lv)) (h1 : c1 ≤ cT) (h2 : s1 ≤ sT) (hd : decode (mByt i) pc = .ok (.iinc k n, 3)) {x : Int32} (hv : lvG lv k = some (.int x)) (hn : k < mMax i) (hc : K (pc + 3) (lvP lv k (.int (x + Int32.ofInt n))) st h c1 s1) : W p l e R s m args below meth c H locs c1 s1 Q (F0 m pc ls (st.map (rV z sa))) := by
  obtain ⟨j, hj⟩ := List.getElem?_of_mem (List.mem_map.mpr ⟨(k, Value.int x), lvG_mem hv, rfl⟩ : (k, Value.int x) ∈ rL z sa lv)
  exact lv_iinc (v := x + Int32.ofInt n) X.1 X.2.1 hd hl (k := j) hj rfl hn rfl (fun ls9 hl9 => hK _ _ _ _ _ _ hc H locs ls9 hC (sn_st1 (v := .int (x + Int32.ofInt n)) (z := z) (sa := sa) (lv := lv) hl9 (by simp [kd])) h1 h2)
theorem jmp_eq {pc : Nat} {off : Int} (h : 0 ≤ (pc : Int) + off) : (pc : Int) + off = (jmp pc off : Int) := (Int.toNat_of_nonneg h).symm
theorem sn_goto {off : Int} (X : Cx z sa sv cA D p s m args meth c i R) (hK : KW z sa cA D p l e R s m args below meth c i Q cT sT K) (hC : Cf z sa cA D s H locs h c1) (hl : lv_has ls (mMax i) (rL z sa lv)) (h1 : c1 ≤ cT) (h2 : s1 ≤ sT) (hd : decode (mByt i) pc = .ok (.goto off, 3)) (hj : 0 ≤ (pc : Int) + off) (hc : K (jmp pc off) lv st h c1 s1) : W p l e R s m args below meth c H locs c1 s1 Q (F0 m pc ls (st.map (rV z sa))) := by
  exact lv_goto (tgt := jmp pc off) X.1 X.2.1 hd (jmp_eq hj) (hK _ _ _ _ _ _ hc H locs ls hC hl h1 h2)
theorem sn_if {cd : ClassFile.Cond} {off : Int} (X : Cx z sa sv cA D p s m args meth c i R) (hK : KW z sa cA D p l e R s m args below meth c i Q cT sT K) (hC : Cf z sa cA D s H locs h c1) (hl : lv_has ls (mMax i) (rL z sa lv)) (h1 : c1 ≤ cT) (h2 : s1 ≤ sT) (hd : decode (mByt i) pc = .ok (.ifCond cd off, 3)) (hj : 0 ≤ (pc : Int) + off) {x : Int32} {r0 : List Value} (ee : st = .int x :: r0) (ht : jT cd x 0 → K (jmp pc off) lv r0 h c1 s1) (hf : jF cd x 0 → K (pc + 3) lv r0 h c1 s1) : W p l e R s m args below meth c H locs c1 s1 Q (F0 m pc ls (st.map (rV z sa))) := by
  subst ee
  cases cd
  · exact lv_if_eq (tgt := jmp pc off) X.1 X.2.1 hd (jmp_eq hj) (fun q => hK _ _ _ _ _ _ (ht q) H locs ls hC hl h1 h2) (fun q => hK _ _ _ _ _ _ (hf ((fun q => q) q)) H locs ls hC hl h1 h2)
  · exact lv_if_ne (tgt := jmp pc off) X.1 X.2.1 hd (jmp_eq hj) (fun q => hK _ _ _ _ _ _ (ht q) H locs ls hC hl h1 h2) (fun q => hK _ _ _ _ _ _ (hf ((fun q => q) q)) H locs ls hC hl h1 h2)
  · exact lv_if_lt (tgt := jmp pc off) X.1 X.2.1 hd (jmp_eq hj) (fun q => hK _ _ _ _ _ _ (ht q) H locs ls hC hl h1 h2) (fun q => hK _ _ _ _ _ _ (hf ((Int32.not_lt.mp) q)) H locs ls hC hl h1 h2)
  · exact lv_if_ge (tgt := jmp pc off) X.1 X.2.1 hd (jmp_eq hj) (fun q => hK _ _ _ _ _ _ (ht q) H locs ls hC hl h1 h2) (fun q => hK _ _ _ _ _ _ (hf ((Int32.not_le.mp) q)) H locs ls hC hl h1 h2)
  · exact lv_if_gt (tgt := jmp pc off) X.1 X.2.1 hd (jmp_eq hj) (fun q => hK _ _ _ _ _ _ (ht q) H locs ls hC hl h1 h2) (fun q => hK _ _ _ _ _ _ (hf ((Int32.not_lt.mp) q)) H locs ls hC hl h1 h2)
  · exact lv_if_le (tgt := jmp pc off) X.1 X.2.1 hd (jmp_eq hj) (fun q => hK _ _ _ _ _ _ (ht q) H locs ls hC hl h1 h2) (fun q => hK _ _ _ _ _ _ (hf ((Int32.not_le.mp) q)) H locs ls hC hl h1 h2)
theorem sn_icmp {cd : ClassFile.Cond} {off : Int} (X : Cx z sa sv cA D p s m args meth c i R) (hK : KW z sa cA D p l e R s m args below meth c i Q cT sT K) (hC : Cf z sa cA D s H locs h c1) (hl : lv_has ls (mMax i) (rL z sa lv)) (h1 : c1 ≤ cT) (h2 : s1 ≤ sT) (hd : decode (mByt i) pc = .ok (.if_icmp cd off, 3)) (hj : 0 ≤ (pc : Int) + off) {x y : Int32} {r0 : List Value} (ee : st = .int y :: .int x :: r0) (ht : jT cd x y → K (jmp pc off) lv r0 h c1 s1) (hf : jF cd x y → K (pc + 3) lv r0 h c1 s1) : W p l e R s m args below meth c H locs c1 s1 Q (F0 m pc ls (st.map (rV z sa))) := by
  subst ee
  cases cd
  · exact lv_icmp_eq (tgt := jmp pc off) X.1 X.2.1 hd (jmp_eq hj) (fun q => hK _ _ _ _ _ _ (ht q) H locs ls hC hl h1 h2) (fun q => hK _ _ _ _ _ _ (hf ((fun q => q) q)) H locs ls hC hl h1 h2)
  · exact lv_icmp_ne (tgt := jmp pc off) X.1 X.2.1 hd (jmp_eq hj) (fun q => hK _ _ _ _ _ _ (ht q) H locs ls hC hl h1 h2) (fun q => hK _ _ _ _ _ _ (hf ((fun q => q) q)) H locs ls hC hl h1 h2)
  · exact lv_icmp_lt (tgt := jmp pc off) X.1 X.2.1 hd (jmp_eq hj) (fun q => hK _ _ _ _ _ _ (ht q) H locs ls hC hl h1 h2) (fun q => hK _ _ _ _ _ _ (hf ((Int32.not_lt.mp) q)) H locs ls hC hl h1 h2)
  · exact lv_icmp_ge (tgt := jmp pc off) X.1 X.2.1 hd (jmp_eq hj) (fun q => hK _ _ _ _ _ _ (ht q) H locs ls hC hl h1 h2) (fun q => hK _ _ _ _ _ _ (hf ((Int32.not_le.mp) q)) H locs ls hC hl h1 h2)
  · exact lv_icmp_gt (tgt := jmp pc off) X.1 X.2.1 hd (jmp_eq hj) (fun q => hK _ _ _ _ _ _ (ht q) H locs ls hC hl h1 h2) (fun q => hK _ _ _ _ _ _ (hf ((Int32.not_lt.mp) q)) H locs ls hC hl h1 h2)
  · exact lv_icmp_le (tgt := jmp pc off) X.1 X.2.1 hd (jmp_eq hj) (fun q => hK _ _ _ _ _ _ (ht q) H locs ls hC hl h1 h2) (fun q => hK _ _ _ _ _ _ (hf ((Int32.not_le.mp) q)) H locs ls hC hl h1 h2)
theorem sn_nonnull {off : Int} (X : Cx z sa sv cA D p s m args meth c i R) (hK : KW z sa cA D p l e R s m args below meth c i Q cT sT K) (hC : Cf z sa cA D s H locs h c1) (hl : lv_has ls (mMax i) (rL z sa lv)) (h1 : c1 ≤ cT) (h2 : s1 ≤ sT) (hd : decode (mByt i) pc = .ok (.ifnonnull off, 3)) (hj : 0 ≤ (pc : Int) + off) (ho : (∃ k r0, st = .ref k :: r0 ∧ K (jmp pc off) lv r0 h c1 s1) ∨ (∃ r0, st = .null :: r0 ∧ K (pc + 3) lv r0 h c1 s1)) : W p l e R s m args below meth c H locs c1 s1 Q (F0 m pc ls (st.map (rV z sa))) := by
  rcases ho with ⟨k, r0, rfl, hc⟩ | ⟨r0, rfl, hc⟩
  · exact lv_ifnonnull (tgt := jmp pc off) X.1 X.2.1 hd (jmp_eq hj) (hK _ _ _ _ _ _ hc H locs ls hC hl h1 h2)
  · exact lv_ifnonnullN X.1 X.2.1 hd (hK _ _ _ _ _ _ hc H locs ls hC hl h1 h2)
theorem sn_tsw {df lo hi : Int} {offs : Array Int} (X : Cx z sa sv cA D p s m args meth c i R) (hK : KW z sa cA D p l e R s m args below meth c i Q cT sT K) (hC : Cf z sa cA D s H locs h c1) (hl : lv_has ls (mMax i) (rL z sa lv)) (h1 : c1 ≤ cT) (h2 : s1 ≤ sT) {len : Nat} (hd : decode (mByt i) pc = .ok (.tableswitch df lo hi offs, len)) {x : Int32} {r0 : List Value} {off : Int} (ee : st = .int x :: r0) (hs : swOff df lo hi offs x = some off) (hj : 0 ≤ (pc : Int) + off) (hc : K (jmp pc off) lv r0 h c1 s1) : W p l e R s m args below meth c H locs c1 s1 Q (F0 m pc ls (st.map (rV z sa))) := by
  subst ee
  unfold swOff at hs
  by_cases hq : x.toInt < lo ∨ hi < x.toInt
  · rw [if_pos hq] at hs
    cases hs
    exact lv_tableOut (tgt := jmp pc _) X.1 X.2.1 hd hq (jmp_eq hj) (hK _ _ _ _ _ _ hc H locs ls hC hl h1 h2)
  · rw [if_neg hq] at hs
    exact lv_tableIn (tgt := jmp pc off) X.1 X.2.1 hd (fun q => hq (Or.inl q)) (fun q => hq (Or.inr q)) hs (jmp_eq hj) (hK _ _ _ _ _ _ hc H locs ls hC hl h1 h2)
theorem sn_lsw {df : Int} {ps : Array (Int × Int)} (X : Cx z sa sv cA D p s m args meth c i R) (hK : KW z sa cA D p l e R s m args below meth c i Q cT sT K) (hC : Cf z sa cA D s H locs h c1) (hl : lv_has ls (mMax i) (rL z sa lv)) (h1 : c1 ≤ cT) (h2 : s1 ≤ sT) {len : Nat} (hd : decode (mByt i) pc = .ok (.lookupswitch df ps, len)) {x : Int32} {r0 : List Value} {off : Int} (ee : st = .int x :: r0) (hp : (ps.toList.zip (ps.toList.drop 1)).all (fun (a, next) => a.1 < next.1) = true) (hs : Op.lookupswitch.offset ps.toList df x.toInt = off) (hj : 0 ≤ (pc : Int) + off) (hc : K (jmp pc off) lv r0 h c1 s1) : W p l e R s m args below meth c H locs c1 s1 Q (F0 m pc ls (st.map (rV z sa))) := by
  subst ee
  exact lv_lookup (tgt := jmp pc off) X.1 X.2.1 hd hp hs (jmp_eq hj) (hK _ _ _ _ _ _ hc H locs ls hC hl h1 h2)
theorem sn_idiv (X : Cx z sa sv cA D p s m args meth c i R) (hK : KW z sa cA D p l e R s m args below meth c i Q cT sT K) (hC : Cf z sa cA D s H locs h c1) (hl : lv_has ls (mMax i) (rL z sa lv)) (h1 : c1 ≤ cT) (h2 : s1 ≤ sT) (hd : decode (mByt i) pc = .ok (.idiv, 1)) {x y : Int32} {r0 : List Value} (ee : st = .int y :: .int x :: r0) (hy : ¬ y = 0) (hc : K (pc + 1) lv (.int (x / y) :: r0) h c1 s1) : W p l e R s m args below meth c H locs c1 s1 Q (F0 m pc ls (st.map (rV z sa))) := by
  subst ee
  exact lv_idiv X.1 X.2.1 hd hy (hK _ _ _ _ _ _ hc H locs ls hC hl h1 h2)
theorem sn_irem (X : Cx z sa sv cA D p s m args meth c i R) (hK : KW z sa cA D p l e R s m args below meth c i Q cT sT K) (hC : Cf z sa cA D s H locs h c1) (hl : lv_has ls (mMax i) (rL z sa lv)) (h1 : c1 ≤ cT) (h2 : s1 ≤ sT) (hd : decode (mByt i) pc = .ok (.irem, 1)) {x y : Int32} {r0 : List Value} (ee : st = .int y :: .int x :: r0) (hy : ¬ y = 0) (hc : K (pc + 1) lv (.int (x - x / y * y) :: r0) h c1 s1) : W p l e R s m args below meth c H locs c1 s1 Q (F0 m pc ls (st.map (rV z sa))) := by
  subst ee
  exact lv_irem X.1 X.2.1 hd hy (hK _ _ _ _ _ _ hc H locs ls hC hl h1 h2)
theorem sn_ldiv (X : Cx z sa sv cA D p s m args meth c i R) (hK : KW z sa cA D p l e R s m args below meth c i Q cT sT K) (hC : Cf z sa cA D s H locs h c1) (hl : lv_has ls (mMax i) (rL z sa lv)) (h1 : c1 ≤ cT) (h2 : s1 ≤ sT) (hd : decode (mByt i) pc = .ok (.ldiv, 1)) {x y : Int64} {r0 : List Value} (ee : st = .long y :: .long x :: r0) (hy : ¬ y = 0) (hc : K (pc + 1) lv (.long (x / y) :: r0) h c1 s1) : W p l e R s m args below meth c H locs c1 s1 Q (F0 m pc ls (st.map (rV z sa))) := by
  subst ee
  exact lv_ldiv X.1 X.2.1 hd hy (hK _ _ _ _ _ _ hc H locs ls hC hl h1 h2)
theorem sn_lrem (X : Cx z sa sv cA D p s m args meth c i R) (hK : KW z sa cA D p l e R s m args below meth c i Q cT sT K) (hC : Cf z sa cA D s H locs h c1) (hl : lv_has ls (mMax i) (rL z sa lv)) (h1 : c1 ≤ cT) (h2 : s1 ≤ sT) (hd : decode (mByt i) pc = .ok (.lrem, 1)) {x y : Int64} {r0 : List Value} (ee : st = .long y :: .long x :: r0) (hy : ¬ y = 0) (hc : K (pc + 1) lv (.long (x - x / y * y) :: r0) h c1 s1) : W p l e R s m args below meth c H locs c1 s1 Q (F0 m pc ls (st.map (rV z sa))) := by
  subst ee
  exact lv_lrem X.1 X.2.1 hd hy (hK _ _ _ _ _ _ hc H locs ls hC hl h1 h2)
set_option maxHeartbeats 4000000 in
theorem sn_pure {op : Instr} (X : Cx z sa sv cA D p s m args meth c i R) (hK : KW z sa cA D p l e R s m args below meth c i Q cT sT K) (hC : Cf z sa cA D s H locs h c1) (hl : lv_has ls (mMax i) (rL z sa lv)) (h1 : c1 ≤ cT) (h2 : s1 ≤ sT) (hd : decode (mByt i) pc = .ok (op, lenOf op)) {st9 : List Value} (hp : pureOp op st = some st9) (hc : K (pc + lenOf op) lv st9 h c1 s1) : W p l e R s m args below meth c H locs c1 s1 Q (F0 m pc ls (st.map (rV z sa))) := by
  have kk := hK _ _ _ _ _ _ hc H locs ls hC hl h1 h2
  cases op <;> simp only [pureOp, reduceCtorEq] at hp
  case bipush => simp only [Option.some.injEq] at hp; subst hp; exact lv_bipush X.1 X.2.1 hd rfl kk
  case dup =>
    split at hp
    · cases hp; exact lv_dup X.1 X.2.1 hd rfl kk
    · cases hp; exact lv_dup X.1 X.2.1 hd rfl kk
    · cases hp
  case dup2 =>
    split at hp
    · cases hp; exact lv_dup2_11 X.1 X.2.1 hd rfl rfl kk
    · cases hp; exact lv_dup2_2 X.1 X.2.1 hd rfl kk
    · cases hp
  case i2b =>
    split at hp
    · cases hp; exact lv_i2b X.1 X.2.1 hd rfl kk
    · cases hp
  case i2l =>
    split at hp
    · cases hp; exact lv_i2l X.1 X.2.1 hd rfl kk
    · cases hp
  case i2s =>
    split at hp
    · cases hp; exact lv_i2s X.1 X.2.1 hd rfl kk
    · cases hp
  case iadd =>
    split at hp
    · cases hp; exact lv_iadd X.1 X.2.1 hd kk
    · cases hp
  case iand =>
    split at hp
    · cases hp; exact lv_iand X.1 X.2.1 hd kk
    · cases hp
  case iconst => simp only [Option.some.injEq] at hp; subst hp; exact lv_iconst X.1 X.2.1 hd rfl kk
  case imul =>
    split at hp
    · cases hp; exact lv_imul X.1 X.2.1 hd kk
    · cases hp
  case ior =>
    split at hp
    · cases hp; exact lv_ior X.1 X.2.1 hd kk
    · cases hp
  case ishl =>
    split at hp
    · cases hp; exact lv_ishl X.1 X.2.1 hd kk
    · cases hp
  case ishr =>
    split at hp
    · cases hp; exact lv_ishr X.1 X.2.1 hd kk
    · cases hp
  case isub =>
    split at hp
    · cases hp; exact lv_isub X.1 X.2.1 hd kk
    · cases hp
  case iushr =>
    split at hp
    · cases hp; exact lv_iushr X.1 X.2.1 hd rfl kk
    · cases hp
  case ixor =>
    split at hp
    · cases hp; exact lv_ixor X.1 X.2.1 hd kk
    · cases hp
  case l2i =>
    split at hp
    · cases hp; exact lv_l2i X.1 X.2.1 hd rfl kk
    · cases hp
  case ladd =>
    split at hp
    · cases hp; exact lv_ladd X.1 X.2.1 hd kk
    · cases hp
  case land =>
    split at hp
    · cases hp; exact lv_land X.1 X.2.1 hd kk
    · cases hp
  case lcmp =>
    split at hp
    · cases hp; exact W.lcmp X.1 X.2.1 hd kk
    · cases hp
  case lconst => simp only [Option.some.injEq] at hp; subst hp; exact lv_lconst X.1 X.2.1 hd rfl kk
  case lmul =>
    split at hp
    · cases hp; exact lv_lmul X.1 X.2.1 hd kk
    · cases hp
  case lor =>
    split at hp
    · cases hp; exact lv_lor X.1 X.2.1 hd kk
    · cases hp
  case lshl =>
    split at hp
    · cases hp; exact lv_lshl X.1 X.2.1 hd rfl kk
    · cases hp
  case lshr =>
    split at hp
    · cases hp; exact lv_lshr X.1 X.2.1 hd rfl kk
    · cases hp
  case lsub =>
    split at hp
    · cases hp; exact lv_lsub X.1 X.2.1 hd kk
    · cases hp
  case pop =>
    split at hp
    · cases hp; exact lv_pop X.1 X.2.1 hd rfl kk
    · cases hp
  case sipush => simp only [Option.some.injEq] at hp; subst hp; exact lv_sipush X.1 X.2.1 hd rfl kk
end SND
