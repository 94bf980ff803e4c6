/-! THE SMALL MACHINE IS THE JAVA MACHINE'S: what it runs to its end, the Java machine runs so -/
def Tw : List Cond := lw_tbl.filter goodWord
theorem Tw_in {w : Cond} (h : w ∈ lw_tbl ∧ goodWord w = true) : w ∈ Tw := List.mem_filter.mpr h
def wsM (j : Nat) : List Cond := wCode j :: Tw
theorem good_Tw : GoodIn Tw Tw := fun w h => ⟨h, good_of_word (List.mem_filter.mp h).2⟩
theorem code_Tw {j : Nat} (hj : j < 244) : wCode j ∈ Tw := Tw_in (cod_ok j (all_cod j hj))
theorem good_wsM {j : Nat} (hj : j < 244) : GoodIn Tw (wsM j) := by
  intro w hw
  rcases List.mem_cons.mp hw with h | h
  · subst h
    exact good_Tw _ (code_Tw hj)
  · exact good_Tw w h
def rV (z : Nat) (sa : Nat → Nat) : Value → Value
  | .ref k => .ref (z + k)
  | .retAddr k => .ref (sa k)
  | v => v
def rA (z : Nat) (x : vp_A) : vp_A := (x.1, match x.2 with
  | .inl f => .inl f
  | .inr (.inl f) => .inr (.inl f)
  | .inr (.inr (.inl f)) => .inr (.inr (.inl f))
  | .inr (.inr (.inr (.inl f))) => .inr (.inr (.inr (.inl f)))
  | .inr (.inr (.inr (.inr f))) => .inr (.inr (.inr (.inr (fun j => (f j).map (fun q => z + q))))))
def rE (z : Nat) (sa : Nat → Nat) (cA : Nat → ClassId) : aE → va_E
  | .inl (t, x) => .inl (cA t, rA z x)
  | .inr (ci, fs) => .inr (ci, fs.map (rV z sa))
def wld (z : Nat) (sa : Nat → Nat) (cA : Nat → ClassId) : Nat → aH → va_W
  | _, [] => []
  | a, x :: r => (a, rE z sa cA x) :: wld z sa cA (a + 1) r
def rL (z : Nat) (sa : Nat → Nat) (lv : aL) : aL := lv.map (fun q => (q.1, rV z sa q.2))
theorem wld_get (z : Nat) (sa : Nat → Nat) (cA : Nat → ClassId) : ∀ (h : aH) (a k : Nat), (wld z sa cA a h)[k]? = (h[k]?).map (fun x => (a + k, rE z sa cA x))
  | [], a, k => by simp [wld]
  | x :: r, a, 0 => by simp [wld]
  | x :: r, a, k + 1 => by
    simp only [wld, List.getElem?_cons_succ, wld_get z sa cA r (a + 1) k]
    rw [Nat.add_assoc, Nat.add_comm 1 k]
theorem wld_at {z : Nat} {sa : Nat → Nat} {cA : Nat → ClassId} {h : aH} {a k : Nat} {x : aE} (hk : h[k]? = some x) : (wld z sa cA a h)[k]? = some (a + k, rE z sa cA x) := by rw [wld_get, hk]; rfl
theorem wld_set (z : Nat) (sa : Nat → Nat) (cA : Nat → ClassId) (x : aE) : ∀ (h : aH) (a k : Nat), wld z sa cA a (h.set k x) = (wld z sa cA a h).set k (a + k, rE z sa cA x)
  | [], a, k => by simp [wld]
  | y :: r, a, 0 => by simp [wld]
  | y :: r, a, k + 1 => by
    simp only [wld, List.set_cons_succ, wld_set z sa cA x r (a + 1) k]
    rw [Nat.add_assoc, Nat.add_comm 1 k]
theorem wld_app (z : Nat) (sa : Nat → Nat) (cA : Nat → ClassId) (x : aE) : ∀ (h : aH) (a : Nat), wld z sa cA a (h ++ [x]) = wld z sa cA a h ++ [(a + h.length, rE z sa cA x)]
  | [], a => by simp [wld]
  | y :: r, a => by
    simp only [wld, List.cons_append, List.length_cons, wld_app z sa cA x r (a + 1)]
    rw [Nat.add_assoc, Nat.add_comm 1 r.length]
theorem wld_D (z : Nat) (sa : Nat → Nat) (cA : Nat → ClassId) (h : aH) : va_D (fun q => z ≤ q) (wld z sa cA z h) := by
  refine ⟨fun i j p q hi hj e => ?_, fun k q hk => ?_⟩
  · rw [wld_get] at hi hj
    obtain ⟨x, -, rfl⟩ := Option.map_eq_some_iff.mp hi
    obtain ⟨y, -, rfl⟩ := Option.map_eq_some_iff.mp hj
    simp only at e
    omega
  · rw [wld_get] at hk
    obtain ⟨x, -, rfl⟩ := Option.map_eq_some_iff.mp hk
    show z ≤ z + k
    omega
def tyA (cA : Nat → ClassId) : List (ClassId × FieldType) := [(cA 0, .int), (cA 1, .byte), (cA 2, .boolean), (cA 3, .long), (cA 4, .object "SaysBath$Scene"), (cA 5, .object "SaysBath$Slot")]
def litT : List String := ["village", "size", "road", "river", "item", "of", "standard", "says", "law", "to", "if", "near", "mass", "year", "times", "plus", "minus", "more", "less", "same"]
def litN : List Nat := litS.map List.length
/-- what the start gives of constants: links between nest mates, arrays of objects, the texts -/
def WF (z : Nat) (sa sv : Nat → Nat) (U : State) (H : Heap) : Prop := (∀ q ∈ nstL, va_Nw (wMth q) U) ∧ va_AO "SaysBath$Scene" U ∧ va_AO "SaysBath$Slot" U ∧ (∀ q ∈ ldsL, vk_R (oNm q.1) q.2.1 (litT.getD q.2.2 "") (sa q.2.2) U) ∧ (∀ q, q < 20 → vk_S 1 [litN.getD q 0] [litS.getD q []] (fun _ => sa q) (fun _ => sv q) (fun q => z ≤ q) U H) ∧ va_Z "java/lang/String" "COMPACT_STRINGS" "Z" (.int 1) (fun q => z ≤ q) U H ∧ va_Zq "jdk/internal/util/Preconditions" "SIOOBE_FORMATTER" "Ljava/util/function/BiFunction;" (fun q => z ≤ q) U H
theorem nst_form : ∀ q ∈ nstL, q.2.2.1 = 3 := by decide +kernel
theorem wMth3 {q : Nat × Nat × Nat × Nat} (h : q.2.2.1 = 3) : wMth q = .methodLinkNest (oNm q.1) q.2.1 (bNm q.2.2.2) "SaysBath" := by unfold wMth; rw [h]; rfl
theorem WF.warm {z : Nat} {sa sv : Nat → Nat} {s U : State} {H : Heap} (hW : s.WarmedH U.vm) (h : WF z sa sv s H) : WF z sa sv U H := by
  obtain ⟨h1, h2, h3, h4, h5, h6, h7⟩ := h
  refine ⟨fun q hq => ?_, h2.moved hW.alike, h3.moved hW.alike, fun q hq => (h4 q hq).warm hW, fun q hq => (h5 q hq).moved hW.alike, h6.moved hW.alike, h7.moved hW.alike⟩
  have := h1 q hq
  rw [wMth3 (nst_form q hq)] at this ⊢
  exact va_Nw.warmM hW this
theorem WF.kept {z : Nat} {sa sv : Nat → Nat} {U : State} {H H1 : Heap} (h : WF z sa sv U H) (hq : ∀ a : Nat, a < H.size → ¬ z ≤ a → H1[a]? = H[a]?) : WF z sa sv U H1 := ⟨h.1, h.2.1, h.2.2.1, h.2.2.2.1, fun q h9 => (h.2.2.2.2.1 q h9).kept hq, h.2.2.2.2.2.1.kept hq, h.2.2.2.2.2.2.kept hq⟩
theorem WF.same {z : Nat} {sa sv : Nat → Nat} {u U : State} {H : Heap} (hv : U.vm = u.vm) (h : WF z sa sv u H) : WF z sa sv U H := by
  obtain ⟨h1, h2, h3, h4, h5, h6, h7⟩ := h
  have ha : u.vm.Alike U.vm := by rw [hv]; exact Vm.Alike.refl _
  refine ⟨fun q hq => ?_, h2.moved ha, h3.moved ha, fun q hq => (h4 q hq).same hv, fun q hq => (h5 q hq).moved ha, h6.moved ha, h7.moved ha⟩
  have := h1 q hq
  rw [wMth3 (nst_form q hq)] at this ⊢
  exact va_Nw.same rfl hv.symm this
def Rep (z : Nat) (sa : Nat → Nat) (cA : Nat → ClassId) (D : va_G) (H : Heap) (h : aH) : Prop := H.size = z + h.length ∧ va_P D vwCl (wld z sa cA z h) H
def PreM (z : Nat) (sa sv : Nat → Nat) (cA : Nat → ClassId) (D : va_G) (As : List Value) (h : aH) : Array Value → State → Prop := va_Pc (As.map (rV z sa)) (fun U => Rep z sa cA D U.heap h ∧ va_K D vwCl (tyA cA) U ∧ WF z sa sv U U.heap)
def PostM (z : Nat) (sa : Nat → Nat) (cA : Nat → ClassId) (D : va_G) (h0 : aH) (r : Option Value) (h : aH) (cc : Nat) : Array Value → State → Outcome → State → Prop := fun _ st oc t => oc = .returned (r.map (rV z sa)) ∧ Rep z sa cA D t.heap h ∧ h.length = h0.length + cc ∧ va_F (fun q => z ≤ q) st t
def rmM (d cc ss : Nat) : Room := { frames := d + 4, cells := cc, slots := ss, locals := 100 * d + 400 }
def Cx (z : Nat) (sa sv : Nat → Nat) (cA : Nat → ClassId) (D : va_G) (p : Program) (s : State) (m : MethodId) (args : Array Value) (meth : Method) (c : Code) (i : Nat) (R : Room) : Prop := p.tables.exec = Jvm.exec ∧ c.code = mByt i ∧ c.maxLocals = mMax i ∧ s.vm.findClass (oNm (mOwn i)) = some m.cls ∧ (∀ w ∈ Tw, w.before args s = true) ∧ va_K D vwCl (tyA cA) s ∧ WF z sa sv s s.heap ∧ z ≤ s.heap.size ∧ (mKd i = 2 → meth.name = "<init>") ∧ 4 ≤ R.frames ∧ 200 ≤ R.locals
def Cf (z : Nat) (sa : Nat → Nat) (cA : Nat → ClassId) (D : va_G) (s : State) (H : Heap) (locs : List Loc) (h : aH) (c1 : Nat) : Prop := va_P D vwCl (wld z sa cA z h) H ∧ va_S (fun q => z ≤ q) s.heap H locs ∧ z + h.length = s.heap.size + c1
theorem rV_cat (z : Nat) (sa : Nat → Nat) (v : Value) : (rV z sa v).category = v.category := by cases v <;> rfl
theorem rV_sum (z : Nat) (sa : Nat → Nat) (st : List Value) : ((st.map (rV z sa)).map fun v => v.category).sum = (st.map fun v => v.category).sum := by
  rw [List.map_map]
  congr 1
  exact List.map_congr_left (fun v _ => rV_cat z sa v)
theorem lvG_mem : ∀ {lv : aL} {k : Nat} {v : Value}, lvG lv k = some v → (k, v) ∈ lv
  | [], _, _, h => by simp [lvG] at h
  | (p, w) :: r, k, v, h => by
    unfold lvG at h
    split at h
    · rename_i hb
      cases h
      rw [Nat.eq_of_beq_eq_true hb]
      exact List.mem_cons_self
    · exact List.mem_cons_of_mem _ (lvG_mem h)
theorem lvI_mem : ∀ {lv : aL} {i : Nat} {v : Value} {q : Nat × Value}, q ∈ lvI lv i v → q = (i, v) ∨ q ∈ lv
  | [], i, v, q, h => by simp [lvI] at h; exact Or.inl h
  | (p, w) :: r, i, v, q, h => by
    unfold lvI at h
    split at h
    · rcases List.mem_cons.mp h with h | h
      · exact Or.inr (h ▸ List.mem_cons_self)
      · rcases lvI_mem h with h | h
        · exact Or.inl h
        · exact Or.inr (List.mem_cons_of_mem _ h)
    · rcases List.mem_cons.mp h with h | h
      · exact Or.inl h
      · exact Or.inr h
theorem ct2_cat (v : Value) : ct2 v = true ↔ v.category = 2 := by cases v <;> simp [Value.category, ct2]
theorem lvF1_mem : ∀ {lv : aL} {i : Nat} {q : Nat × Value}, q ∈ lvF1 lv i → q ∈ lv ∧ q.1 ≠ i ∧ ¬ (q.1 + 1 = i ∧ ct2 q.2 = true)
  | [], i, q, h => by simp [lvF1] at h
  | (p, w) :: r, i, q, h => by
    unfold lvF1 at h
    split at h
    · obtain ⟨a, b⟩ := lvF1_mem h
      exact ⟨List.mem_cons_of_mem _ a, b⟩
    · rename_i hb
      rcases List.mem_cons.mp h with h | h
      · subst h
        simp only [Bool.or_eq_false_iff, Bool.and_eq_false_iff] at hb
        refine ⟨List.mem_cons_self, fun e => ?_, fun e => ?_⟩
        · have e : p = i := e
          rw [e] at hb; simp at hb
        · have e : p + 1 = i ∧ ct2 w = true := e
          have e1 : Nat.beq (p + 1) i = true := by rw [e.1]; simp
          have e2 : ct2 w = true := e.2
          rcases hb.2 with z | z
          · rw [e1] at z; cases z
          · rw [e2] at z; cases z
      · obtain ⟨a, b⟩ := lvF1_mem h
        exact ⟨List.mem_cons_of_mem _ a, b⟩
theorem lvF2_mem : ∀ {lv : aL} {i : Nat} {q : Nat × Value}, q ∈ lvF2 lv i → q ∈ lv ∧ q.1 ≠ i ∧ q.1 ≠ i + 1 ∧ ¬ (q.1 + 1 = i ∧ ct2 q.2 = true)
  | [], i, q, h => by simp [lvF2] at h
  | (p, w) :: r, i, q, h => by
    unfold lvF2 at h
    split at h
    · obtain ⟨a, b⟩ := lvF2_mem h
      exact ⟨List.mem_cons_of_mem _ a, b⟩
    · rename_i hb
      rcases List.mem_cons.mp h with h | h
      · subst h
        simp only [Bool.or_eq_false_iff, Bool.and_eq_false_iff] at hb
        refine ⟨List.mem_cons_self, fun e => ?_, fun e => ?_, fun e => ?_⟩
        · have e : p = i := e
          rw [e] at hb; simp at hb
        · have e : p = i + 1 := e
          have e1 : Nat.beq p (i + 1) = true := by rw [e]; simp
          rw [e1] at hb; simp at hb
        · have e : p + 1 = i ∧ ct2 w = true := e
          have e1 : Nat.beq (p + 1) i = true := by rw [e.1]; simp
          have e2 : ct2 w = true := e.2
          rcases hb.2.2 with z | z
          · rw [e1] at z; cases z
          · rw [e2] at z; cases z
      · obtain ⟨a, b⟩ := lvF2_mem h
        exact ⟨List.mem_cons_of_mem _ a, b⟩

