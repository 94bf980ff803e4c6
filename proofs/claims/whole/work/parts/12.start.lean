/-! THE CLAIM OUT OF ONE WALK OF THE LAW'S BODY. Your part is whole_start (and what it stands on); all else here is the same for every law, but numbers. -/
def R_law : String := "SaysBathLaw"
def lw_P (b : Addr) (xs : List Int32) (args : Array Value) (s : State) : Prop := args = #[.ref b] ∧ s.IntsAt b xs ∧ xs.length ≤ 3072 ∧ (Jvm.Cond.and given_1 narrow_1).before args s = true
def lw_Q (_ : Array Value) (s : State) (o : Outcome) (t : State) : Prop := o = .returned (some (.int 1)) ∧ Framed s o t [] 600000 7302250
def lw_Z (below : List Frame) (a : Array Value) (s : State) : State → Prop := fun t => ∃ o, t.status = .running ∧ Ended t below o ∧ lw_Q a s o t
/-- the law's own end, with 1 on the stack, nothing written that was there before, its room as the claim has it -/
theorem lw_ret {p : Program} {l : Launch} {e : Env} {s : State} {m : MethodId} {below : List Frame} {meth : Method} {c : Code} {b : Nat} (hx : p.tables.exec = Jvm.exec) (hb : c.code = code) (hr : meth.sig.returnType = ret) (hlocks : meth.locks = false) {pc : Nat} {H : Heap} {ls : Array Slot} (hdg : decode code pc = .ok (.ireturn, 1)) : W p l e room_1 s m #[Value.ref b] below meth c H [] 600000 7302250 (lw_Z below #[Value.ref b] s) (F0 m pc ls [.int 1]) := by
  intro T hT X
  obtain ⟨fs, hret, hrun, hended, hW, hframe⟩ := X.leave (v := some (.int 1)) (hlocks := hlocks) (fun h => by rw [hr] at h; cases h)
  have hmeth' : T.vm.method? m = some meth := X.method'
  refine ⟨T.setFrames fs, ?_, .returned (some (.int 1)), hrun, hended, rfl, ⟨_, rfl⟩, hW, hframe⟩
  jvm_step X.here [X.here.top, hx, hb, hdg, hmeth', hr, ret, narrow_b1]
  (try refine ⟨rfl, ?_⟩); (try refine ⟨rfl, ?_⟩)
  first | (intro acts; rw [hret _ acts rfl rfl rfl]) | rw [hret _ _ rfl rfl rfl]
  exact Steps.refl _
/-- what holds at the law's entry: the machine, the code, the tables' words (any of lw_tbl by 'hts w (by decide +kernel)'), the script of L ints xs at the cell b, what the Statement gives of the start (any of its parts by flat_of_before) -/
def lw_At (p : Program) (s : State) (m : MethodId) (meth : Method) (c : Code) (b L : Nat) (xs : Nat → Int32) : Prop :=
  p.tables.exec = Jvm.exec ∧ c.code = code ∧ meth.sig.returnType = ret ∧ c.maxLocals = 4 ∧ s.vm.findClass R_law = some m.cls ∧ (∀ w ∈ lw_tbl, w.before #[Value.ref b] s = true) ∧ va_X b L xs s s.heap ∧ b < s.heap.size ∧ meth.locks = false ∧ (Jvm.Cond.and given_1 narrow_1).before #[Value.ref b] s = true

def flN : List Cond := flatC (Jvm.Cond.and given_1 narrow_1)
def CL (L : Nat) (xs : Nat → Int32) (C : aC) : aC := fun j As h r h' cc ss => match j with
  | 2000 => ∃ i, As = [.int i] ∧ vp_in i L ∧ r = some (.int (xs i.toNatClampNeg))
  | 2001 => r = some (.int (Int32.ofNat L))
  | j => C j As h r h' cc ss
/-- WHAT IS LEFT, over the small machine: on every script the law's run ends with 1 -/
def LawRuns : Prop := ∀ (L : Nat) (xs : Nat → Int32), L ≤ 3072 → ∃ (n : Nat) (h : aH) (cT sT : Nat), cT ≤ 50000 ∧ sT ≤ 5000000 ∧ Ev (CL L xs (Rn 700)) 244 n 0 [(0, .retAddr 1000)] [] [] 0 0 (some (.int 1)) h cT sT
set_option maxRecDepth 100000 in
theorem tx_0 {args : Array Value} {s : State} {A : Nat → Prop} (hs : ∀ w ∈ flN, w.before args s = true) (hA : ∀ a : Nat, a < s.heap.size → ¬ A a) : ∃ a v : Nat, vk_S 1 [litN.getD 0 0] [litS.getD 0 []] (fun _ => a) (fun _ => v) A s s.heap ∧ (Term.string "SaysBath$Reader" 56).eval args s none [] s = some (.ref a) ∧ (Term.string "SaysBathModel" 188).eval args s none [] s = some (.ref a) := by
  have c1 : (Cond.exactly (Term.string "SaysBath$Reader" 56) "java/lang/String").before args s = true := (hs _ (List.mem_of_getElem? (i := 9) (by rfl)))
  have c2 : (Cond.eq (.field (Term.string "SaysBath$Reader" 56) "java/lang/String" "coder" "B") (.int 0)).before args s = true := (hs _ (List.mem_of_getElem? (i := 10) (by rfl)))
  have c3 : (Cond.arrayOf (.field (Term.string "SaysBath$Reader" 56) "java/lang/String" "value" "[B") .byte).before args s = true := (hs _ (List.mem_of_getElem? (i := 11) (by rfl)))
  have c4 : (Cond.eq (.length (.field (Term.string "SaysBath$Reader" 56) "java/lang/String" "value" "[B")) (.int 7)).before args s = true := (hs _ (List.mem_of_getElem? (i := 12) (by rfl)))
  have c5 : (Cond.eq (Term.string "SaysBath$Reader" 56) (Term.string "SaysBathModel" 188)).before args s = true := (hs _ (List.mem_of_getElem? (i := 183) (by rfl)))
  have e0 : (Cond.eq (.elem (.field (Term.string "SaysBath$Reader" 56) "java/lang/String" "value" "[B") (.int 0)) (.int 118)).before args s = true := (hs _ (List.mem_of_getElem? (i := 13) (by rfl)))
  have e1 : (Cond.eq (.elem (.field (Term.string "SaysBath$Reader" 56) "java/lang/String" "value" "[B") (.int 1)) (.int 105)).before args s = true := (hs _ (List.mem_of_getElem? (i := 14) (by rfl)))
  have e2 : (Cond.eq (.elem (.field (Term.string "SaysBath$Reader" 56) "java/lang/String" "value" "[B") (.int 2)) (.int 108)).before args s = true := (hs _ (List.mem_of_getElem? (i := 15) (by rfl)))
  have e3 : (Cond.eq (.elem (.field (Term.string "SaysBath$Reader" 56) "java/lang/String" "value" "[B") (.int 3)) (.int 108)).before args s = true := (hs _ (List.mem_of_getElem? (i := 16) (by rfl)))
  have e4 : (Cond.eq (.elem (.field (Term.string "SaysBath$Reader" 56) "java/lang/String" "value" "[B") (.int 4)) (.int 97)).before args s = true := (hs _ (List.mem_of_getElem? (i := 17) (by rfl)))
  have e5 : (Cond.eq (.elem (.field (Term.string "SaysBath$Reader" 56) "java/lang/String" "value" "[B") (.int 5)) (.int 103)).before args s = true := (hs _ (List.mem_of_getElem? (i := 18) (by rfl)))
  have e6 : (Cond.eq (.elem (.field (Term.string "SaysBath$Reader" 56) "java/lang/String" "value" "[B") (.int 6)) (.int 101)).before args s = true := (hs _ (List.mem_of_getElem? (i := 19) (by rfl)))
  have g1 : ∀ i : Nat, i < 1 → ([litN.getD 0 0] : List Nat).getD i 0 < 2 ^ 31 := by
    intro i hi
    have e9 : i = 0 := by omega
    subst e9
    decide
  have g2 : ∀ i : Nat, i < 1 → (Cond.eq (.length (.field (Term.string "SaysBath$Reader" 56) "java/lang/String" "value" "[B")) (.int (Int32.ofNat (([litN.getD 0 0] : List Nat).getD i 0)))).before args s = true := by
    intro i hi
    have e9 : i = 0 := by omega
    subst e9
    exact c4
  have g3 : ∀ i : Nat, i < 1 → ∀ j : Nat, j < ([litN.getD 0 0] : List Nat).getD i 0 → (Cond.eq (.elem (.field (Term.string "SaysBath$Reader" 56) "java/lang/String" "value" "[B") (.int (Int32.ofNat j))) (.int ((([litS.getD 0 []] : List (List Int32)).getD i []).getD j 0))).before args s = true := by
    intro i hi j hj
    have e9 : i = 0 := by omega
    subst e9
    have hj : j < 7 := hj
    match j, hj with
    | 0, _ => exact e0
    | 1, _ => exact e1
    | 2, _ => exact e2
    | 3, _ => exact e3
    | 4, _ => exact e4
    | 5, _ => exact e5
    | 6, _ => exact e6
    | n + 7, h => exact absurd h (by omega)
  obtain ⟨ak, av, h1, h2⟩ := vk_Sof (args := args) (s := s) (N := 1) (tm := fun _ => Term.string "SaysBath$Reader" 56) (len := [litN.getD 0 0]) (byt := [litS.getD 0 []]) (A := A) g1 (fun _ _ => c1) (fun _ _ => c2) (fun _ _ => c3) g2 g3 (fun i j hi hj hij => absurd (show i = j by omega) hij) hA
  have q1 := h2 0 (by decide)
  refine ⟨ak 0, av 0, ⟨fun i hi => ?_, fun i j hi hj _ => by omega⟩, q1, va_eqR c5 q1⟩
  have e : i = 0 := by omega
  subst e
  exact h1.1 0 (by decide)
set_option maxRecDepth 100000 in
theorem tx_1 {args : Array Value} {s : State} {A : Nat → Prop} (hs : ∀ w ∈ flN, w.before args s = true) (hA : ∀ a : Nat, a < s.heap.size → ¬ A a) : ∃ a v : Nat, vk_S 1 [litN.getD 1 0] [litS.getD 1 []] (fun _ => a) (fun _ => v) A s s.heap ∧ (Term.string "SaysBath$Reader" 97).eval args s none [] s = some (.ref a) ∧ (Term.string "SaysBathModel" 162).eval args s none [] s = some (.ref a) := by
  have c1 : (Cond.exactly (Term.string "SaysBath$Reader" 97) "java/lang/String").before args s = true := (hs _ (List.mem_of_getElem? (i := 20) (by rfl)))
  have c2 : (Cond.eq (.field (Term.string "SaysBath$Reader" 97) "java/lang/String" "coder" "B") (.int 0)).before args s = true := (hs _ (List.mem_of_getElem? (i := 21) (by rfl)))
  have c3 : (Cond.arrayOf (.field (Term.string "SaysBath$Reader" 97) "java/lang/String" "value" "[B") .byte).before args s = true := (hs _ (List.mem_of_getElem? (i := 22) (by rfl)))
  have c4 : (Cond.eq (.length (.field (Term.string "SaysBath$Reader" 97) "java/lang/String" "value" "[B")) (.int 4)).before args s = true := (hs _ (List.mem_of_getElem? (i := 23) (by rfl)))
  have c5 : (Cond.eq (Term.string "SaysBath$Reader" 97) (Term.string "SaysBathModel" 162)).before args s = true := (hs _ (List.mem_of_getElem? (i := 227) (by rfl)))
  have e0 : (Cond.eq (.elem (.field (Term.string "SaysBath$Reader" 97) "java/lang/String" "value" "[B") (.int 0)) (.int 115)).before args s = true := (hs _ (List.mem_of_getElem? (i := 24) (by rfl)))
  have e1 : (Cond.eq (.elem (.field (Term.string "SaysBath$Reader" 97) "java/lang/String" "value" "[B") (.int 1)) (.int 105)).before args s = true := (hs _ (List.mem_of_getElem? (i := 25) (by rfl)))
  have e2 : (Cond.eq (.elem (.field (Term.string "SaysBath$Reader" 97) "java/lang/String" "value" "[B") (.int 2)) (.int 122)).before args s = true := (hs _ (List.mem_of_getElem? (i := 26) (by rfl)))
  have e3 : (Cond.eq (.elem (.field (Term.string "SaysBath$Reader" 97) "java/lang/String" "value" "[B") (.int 3)) (.int 101)).before args s = true := (hs _ (List.mem_of_getElem? (i := 27) (by rfl)))
  have g1 : ∀ i : Nat, i < 1 → ([litN.getD 1 0] : List Nat).getD i 0 < 2 ^ 31 := by
    intro i hi
    have e9 : i = 0 := by omega
    subst e9
    decide
  have g2 : ∀ i : Nat, i < 1 → (Cond.eq (.length (.field (Term.string "SaysBath$Reader" 97) "java/lang/String" "value" "[B")) (.int (Int32.ofNat (([litN.getD 1 0] : List Nat).getD i 0)))).before args s = true := by
    intro i hi
    have e9 : i = 0 := by omega
    subst e9
    exact c4
  have g3 : ∀ i : Nat, i < 1 → ∀ j : Nat, j < ([litN.getD 1 0] : List Nat).getD i 0 → (Cond.eq (.elem (.field (Term.string "SaysBath$Reader" 97) "java/lang/String" "value" "[B") (.int (Int32.ofNat j))) (.int ((([litS.getD 1 []] : List (List Int32)).getD i []).getD j 0))).before args s = true := by
    intro i hi j hj
    have e9 : i = 0 := by omega
    subst e9
    have hj : j < 4 := hj
    match j, hj with
    | 0, _ => exact e0
    | 1, _ => exact e1
    | 2, _ => exact e2
    | 3, _ => exact e3
    | n + 4, h => exact absurd h (by omega)
  obtain ⟨ak, av, h1, h2⟩ := vk_Sof (args := args) (s := s) (N := 1) (tm := fun _ => Term.string "SaysBath$Reader" 97) (len := [litN.getD 1 0]) (byt := [litS.getD 1 []]) (A := A) g1 (fun _ _ => c1) (fun _ _ => c2) (fun _ _ => c3) g2 g3 (fun i j hi hj hij => absurd (show i = j by omega) hij) hA
  have q1 := h2 0 (by decide)
  refine ⟨ak 0, av 0, ⟨fun i hi => ?_, fun i j hi hj _ => by omega⟩, q1, va_eqR c5 q1⟩
  have e : i = 0 := by omega
  subst e
  exact h1.1 0 (by decide)
set_option maxRecDepth 100000 in
theorem tx_2 {args : Array Value} {s : State} {A : Nat → Prop} (hs : ∀ w ∈ flN, w.before args s = true) (hA : ∀ a : Nat, a < s.heap.size → ¬ A a) : ∃ a v : Nat, vk_S 1 [litN.getD 2 0] [litS.getD 2 []] (fun _ => a) (fun _ => v) A s s.heap ∧ (Term.string "SaysBath$Reader" 66).eval args s none [] s = some (.ref a) ∧ (Term.string "SaysBathModel" 190).eval args s none [] s = some (.ref a) := by
  have c1 : (Cond.exactly (Term.string "SaysBath$Reader" 66) "java/lang/String").before args s = true := (hs _ (List.mem_of_getElem? (i := 28) (by rfl)))
  have c2 : (Cond.eq (.field (Term.string "SaysBath$Reader" 66) "java/lang/String" "coder" "B") (.int 0)).before args s = true := (hs _ (List.mem_of_getElem? (i := 29) (by rfl)))
  have c3 : (Cond.arrayOf (.field (Term.string "SaysBath$Reader" 66) "java/lang/String" "value" "[B") .byte).before args s = true := (hs _ (List.mem_of_getElem? (i := 30) (by rfl)))
  have c4 : (Cond.eq (.length (.field (Term.string "SaysBath$Reader" 66) "java/lang/String" "value" "[B")) (.int 4)).before args s = true := (hs _ (List.mem_of_getElem? (i := 31) (by rfl)))
  have c5 : (Cond.eq (Term.string "SaysBath$Reader" 66) (Term.string "SaysBathModel" 190)).before args s = true := (hs _ (List.mem_of_getElem? (i := 192) (by rfl)))
  have e0 : (Cond.eq (.elem (.field (Term.string "SaysBath$Reader" 66) "java/lang/String" "value" "[B") (.int 0)) (.int 114)).before args s = true := (hs _ (List.mem_of_getElem? (i := 32) (by rfl)))
  have e1 : (Cond.eq (.elem (.field (Term.string "SaysBath$Reader" 66) "java/lang/String" "value" "[B") (.int 1)) (.int 111)).before args s = true := (hs _ (List.mem_of_getElem? (i := 33) (by rfl)))
  have e2 : (Cond.eq (.elem (.field (Term.string "SaysBath$Reader" 66) "java/lang/String" "value" "[B") (.int 2)) (.int 97)).before args s = true := (hs _ (List.mem_of_getElem? (i := 34) (by rfl)))
  have e3 : (Cond.eq (.elem (.field (Term.string "SaysBath$Reader" 66) "java/lang/String" "value" "[B") (.int 3)) (.int 100)).before args s = true := (hs _ (List.mem_of_getElem? (i := 35) (by rfl)))
  have g1 : ∀ i : Nat, i < 1 → ([litN.getD 2 0] : List Nat).getD i 0 < 2 ^ 31 := by
    intro i hi
    have e9 : i = 0 := by omega
    subst e9
    decide
  have g2 : ∀ i : Nat, i < 1 → (Cond.eq (.length (.field (Term.string "SaysBath$Reader" 66) "java/lang/String" "value" "[B")) (.int (Int32.ofNat (([litN.getD 2 0] : List Nat).getD i 0)))).before args s = true := by
    intro i hi
    have e9 : i = 0 := by omega
    subst e9
    exact c4
  have g3 : ∀ i : Nat, i < 1 → ∀ j : Nat, j < ([litN.getD 2 0] : List Nat).getD i 0 → (Cond.eq (.elem (.field (Term.string "SaysBath$Reader" 66) "java/lang/String" "value" "[B") (.int (Int32.ofNat j))) (.int ((([litS.getD 2 []] : List (List Int32)).getD i []).getD j 0))).before args s = true := by
    intro i hi j hj
    have e9 : i = 0 := by omega
    subst e9
    have hj : j < 4 := hj
    match j, hj with
    | 0, _ => exact e0
    | 1, _ => exact e1
    | 2, _ => exact e2
    | 3, _ => exact e3
    | n + 4, h => exact absurd h (by omega)
  obtain ⟨ak, av, h1, h2⟩ := vk_Sof (args := args) (s := s) (N := 1) (tm := fun _ => Term.string "SaysBath$Reader" 66) (len := [litN.getD 2 0]) (byt := [litS.getD 2 []]) (A := A) g1 (fun _ _ => c1) (fun _ _ => c2) (fun _ _ => c3) g2 g3 (fun i j hi hj hij => absurd (show i = j by omega) hij) hA
  have q1 := h2 0 (by decide)
  refine ⟨ak 0, av 0, ⟨fun i hi => ?_, fun i j hi hj _ => by omega⟩, q1, va_eqR c5 q1⟩
  have e : i = 0 := by omega
  subst e
  exact h1.1 0 (by decide)
set_option maxRecDepth 100000 in
theorem tx_3 {args : Array Value} {s : State} {A : Nat → Prop} (hs : ∀ w ∈ flN, w.before args s = true) (hA : ∀ a : Nat, a < s.heap.size → ¬ A a) : ∃ a v : Nat, vk_S 1 [litN.getD 3 0] [litS.getD 3 []] (fun _ => a) (fun _ => v) A s s.heap ∧ (Term.string "SaysBath$Reader" 115).eval args s none [] s = some (.ref a) ∧ (Term.string "SaysBathModel" 148).eval args s none [] s = some (.ref a) := by
  have c1 : (Cond.exactly (Term.string "SaysBath$Reader" 115) "java/lang/String").before args s = true := (hs _ (List.mem_of_getElem? (i := 36) (by rfl)))
  have c2 : (Cond.eq (.field (Term.string "SaysBath$Reader" 115) "java/lang/String" "coder" "B") (.int 0)).before args s = true := (hs _ (List.mem_of_getElem? (i := 37) (by rfl)))
  have c3 : (Cond.arrayOf (.field (Term.string "SaysBath$Reader" 115) "java/lang/String" "value" "[B") .byte).before args s = true := (hs _ (List.mem_of_getElem? (i := 38) (by rfl)))
  have c4 : (Cond.eq (.length (.field (Term.string "SaysBath$Reader" 115) "java/lang/String" "value" "[B")) (.int 5)).before args s = true := (hs _ (List.mem_of_getElem? (i := 39) (by rfl)))
  have c5 : (Cond.eq (Term.string "SaysBath$Reader" 115) (Term.string "SaysBathModel" 148)).before args s = true := (hs _ (List.mem_of_getElem? (i := 237) (by rfl)))
  have e0 : (Cond.eq (.elem (.field (Term.string "SaysBath$Reader" 115) "java/lang/String" "value" "[B") (.int 0)) (.int 114)).before args s = true := (hs _ (List.mem_of_getElem? (i := 40) (by rfl)))
  have e1 : (Cond.eq (.elem (.field (Term.string "SaysBath$Reader" 115) "java/lang/String" "value" "[B") (.int 1)) (.int 105)).before args s = true := (hs _ (List.mem_of_getElem? (i := 41) (by rfl)))
  have e2 : (Cond.eq (.elem (.field (Term.string "SaysBath$Reader" 115) "java/lang/String" "value" "[B") (.int 2)) (.int 118)).before args s = true := (hs _ (List.mem_of_getElem? (i := 42) (by rfl)))
  have e3 : (Cond.eq (.elem (.field (Term.string "SaysBath$Reader" 115) "java/lang/String" "value" "[B") (.int 3)) (.int 101)).before args s = true := (hs _ (List.mem_of_getElem? (i := 43) (by rfl)))
  have e4 : (Cond.eq (.elem (.field (Term.string "SaysBath$Reader" 115) "java/lang/String" "value" "[B") (.int 4)) (.int 114)).before args s = true := (hs _ (List.mem_of_getElem? (i := 44) (by rfl)))
  have g1 : ∀ i : Nat, i < 1 → ([litN.getD 3 0] : List Nat).getD i 0 < 2 ^ 31 := by
    intro i hi
    have e9 : i = 0 := by omega
    subst e9
    decide
  have g2 : ∀ i : Nat, i < 1 → (Cond.eq (.length (.field (Term.string "SaysBath$Reader" 115) "java/lang/String" "value" "[B")) (.int (Int32.ofNat (([litN.getD 3 0] : List Nat).getD i 0)))).before args s = true := by
    intro i hi
    have e9 : i = 0 := by omega
    subst e9
    exact c4
  have g3 : ∀ i : Nat, i < 1 → ∀ j : Nat, j < ([litN.getD 3 0] : List Nat).getD i 0 → (Cond.eq (.elem (.field (Term.string "SaysBath$Reader" 115) "java/lang/String" "value" "[B") (.int (Int32.ofNat j))) (.int ((([litS.getD 3 []] : List (List Int32)).getD i []).getD j 0))).before args s = true := by
    intro i hi j hj
    have e9 : i = 0 := by omega
    subst e9
    have hj : j < 5 := hj
    match j, hj with
    | 0, _ => exact e0
    | 1, _ => exact e1
    | 2, _ => exact e2
    | 3, _ => exact e3
    | 4, _ => exact e4
    | n + 5, h => exact absurd h (by omega)
  obtain ⟨ak, av, h1, h2⟩ := vk_Sof (args := args) (s := s) (N := 1) (tm := fun _ => Term.string "SaysBath$Reader" 115) (len := [litN.getD 3 0]) (byt := [litS.getD 3 []]) (A := A) g1 (fun _ _ => c1) (fun _ _ => c2) (fun _ _ => c3) g2 g3 (fun i j hi hj hij => absurd (show i = j by omega) hij) hA
  have q1 := h2 0 (by decide)
  refine ⟨ak 0, av 0, ⟨fun i hi => ?_, fun i j hi hj _ => by omega⟩, q1, va_eqR c5 q1⟩
  have e : i = 0 := by omega
  subst e
  exact h1.1 0 (by decide)
set_option maxRecDepth 100000 in
theorem tx_4 {args : Array Value} {s : State} {A : Nat → Prop} (hs : ∀ w ∈ flN, w.before args s = true) (hA : ∀ a : Nat, a < s.heap.size → ¬ A a) : ∃ a v : Nat, vk_S 1 [litN.getD 4 0] [litS.getD 4 []] (fun _ => a) (fun _ => v) A s s.heap ∧ (Term.string "SaysBath$Reader" 71).eval args s none [] s = some (.ref a) ∧ (Term.string "SaysBathModel" 192).eval args s none [] s = some (.ref a) := by
  have c1 : (Cond.exactly (Term.string "SaysBath$Reader" 71) "java/lang/String").before args s = true := (hs _ (List.mem_of_getElem? (i := 45) (by rfl)))
  have c2 : (Cond.eq (.field (Term.string "SaysBath$Reader" 71) "java/lang/String" "coder" "B") (.int 0)).before args s = true := (hs _ (List.mem_of_getElem? (i := 46) (by rfl)))
  have c3 : (Cond.arrayOf (.field (Term.string "SaysBath$Reader" 71) "java/lang/String" "value" "[B") .byte).before args s = true := (hs _ (List.mem_of_getElem? (i := 47) (by rfl)))
  have c4 : (Cond.eq (.length (.field (Term.string "SaysBath$Reader" 71) "java/lang/String" "value" "[B")) (.int 4)).before args s = true := (hs _ (List.mem_of_getElem? (i := 48) (by rfl)))
  have c5 : (Cond.eq (Term.string "SaysBath$Reader" 71) (Term.string "SaysBathModel" 192)).before args s = true := (hs _ (List.mem_of_getElem? (i := 201) (by rfl)))
  have e0 : (Cond.eq (.elem (.field (Term.string "SaysBath$Reader" 71) "java/lang/String" "value" "[B") (.int 0)) (.int 105)).before args s = true := (hs _ (List.mem_of_getElem? (i := 49) (by rfl)))
  have e1 : (Cond.eq (.elem (.field (Term.string "SaysBath$Reader" 71) "java/lang/String" "value" "[B") (.int 1)) (.int 116)).before args s = true := (hs _ (List.mem_of_getElem? (i := 50) (by rfl)))
  have e2 : (Cond.eq (.elem (.field (Term.string "SaysBath$Reader" 71) "java/lang/String" "value" "[B") (.int 2)) (.int 101)).before args s = true := (hs _ (List.mem_of_getElem? (i := 51) (by rfl)))
  have e3 : (Cond.eq (.elem (.field (Term.string "SaysBath$Reader" 71) "java/lang/String" "value" "[B") (.int 3)) (.int 109)).before args s = true := (hs _ (List.mem_of_getElem? (i := 52) (by rfl)))
  have g1 : ∀ i : Nat, i < 1 → ([litN.getD 4 0] : List Nat).getD i 0 < 2 ^ 31 := by
    intro i hi
    have e9 : i = 0 := by omega
    subst e9
    decide
  have g2 : ∀ i : Nat, i < 1 → (Cond.eq (.length (.field (Term.string "SaysBath$Reader" 71) "java/lang/String" "value" "[B")) (.int (Int32.ofNat (([litN.getD 4 0] : List Nat).getD i 0)))).before args s = true := by
    intro i hi
    have e9 : i = 0 := by omega
    subst e9
    exact c4
  have g3 : ∀ i : Nat, i < 1 → ∀ j : Nat, j < ([litN.getD 4 0] : List Nat).getD i 0 → (Cond.eq (.elem (.field (Term.string "SaysBath$Reader" 71) "java/lang/String" "value" "[B") (.int (Int32.ofNat j))) (.int ((([litS.getD 4 []] : List (List Int32)).getD i []).getD j 0))).before args s = true := by
    intro i hi j hj
    have e9 : i = 0 := by omega
    subst e9
    have hj : j < 4 := hj
    match j, hj with
    | 0, _ => exact e0
    | 1, _ => exact e1
    | 2, _ => exact e2
    | 3, _ => exact e3
    | n + 4, h => exact absurd h (by omega)
  obtain ⟨ak, av, h1, h2⟩ := vk_Sof (args := args) (s := s) (N := 1) (tm := fun _ => Term.string "SaysBath$Reader" 71) (len := [litN.getD 4 0]) (byt := [litS.getD 4 []]) (A := A) g1 (fun _ _ => c1) (fun _ _ => c2) (fun _ _ => c3) g2 g3 (fun i j hi hj hij => absurd (show i = j by omega) hij) hA
  have q1 := h2 0 (by decide)
  refine ⟨ak 0, av 0, ⟨fun i hi => ?_, fun i j hi hj _ => by omega⟩, q1, va_eqR c5 q1⟩
  have e : i = 0 := by omega
  subst e
  exact h1.1 0 (by decide)
set_option maxRecDepth 100000 in
theorem tx_5 {args : Array Value} {s : State} {A : Nat → Prop} (hs : ∀ w ∈ flN, w.before args s = true) (hA : ∀ a : Nat, a < s.heap.size → ¬ A a) : ∃ a v : Nat, vk_S 1 [litN.getD 5 0] [litS.getD 5 []] (fun _ => a) (fun _ => v) A s s.heap ∧ (Term.string "SaysBath$Reader" 124).eval args s none [] s = some (.ref a) ∧ (Term.string "SaysBathModel" 150).eval args s none [] s = some (.ref a) := by
  have c1 : (Cond.exactly (Term.string "SaysBath$Reader" 124) "java/lang/String").before args s = true := (hs _ (List.mem_of_getElem? (i := 53) (by rfl)))
  have c2 : (Cond.eq (.field (Term.string "SaysBath$Reader" 124) "java/lang/String" "coder" "B") (.int 0)).before args s = true := (hs _ (List.mem_of_getElem? (i := 54) (by rfl)))
  have c3 : (Cond.arrayOf (.field (Term.string "SaysBath$Reader" 124) "java/lang/String" "value" "[B") .byte).before args s = true := (hs _ (List.mem_of_getElem? (i := 55) (by rfl)))
  have c4 : (Cond.eq (.length (.field (Term.string "SaysBath$Reader" 124) "java/lang/String" "value" "[B")) (.int 2)).before args s = true := (hs _ (List.mem_of_getElem? (i := 56) (by rfl)))
  have c5 : (Cond.eq (Term.string "SaysBath$Reader" 124) (Term.string "SaysBathModel" 150)).before args s = true := (hs _ (List.mem_of_getElem? (i := 244) (by rfl)))
  have e0 : (Cond.eq (.elem (.field (Term.string "SaysBath$Reader" 124) "java/lang/String" "value" "[B") (.int 0)) (.int 111)).before args s = true := (hs _ (List.mem_of_getElem? (i := 57) (by rfl)))
  have e1 : (Cond.eq (.elem (.field (Term.string "SaysBath$Reader" 124) "java/lang/String" "value" "[B") (.int 1)) (.int 102)).before args s = true := (hs _ (List.mem_of_getElem? (i := 58) (by rfl)))
  have g1 : ∀ i : Nat, i < 1 → ([litN.getD 5 0] : List Nat).getD i 0 < 2 ^ 31 := by
    intro i hi
    have e9 : i = 0 := by omega
    subst e9
    decide
  have g2 : ∀ i : Nat, i < 1 → (Cond.eq (.length (.field (Term.string "SaysBath$Reader" 124) "java/lang/String" "value" "[B")) (.int (Int32.ofNat (([litN.getD 5 0] : List Nat).getD i 0)))).before args s = true := by
    intro i hi
    have e9 : i = 0 := by omega
    subst e9
    exact c4
  have g3 : ∀ i : Nat, i < 1 → ∀ j : Nat, j < ([litN.getD 5 0] : List Nat).getD i 0 → (Cond.eq (.elem (.field (Term.string "SaysBath$Reader" 124) "java/lang/String" "value" "[B") (.int (Int32.ofNat j))) (.int ((([litS.getD 5 []] : List (List Int32)).getD i []).getD j 0))).before args s = true := by
    intro i hi j hj
    have e9 : i = 0 := by omega
    subst e9
    have hj : j < 2 := hj
    match j, hj with
    | 0, _ => exact e0
    | 1, _ => exact e1
    | n + 2, h => exact absurd h (by omega)
  obtain ⟨ak, av, h1, h2⟩ := vk_Sof (args := args) (s := s) (N := 1) (tm := fun _ => Term.string "SaysBath$Reader" 124) (len := [litN.getD 5 0]) (byt := [litS.getD 5 []]) (A := A) g1 (fun _ _ => c1) (fun _ _ => c2) (fun _ _ => c3) g2 g3 (fun i j hi hj hij => absurd (show i = j by omega) hij) hA
  have q1 := h2 0 (by decide)
  refine ⟨ak 0, av 0, ⟨fun i hi => ?_, fun i j hi hj _ => by omega⟩, q1, va_eqR c5 q1⟩
  have e : i = 0 := by omega
  subst e
  exact h1.1 0 (by decide)
set_option maxRecDepth 100000 in
theorem tx_6 {args : Array Value} {s : State} {A : Nat → Prop} (hs : ∀ w ∈ flN, w.before args s = true) (hA : ∀ a : Nat, a < s.heap.size → ¬ A a) : ∃ a v : Nat, vk_S 1 [litN.getD 6 0] [litS.getD 6 []] (fun _ => a) (fun _ => v) A s s.heap ∧ (Term.string "SaysBath$Reader" 126).eval args s none [] s = some (.ref a) ∧ (Term.string "SaysBathModel" 156).eval args s none [] s = some (.ref a) := by
  have c1 : (Cond.exactly (Term.string "SaysBath$Reader" 126) "java/lang/String").before args s = true := (hs _ (List.mem_of_getElem? (i := 59) (by rfl)))
  have c2 : (Cond.eq (.field (Term.string "SaysBath$Reader" 126) "java/lang/String" "coder" "B") (.int 0)).before args s = true := (hs _ (List.mem_of_getElem? (i := 60) (by rfl)))
  have c3 : (Cond.arrayOf (.field (Term.string "SaysBath$Reader" 126) "java/lang/String" "value" "[B") .byte).before args s = true := (hs _ (List.mem_of_getElem? (i := 61) (by rfl)))
  have c4 : (Cond.eq (.length (.field (Term.string "SaysBath$Reader" 126) "java/lang/String" "value" "[B")) (.int 8)).before args s = true := (hs _ (List.mem_of_getElem? (i := 62) (by rfl)))
  have c5 : (Cond.eq (Term.string "SaysBath$Reader" 126) (Term.string "SaysBathModel" 156)).before args s = true := (hs _ (List.mem_of_getElem? (i := 257) (by rfl)))
  have e0 : (Cond.eq (.elem (.field (Term.string "SaysBath$Reader" 126) "java/lang/String" "value" "[B") (.int 0)) (.int 115)).before args s = true := (hs _ (List.mem_of_getElem? (i := 63) (by rfl)))
  have e1 : (Cond.eq (.elem (.field (Term.string "SaysBath$Reader" 126) "java/lang/String" "value" "[B") (.int 1)) (.int 116)).before args s = true := (hs _ (List.mem_of_getElem? (i := 64) (by rfl)))
  have e2 : (Cond.eq (.elem (.field (Term.string "SaysBath$Reader" 126) "java/lang/String" "value" "[B") (.int 2)) (.int 97)).before args s = true := (hs _ (List.mem_of_getElem? (i := 65) (by rfl)))
  have e3 : (Cond.eq (.elem (.field (Term.string "SaysBath$Reader" 126) "java/lang/String" "value" "[B") (.int 3)) (.int 110)).before args s = true := (hs _ (List.mem_of_getElem? (i := 66) (by rfl)))
  have e4 : (Cond.eq (.elem (.field (Term.string "SaysBath$Reader" 126) "java/lang/String" "value" "[B") (.int 4)) (.int 100)).before args s = true := (hs _ (List.mem_of_getElem? (i := 67) (by rfl)))
  have e5 : (Cond.eq (.elem (.field (Term.string "SaysBath$Reader" 126) "java/lang/String" "value" "[B") (.int 5)) (.int 97)).before args s = true := (hs _ (List.mem_of_getElem? (i := 68) (by rfl)))
  have e6 : (Cond.eq (.elem (.field (Term.string "SaysBath$Reader" 126) "java/lang/String" "value" "[B") (.int 6)) (.int 114)).before args s = true := (hs _ (List.mem_of_getElem? (i := 69) (by rfl)))
  have e7 : (Cond.eq (.elem (.field (Term.string "SaysBath$Reader" 126) "java/lang/String" "value" "[B") (.int 7)) (.int 100)).before args s = true := (hs _ (List.mem_of_getElem? (i := 70) (by rfl)))
  have g1 : ∀ i : Nat, i < 1 → ([litN.getD 6 0] : List Nat).getD i 0 < 2 ^ 31 := by
    intro i hi
    have e9 : i = 0 := by omega
    subst e9
    decide
  have g2 : ∀ i : Nat, i < 1 → (Cond.eq (.length (.field (Term.string "SaysBath$Reader" 126) "java/lang/String" "value" "[B")) (.int (Int32.ofNat (([litN.getD 6 0] : List Nat).getD i 0)))).before args s = true := by
    intro i hi
    have e9 : i = 0 := by omega
    subst e9
    exact c4
  have g3 : ∀ i : Nat, i < 1 → ∀ j : Nat, j < ([litN.getD 6 0] : List Nat).getD i 0 → (Cond.eq (.elem (.field (Term.string "SaysBath$Reader" 126) "java/lang/String" "value" "[B") (.int (Int32.ofNat j))) (.int ((([litS.getD 6 []] : List (List Int32)).getD i []).getD j 0))).before args s = true := by
    intro i hi j hj
    have e9 : i = 0 := by omega
    subst e9
    have hj : j < 8 := hj
    match j, hj with
    | 0, _ => exact e0
    | 1, _ => exact e1
    | 2, _ => exact e2
    | 3, _ => exact e3
    | 4, _ => exact e4
    | 5, _ => exact e5
    | 6, _ => exact e6
    | 7, _ => exact e7
    | n + 8, h => exact absurd h (by omega)
  obtain ⟨ak, av, h1, h2⟩ := vk_Sof (args := args) (s := s) (N := 1) (tm := fun _ => Term.string "SaysBath$Reader" 126) (len := [litN.getD 6 0]) (byt := [litS.getD 6 []]) (A := A) g1 (fun _ _ => c1) (fun _ _ => c2) (fun _ _ => c3) g2 g3 (fun i j hi hj hij => absurd (show i = j by omega) hij) hA
  have q1 := h2 0 (by decide)
  refine ⟨ak 0, av 0, ⟨fun i hi => ?_, fun i j hi hj _ => by omega⟩, q1, va_eqR c5 q1⟩
  have e : i = 0 := by omega
  subst e
  exact h1.1 0 (by decide)
set_option maxRecDepth 100000 in
theorem tx_7 {args : Array Value} {s : State} {A : Nat → Prop} (hs : ∀ w ∈ flN, w.before args s = true) (hA : ∀ a : Nat, a < s.heap.size → ¬ A a) : ∃ a v : Nat, vk_S 1 [litN.getD 7 0] [litS.getD 7 []] (fun _ => a) (fun _ => v) A s s.heap ∧ (Term.string "SaysBath$Reader" 76).eval args s none [] s = some (.ref a) ∧ (Term.string "SaysBathModel" 194).eval args s none [] s = some (.ref a) := by
  have c1 : (Cond.exactly (Term.string "SaysBath$Reader" 76) "java/lang/String").before args s = true := (hs _ (List.mem_of_getElem? (i := 71) (by rfl)))
  have c2 : (Cond.eq (.field (Term.string "SaysBath$Reader" 76) "java/lang/String" "coder" "B") (.int 0)).before args s = true := (hs _ (List.mem_of_getElem? (i := 72) (by rfl)))
  have c3 : (Cond.arrayOf (.field (Term.string "SaysBath$Reader" 76) "java/lang/String" "value" "[B") .byte).before args s = true := (hs _ (List.mem_of_getElem? (i := 73) (by rfl)))
  have c4 : (Cond.eq (.length (.field (Term.string "SaysBath$Reader" 76) "java/lang/String" "value" "[B")) (.int 4)).before args s = true := (hs _ (List.mem_of_getElem? (i := 74) (by rfl)))
  have c5 : (Cond.eq (Term.string "SaysBath$Reader" 76) (Term.string "SaysBathModel" 194)).before args s = true := (hs _ (List.mem_of_getElem? (i := 210) (by rfl)))
  have e0 : (Cond.eq (.elem (.field (Term.string "SaysBath$Reader" 76) "java/lang/String" "value" "[B") (.int 0)) (.int 115)).before args s = true := (hs _ (List.mem_of_getElem? (i := 75) (by rfl)))
  have e1 : (Cond.eq (.elem (.field (Term.string "SaysBath$Reader" 76) "java/lang/String" "value" "[B") (.int 1)) (.int 97)).before args s = true := (hs _ (List.mem_of_getElem? (i := 76) (by rfl)))
  have e2 : (Cond.eq (.elem (.field (Term.string "SaysBath$Reader" 76) "java/lang/String" "value" "[B") (.int 2)) (.int 121)).before args s = true := (hs _ (List.mem_of_getElem? (i := 77) (by rfl)))
  have e3 : (Cond.eq (.elem (.field (Term.string "SaysBath$Reader" 76) "java/lang/String" "value" "[B") (.int 3)) (.int 115)).before args s = true := (hs _ (List.mem_of_getElem? (i := 78) (by rfl)))
  have g1 : ∀ i : Nat, i < 1 → ([litN.getD 7 0] : List Nat).getD i 0 < 2 ^ 31 := by
    intro i hi
    have e9 : i = 0 := by omega
    subst e9
    decide
  have g2 : ∀ i : Nat, i < 1 → (Cond.eq (.length (.field (Term.string "SaysBath$Reader" 76) "java/lang/String" "value" "[B")) (.int (Int32.ofNat (([litN.getD 7 0] : List Nat).getD i 0)))).before args s = true := by
    intro i hi
    have e9 : i = 0 := by omega
    subst e9
    exact c4
  have g3 : ∀ i : Nat, i < 1 → ∀ j : Nat, j < ([litN.getD 7 0] : List Nat).getD i 0 → (Cond.eq (.elem (.field (Term.string "SaysBath$Reader" 76) "java/lang/String" "value" "[B") (.int (Int32.ofNat j))) (.int ((([litS.getD 7 []] : List (List Int32)).getD i []).getD j 0))).before args s = true := by
    intro i hi j hj
    have e9 : i = 0 := by omega
    subst e9
    have hj : j < 4 := hj
    match j, hj with
    | 0, _ => exact e0
    | 1, _ => exact e1
    | 2, _ => exact e2
    | 3, _ => exact e3
    | n + 4, h => exact absurd h (by omega)
  obtain ⟨ak, av, h1, h2⟩ := vk_Sof (args := args) (s := s) (N := 1) (tm := fun _ => Term.string "SaysBath$Reader" 76) (len := [litN.getD 7 0]) (byt := [litS.getD 7 []]) (A := A) g1 (fun _ _ => c1) (fun _ _ => c2) (fun _ _ => c3) g2 g3 (fun i j hi hj hij => absurd (show i = j by omega) hij) hA
  have q1 := h2 0 (by decide)
  refine ⟨ak 0, av 0, ⟨fun i hi => ?_, fun i j hi hj _ => by omega⟩, q1, va_eqR c5 q1⟩
  have e : i = 0 := by omega
  subst e
  exact h1.1 0 (by decide)
set_option maxRecDepth 100000 in
theorem tx_8 {args : Array Value} {s : State} {A : Nat → Prop} (hs : ∀ w ∈ flN, w.before args s = true) (hA : ∀ a : Nat, a < s.heap.size → ¬ A a) : ∃ a v : Nat, vk_S 1 [litN.getD 8 0] [litS.getD 8 []] (fun _ => a) (fun _ => v) A s s.heap ∧ (Term.string "SaysBath$Reader" 81).eval args s none [] s = some (.ref a) ∧ (Term.string "SaysBathModel" 196).eval args s none [] s = some (.ref a) := by
  have c1 : (Cond.exactly (Term.string "SaysBath$Reader" 81) "java/lang/String").before args s = true := (hs _ (List.mem_of_getElem? (i := 79) (by rfl)))
  have c2 : (Cond.eq (.field (Term.string "SaysBath$Reader" 81) "java/lang/String" "coder" "B") (.int 0)).before args s = true := (hs _ (List.mem_of_getElem? (i := 80) (by rfl)))
  have c3 : (Cond.arrayOf (.field (Term.string "SaysBath$Reader" 81) "java/lang/String" "value" "[B") .byte).before args s = true := (hs _ (List.mem_of_getElem? (i := 81) (by rfl)))
  have c4 : (Cond.eq (.length (.field (Term.string "SaysBath$Reader" 81) "java/lang/String" "value" "[B")) (.int 3)).before args s = true := (hs _ (List.mem_of_getElem? (i := 82) (by rfl)))
  have c5 : (Cond.eq (Term.string "SaysBath$Reader" 81) (Term.string "SaysBathModel" 196)).before args s = true := (hs _ (List.mem_of_getElem? (i := 218) (by rfl)))
  have e0 : (Cond.eq (.elem (.field (Term.string "SaysBath$Reader" 81) "java/lang/String" "value" "[B") (.int 0)) (.int 108)).before args s = true := (hs _ (List.mem_of_getElem? (i := 83) (by rfl)))
  have e1 : (Cond.eq (.elem (.field (Term.string "SaysBath$Reader" 81) "java/lang/String" "value" "[B") (.int 1)) (.int 97)).before args s = true := (hs _ (List.mem_of_getElem? (i := 84) (by rfl)))
  have e2 : (Cond.eq (.elem (.field (Term.string "SaysBath$Reader" 81) "java/lang/String" "value" "[B") (.int 2)) (.int 119)).before args s = true := (hs _ (List.mem_of_getElem? (i := 85) (by rfl)))
  have g1 : ∀ i : Nat, i < 1 → ([litN.getD 8 0] : List Nat).getD i 0 < 2 ^ 31 := by
    intro i hi
    have e9 : i = 0 := by omega
    subst e9
    decide
  have g2 : ∀ i : Nat, i < 1 → (Cond.eq (.length (.field (Term.string "SaysBath$Reader" 81) "java/lang/String" "value" "[B")) (.int (Int32.ofNat (([litN.getD 8 0] : List Nat).getD i 0)))).before args s = true := by
    intro i hi
    have e9 : i = 0 := by omega
    subst e9
    exact c4
  have g3 : ∀ i : Nat, i < 1 → ∀ j : Nat, j < ([litN.getD 8 0] : List Nat).getD i 0 → (Cond.eq (.elem (.field (Term.string "SaysBath$Reader" 81) "java/lang/String" "value" "[B") (.int (Int32.ofNat j))) (.int ((([litS.getD 8 []] : List (List Int32)).getD i []).getD j 0))).before args s = true := by
    intro i hi j hj
    have e9 : i = 0 := by omega
    subst e9
    have hj : j < 3 := hj
    match j, hj with
    | 0, _ => exact e0
    | 1, _ => exact e1
    | 2, _ => exact e2
    | n + 3, h => exact absurd h (by omega)
  obtain ⟨ak, av, h1, h2⟩ := vk_Sof (args := args) (s := s) (N := 1) (tm := fun _ => Term.string "SaysBath$Reader" 81) (len := [litN.getD 8 0]) (byt := [litS.getD 8 []]) (A := A) g1 (fun _ _ => c1) (fun _ _ => c2) (fun _ _ => c3) g2 g3 (fun i j hi hj hij => absurd (show i = j by omega) hij) hA
  have q1 := h2 0 (by decide)
  refine ⟨ak 0, av 0, ⟨fun i hi => ?_, fun i j hi hj _ => by omega⟩, q1, va_eqR c5 q1⟩
  have e : i = 0 := by omega
  subst e
  exact h1.1 0 (by decide)
set_option maxRecDepth 100000 in
theorem tx_9 {args : Array Value} {s : State} {A : Nat → Prop} (hs : ∀ w ∈ flN, w.before args s = true) (hA : ∀ a : Nat, a < s.heap.size → ¬ A a) : ∃ a v : Nat, vk_S 1 [litN.getD 9 0] [litS.getD 9 []] (fun _ => a) (fun _ => v) A s s.heap ∧ (Term.string "SaysBath$Reader" 151).eval args s none [] s = some (.ref a) ∧ (Term.string "SaysBathModel" 175).eval args s none [] s = some (.ref a) := by
  have c1 : (Cond.exactly (Term.string "SaysBath$Reader" 151) "java/lang/String").before args s = true := (hs _ (List.mem_of_getElem? (i := 86) (by rfl)))
  have c2 : (Cond.eq (.field (Term.string "SaysBath$Reader" 151) "java/lang/String" "coder" "B") (.int 0)).before args s = true := (hs _ (List.mem_of_getElem? (i := 87) (by rfl)))
  have c3 : (Cond.arrayOf (.field (Term.string "SaysBath$Reader" 151) "java/lang/String" "value" "[B") .byte).before args s = true := (hs _ (List.mem_of_getElem? (i := 88) (by rfl)))
  have c4 : (Cond.eq (.length (.field (Term.string "SaysBath$Reader" 151) "java/lang/String" "value" "[B")) (.int 2)).before args s = true := (hs _ (List.mem_of_getElem? (i := 89) (by rfl)))
  have c5 : (Cond.eq (Term.string "SaysBath$Reader" 151) (Term.string "SaysBathModel" 175)).before args s = true := (hs _ (List.mem_of_getElem? (i := 264) (by rfl)))
  have e0 : (Cond.eq (.elem (.field (Term.string "SaysBath$Reader" 151) "java/lang/String" "value" "[B") (.int 0)) (.int 116)).before args s = true := (hs _ (List.mem_of_getElem? (i := 90) (by rfl)))
  have e1 : (Cond.eq (.elem (.field (Term.string "SaysBath$Reader" 151) "java/lang/String" "value" "[B") (.int 1)) (.int 111)).before args s = true := (hs _ (List.mem_of_getElem? (i := 91) (by rfl)))
  have g1 : ∀ i : Nat, i < 1 → ([litN.getD 9 0] : List Nat).getD i 0 < 2 ^ 31 := by
    intro i hi
    have e9 : i = 0 := by omega
    subst e9
    decide
  have g2 : ∀ i : Nat, i < 1 → (Cond.eq (.length (.field (Term.string "SaysBath$Reader" 151) "java/lang/String" "value" "[B")) (.int (Int32.ofNat (([litN.getD 9 0] : List Nat).getD i 0)))).before args s = true := by
    intro i hi
    have e9 : i = 0 := by omega
    subst e9
    exact c4
  have g3 : ∀ i : Nat, i < 1 → ∀ j : Nat, j < ([litN.getD 9 0] : List Nat).getD i 0 → (Cond.eq (.elem (.field (Term.string "SaysBath$Reader" 151) "java/lang/String" "value" "[B") (.int (Int32.ofNat j))) (.int ((([litS.getD 9 []] : List (List Int32)).getD i []).getD j 0))).before args s = true := by
    intro i hi j hj
    have e9 : i = 0 := by omega
    subst e9
    have hj : j < 2 := hj
    match j, hj with
    | 0, _ => exact e0
    | 1, _ => exact e1
    | n + 2, h => exact absurd h (by omega)
  obtain ⟨ak, av, h1, h2⟩ := vk_Sof (args := args) (s := s) (N := 1) (tm := fun _ => Term.string "SaysBath$Reader" 151) (len := [litN.getD 9 0]) (byt := [litS.getD 9 []]) (A := A) g1 (fun _ _ => c1) (fun _ _ => c2) (fun _ _ => c3) g2 g3 (fun i j hi hj hij => absurd (show i = j by omega) hij) hA
  have q1 := h2 0 (by decide)
  refine ⟨ak 0, av 0, ⟨fun i hi => ?_, fun i j hi hj _ => by omega⟩, q1, va_eqR c5 q1⟩
  have e : i = 0 := by omega
  subst e
  exact h1.1 0 (by decide)
set_option maxRecDepth 100000 in
theorem tx_10 {args : Array Value} {s : State} {A : Nat → Prop} (hs : ∀ w ∈ flN, w.before args s = true) (hA : ∀ a : Nat, a < s.heap.size → ¬ A a) : ∃ a v : Nat, vk_S 1 [litN.getD 10 0] [litS.getD 10 []] (fun _ => a) (fun _ => v) A s s.heap ∧ (Term.string "SaysBath$Reader" 153).eval args s none [] s = some (.ref a) ∧ (Term.string "SaysBathModel" 177).eval args s none [] s = some (.ref a) := by
  have c1 : (Cond.exactly (Term.string "SaysBath$Reader" 153) "java/lang/String").before args s = true := (hs _ (List.mem_of_getElem? (i := 92) (by rfl)))
  have c2 : (Cond.eq (.field (Term.string "SaysBath$Reader" 153) "java/lang/String" "coder" "B") (.int 0)).before args s = true := (hs _ (List.mem_of_getElem? (i := 93) (by rfl)))
  have c3 : (Cond.arrayOf (.field (Term.string "SaysBath$Reader" 153) "java/lang/String" "value" "[B") .byte).before args s = true := (hs _ (List.mem_of_getElem? (i := 94) (by rfl)))
  have c4 : (Cond.eq (.length (.field (Term.string "SaysBath$Reader" 153) "java/lang/String" "value" "[B")) (.int 2)).before args s = true := (hs _ (List.mem_of_getElem? (i := 95) (by rfl)))
  have c5 : (Cond.eq (Term.string "SaysBath$Reader" 153) (Term.string "SaysBathModel" 177)).before args s = true := (hs _ (List.mem_of_getElem? (i := 271) (by rfl)))
  have e0 : (Cond.eq (.elem (.field (Term.string "SaysBath$Reader" 153) "java/lang/String" "value" "[B") (.int 0)) (.int 105)).before args s = true := (hs _ (List.mem_of_getElem? (i := 96) (by rfl)))
  have e1 : (Cond.eq (.elem (.field (Term.string "SaysBath$Reader" 153) "java/lang/String" "value" "[B") (.int 1)) (.int 102)).before args s = true := (hs _ (List.mem_of_getElem? (i := 97) (by rfl)))
  have g1 : ∀ i : Nat, i < 1 → ([litN.getD 10 0] : List Nat).getD i 0 < 2 ^ 31 := by
    intro i hi
    have e9 : i = 0 := by omega
    subst e9
    decide
  have g2 : ∀ i : Nat, i < 1 → (Cond.eq (.length (.field (Term.string "SaysBath$Reader" 153) "java/lang/String" "value" "[B")) (.int (Int32.ofNat (([litN.getD 10 0] : List Nat).getD i 0)))).before args s = true := by
    intro i hi
    have e9 : i = 0 := by omega
    subst e9
    exact c4
  have g3 : ∀ i : Nat, i < 1 → ∀ j : Nat, j < ([litN.getD 10 0] : List Nat).getD i 0 → (Cond.eq (.elem (.field (Term.string "SaysBath$Reader" 153) "java/lang/String" "value" "[B") (.int (Int32.ofNat j))) (.int ((([litS.getD 10 []] : List (List Int32)).getD i []).getD j 0))).before args s = true := by
    intro i hi j hj
    have e9 : i = 0 := by omega
    subst e9
    have hj : j < 2 := hj
    match j, hj with
    | 0, _ => exact e0
    | 1, _ => exact e1
    | n + 2, h => exact absurd h (by omega)
  obtain ⟨ak, av, h1, h2⟩ := vk_Sof (args := args) (s := s) (N := 1) (tm := fun _ => Term.string "SaysBath$Reader" 153) (len := [litN.getD 10 0]) (byt := [litS.getD 10 []]) (A := A) g1 (fun _ _ => c1) (fun _ _ => c2) (fun _ _ => c3) g2 g3 (fun i j hi hj hij => absurd (show i = j by omega) hij) hA
  have q1 := h2 0 (by decide)
  refine ⟨ak 0, av 0, ⟨fun i hi => ?_, fun i j hi hj _ => by omega⟩, q1, va_eqR c5 q1⟩
  have e : i = 0 := by omega
  subst e
  exact h1.1 0 (by decide)
set_option maxRecDepth 100000 in
theorem tx_11 {args : Array Value} {s : State} {A : Nat → Prop} (hs : ∀ w ∈ flN, w.before args s = true) (hA : ∀ a : Nat, a < s.heap.size → ¬ A a) : ∃ a v : Nat, vk_S 1 [litN.getD 11 0] [litS.getD 11 []] (fun _ => a) (fun _ => v) A s s.heap ∧ (Term.string "SaysBath$Reader" 181).eval args s none [] s = some (.ref a) ∧ (Term.string "SaysBathModel" 158).eval args s none [] s = some (.ref a) := by
  have c1 : (Cond.exactly (Term.string "SaysBath$Reader" 181) "java/lang/String").before args s = true := (hs _ (List.mem_of_getElem? (i := 98) (by rfl)))
  have c2 : (Cond.eq (.field (Term.string "SaysBath$Reader" 181) "java/lang/String" "coder" "B") (.int 0)).before args s = true := (hs _ (List.mem_of_getElem? (i := 99) (by rfl)))
  have c3 : (Cond.arrayOf (.field (Term.string "SaysBath$Reader" 181) "java/lang/String" "value" "[B") .byte).before args s = true := (hs _ (List.mem_of_getElem? (i := 100) (by rfl)))
  have c4 : (Cond.eq (.length (.field (Term.string "SaysBath$Reader" 181) "java/lang/String" "value" "[B")) (.int 4)).before args s = true := (hs _ (List.mem_of_getElem? (i := 101) (by rfl)))
  have c5 : (Cond.eq (Term.string "SaysBath$Reader" 181) (Term.string "SaysBathModel" 158)).before args s = true := (hs _ (List.mem_of_getElem? (i := 280) (by rfl)))
  have e0 : (Cond.eq (.elem (.field (Term.string "SaysBath$Reader" 181) "java/lang/String" "value" "[B") (.int 0)) (.int 110)).before args s = true := (hs _ (List.mem_of_getElem? (i := 102) (by rfl)))
  have e1 : (Cond.eq (.elem (.field (Term.string "SaysBath$Reader" 181) "java/lang/String" "value" "[B") (.int 1)) (.int 101)).before args s = true := (hs _ (List.mem_of_getElem? (i := 103) (by rfl)))
  have e2 : (Cond.eq (.elem (.field (Term.string "SaysBath$Reader" 181) "java/lang/String" "value" "[B") (.int 2)) (.int 97)).before args s = true := (hs _ (List.mem_of_getElem? (i := 104) (by rfl)))
  have e3 : (Cond.eq (.elem (.field (Term.string "SaysBath$Reader" 181) "java/lang/String" "value" "[B") (.int 3)) (.int 114)).before args s = true := (hs _ (List.mem_of_getElem? (i := 105) (by rfl)))
  have g1 : ∀ i : Nat, i < 1 → ([litN.getD 11 0] : List Nat).getD i 0 < 2 ^ 31 := by
    intro i hi
    have e9 : i = 0 := by omega
    subst e9
    decide
  have g2 : ∀ i : Nat, i < 1 → (Cond.eq (.length (.field (Term.string "SaysBath$Reader" 181) "java/lang/String" "value" "[B")) (.int (Int32.ofNat (([litN.getD 11 0] : List Nat).getD i 0)))).before args s = true := by
    intro i hi
    have e9 : i = 0 := by omega
    subst e9
    exact c4
  have g3 : ∀ i : Nat, i < 1 → ∀ j : Nat, j < ([litN.getD 11 0] : List Nat).getD i 0 → (Cond.eq (.elem (.field (Term.string "SaysBath$Reader" 181) "java/lang/String" "value" "[B") (.int (Int32.ofNat j))) (.int ((([litS.getD 11 []] : List (List Int32)).getD i []).getD j 0))).before args s = true := by
    intro i hi j hj
    have e9 : i = 0 := by omega
    subst e9
    have hj : j < 4 := hj
    match j, hj with
    | 0, _ => exact e0
    | 1, _ => exact e1
    | 2, _ => exact e2
    | 3, _ => exact e3
    | n + 4, h => exact absurd h (by omega)
  obtain ⟨ak, av, h1, h2⟩ := vk_Sof (args := args) (s := s) (N := 1) (tm := fun _ => Term.string "SaysBath$Reader" 181) (len := [litN.getD 11 0]) (byt := [litS.getD 11 []]) (A := A) g1 (fun _ _ => c1) (fun _ _ => c2) (fun _ _ => c3) g2 g3 (fun i j hi hj hij => absurd (show i = j by omega) hij) hA
  have q1 := h2 0 (by decide)
  refine ⟨ak 0, av 0, ⟨fun i hi => ?_, fun i j hi hj _ => by omega⟩, q1, va_eqR c5 q1⟩
  have e : i = 0 := by omega
  subst e
  exact h1.1 0 (by decide)
set_option maxRecDepth 100000 in
theorem tx_12 {args : Array Value} {s : State} {A : Nat → Prop} (hs : ∀ w ∈ flN, w.before args s = true) (hA : ∀ a : Nat, a < s.heap.size → ¬ A a) : ∃ a v : Nat, vk_S 1 [litN.getD 12 0] [litS.getD 12 []] (fun _ => a) (fun _ => v) A s s.heap ∧ (Term.string "SaysBath$Reader" 186).eval args s none [] s = some (.ref a) ∧ (Term.string "SaysBathModel" 160).eval args s none [] s = some (.ref a) := by
  have c1 : (Cond.exactly (Term.string "SaysBath$Reader" 186) "java/lang/String").before args s = true := (hs _ (List.mem_of_getElem? (i := 106) (by rfl)))
  have c2 : (Cond.eq (.field (Term.string "SaysBath$Reader" 186) "java/lang/String" "coder" "B") (.int 0)).before args s = true := (hs _ (List.mem_of_getElem? (i := 107) (by rfl)))
  have c3 : (Cond.arrayOf (.field (Term.string "SaysBath$Reader" 186) "java/lang/String" "value" "[B") .byte).before args s = true := (hs _ (List.mem_of_getElem? (i := 108) (by rfl)))
  have c4 : (Cond.eq (.length (.field (Term.string "SaysBath$Reader" 186) "java/lang/String" "value" "[B")) (.int 4)).before args s = true := (hs _ (List.mem_of_getElem? (i := 109) (by rfl)))
  have c5 : (Cond.eq (Term.string "SaysBath$Reader" 186) (Term.string "SaysBathModel" 160)).before args s = true := (hs _ (List.mem_of_getElem? (i := 289) (by rfl)))
  have e0 : (Cond.eq (.elem (.field (Term.string "SaysBath$Reader" 186) "java/lang/String" "value" "[B") (.int 0)) (.int 109)).before args s = true := (hs _ (List.mem_of_getElem? (i := 110) (by rfl)))
  have e1 : (Cond.eq (.elem (.field (Term.string "SaysBath$Reader" 186) "java/lang/String" "value" "[B") (.int 1)) (.int 97)).before args s = true := (hs _ (List.mem_of_getElem? (i := 111) (by rfl)))
  have e2 : (Cond.eq (.elem (.field (Term.string "SaysBath$Reader" 186) "java/lang/String" "value" "[B") (.int 2)) (.int 115)).before args s = true := (hs _ (List.mem_of_getElem? (i := 112) (by rfl)))
  have e3 : (Cond.eq (.elem (.field (Term.string "SaysBath$Reader" 186) "java/lang/String" "value" "[B") (.int 3)) (.int 115)).before args s = true := (hs _ (List.mem_of_getElem? (i := 113) (by rfl)))
  have g1 : ∀ i : Nat, i < 1 → ([litN.getD 12 0] : List Nat).getD i 0 < 2 ^ 31 := by
    intro i hi
    have e9 : i = 0 := by omega
    subst e9
    decide
  have g2 : ∀ i : Nat, i < 1 → (Cond.eq (.length (.field (Term.string "SaysBath$Reader" 186) "java/lang/String" "value" "[B")) (.int (Int32.ofNat (([litN.getD 12 0] : List Nat).getD i 0)))).before args s = true := by
    intro i hi
    have e9 : i = 0 := by omega
    subst e9
    exact c4
  have g3 : ∀ i : Nat, i < 1 → ∀ j : Nat, j < ([litN.getD 12 0] : List Nat).getD i 0 → (Cond.eq (.elem (.field (Term.string "SaysBath$Reader" 186) "java/lang/String" "value" "[B") (.int (Int32.ofNat j))) (.int ((([litS.getD 12 []] : List (List Int32)).getD i []).getD j 0))).before args s = true := by
    intro i hi j hj
    have e9 : i = 0 := by omega
    subst e9
    have hj : j < 4 := hj
    match j, hj with
    | 0, _ => exact e0
    | 1, _ => exact e1
    | 2, _ => exact e2
    | 3, _ => exact e3
    | n + 4, h => exact absurd h (by omega)
  obtain ⟨ak, av, h1, h2⟩ := vk_Sof (args := args) (s := s) (N := 1) (tm := fun _ => Term.string "SaysBath$Reader" 186) (len := [litN.getD 12 0]) (byt := [litS.getD 12 []]) (A := A) g1 (fun _ _ => c1) (fun _ _ => c2) (fun _ _ => c3) g2 g3 (fun i j hi hj hij => absurd (show i = j by omega) hij) hA
  have q1 := h2 0 (by decide)
  refine ⟨ak 0, av 0, ⟨fun i hi => ?_, fun i j hi hj _ => by omega⟩, q1, va_eqR c5 q1⟩
  have e : i = 0 := by omega
  subst e
  exact h1.1 0 (by decide)
set_option maxRecDepth 100000 in
theorem tx_13 {args : Array Value} {s : State} {A : Nat → Prop} (hs : ∀ w ∈ flN, w.before args s = true) (hA : ∀ a : Nat, a < s.heap.size → ¬ A a) : ∃ a v : Nat, vk_S 1 [litN.getD 13 0] [litS.getD 13 []] (fun _ => a) (fun _ => v) A s s.heap ∧ (Term.string "SaysBath$Reader" 188).eval args s none [] s = some (.ref a) ∧ (Term.string "SaysBathModel" 163).eval args s none [] s = some (.ref a) := by
  have c1 : (Cond.exactly (Term.string "SaysBath$Reader" 188) "java/lang/String").before args s = true := (hs _ (List.mem_of_getElem? (i := 114) (by rfl)))
  have c2 : (Cond.eq (.field (Term.string "SaysBath$Reader" 188) "java/lang/String" "coder" "B") (.int 0)).before args s = true := (hs _ (List.mem_of_getElem? (i := 115) (by rfl)))
  have c3 : (Cond.arrayOf (.field (Term.string "SaysBath$Reader" 188) "java/lang/String" "value" "[B") .byte).before args s = true := (hs _ (List.mem_of_getElem? (i := 116) (by rfl)))
  have c4 : (Cond.eq (.length (.field (Term.string "SaysBath$Reader" 188) "java/lang/String" "value" "[B")) (.int 4)).before args s = true := (hs _ (List.mem_of_getElem? (i := 117) (by rfl)))
  have c5 : (Cond.eq (Term.string "SaysBath$Reader" 188) (Term.string "SaysBathModel" 163)).before args s = true := (hs _ (List.mem_of_getElem? (i := 298) (by rfl)))
  have e0 : (Cond.eq (.elem (.field (Term.string "SaysBath$Reader" 188) "java/lang/String" "value" "[B") (.int 0)) (.int 121)).before args s = true := (hs _ (List.mem_of_getElem? (i := 118) (by rfl)))
  have e1 : (Cond.eq (.elem (.field (Term.string "SaysBath$Reader" 188) "java/lang/String" "value" "[B") (.int 1)) (.int 101)).before args s = true := (hs _ (List.mem_of_getElem? (i := 119) (by rfl)))
  have e2 : (Cond.eq (.elem (.field (Term.string "SaysBath$Reader" 188) "java/lang/String" "value" "[B") (.int 2)) (.int 97)).before args s = true := (hs _ (List.mem_of_getElem? (i := 120) (by rfl)))
  have e3 : (Cond.eq (.elem (.field (Term.string "SaysBath$Reader" 188) "java/lang/String" "value" "[B") (.int 3)) (.int 114)).before args s = true := (hs _ (List.mem_of_getElem? (i := 121) (by rfl)))
  have g1 : ∀ i : Nat, i < 1 → ([litN.getD 13 0] : List Nat).getD i 0 < 2 ^ 31 := by
    intro i hi
    have e9 : i = 0 := by omega
    subst e9
    decide
  have g2 : ∀ i : Nat, i < 1 → (Cond.eq (.length (.field (Term.string "SaysBath$Reader" 188) "java/lang/String" "value" "[B")) (.int (Int32.ofNat (([litN.getD 13 0] : List Nat).getD i 0)))).before args s = true := by
    intro i hi
    have e9 : i = 0 := by omega
    subst e9
    exact c4
  have g3 : ∀ i : Nat, i < 1 → ∀ j : Nat, j < ([litN.getD 13 0] : List Nat).getD i 0 → (Cond.eq (.elem (.field (Term.string "SaysBath$Reader" 188) "java/lang/String" "value" "[B") (.int (Int32.ofNat j))) (.int ((([litS.getD 13 []] : List (List Int32)).getD i []).getD j 0))).before args s = true := by
    intro i hi j hj
    have e9 : i = 0 := by omega
    subst e9
    have hj : j < 4 := hj
    match j, hj with
    | 0, _ => exact e0
    | 1, _ => exact e1
    | 2, _ => exact e2
    | 3, _ => exact e3
    | n + 4, h => exact absurd h (by omega)
  obtain ⟨ak, av, h1, h2⟩ := vk_Sof (args := args) (s := s) (N := 1) (tm := fun _ => Term.string "SaysBath$Reader" 188) (len := [litN.getD 13 0]) (byt := [litS.getD 13 []]) (A := A) g1 (fun _ _ => c1) (fun _ _ => c2) (fun _ _ => c3) g2 g3 (fun i j hi hj hij => absurd (show i = j by omega) hij) hA
  have q1 := h2 0 (by decide)
  refine ⟨ak 0, av 0, ⟨fun i hi => ?_, fun i j hi hj _ => by omega⟩, q1, va_eqR c5 q1⟩
  have e : i = 0 := by omega
  subst e
  exact h1.1 0 (by decide)
set_option maxRecDepth 100000 in
theorem tx_14 {args : Array Value} {s : State} {A : Nat → Prop} (hs : ∀ w ∈ flN, w.before args s = true) (hA : ∀ a : Nat, a < s.heap.size → ¬ A a) : ∃ a v : Nat, vk_S 1 [litN.getD 14 0] [litS.getD 14 []] (fun _ => a) (fun _ => v) A s s.heap ∧ (Term.string "SaysBath$Reader" 175).eval args s none [] s = some (.ref a) ∧ (Term.string "SaysBathModel" 173).eval args s none [] s = some (.ref a) := by
  have c1 : (Cond.exactly (Term.string "SaysBath$Reader" 175) "java/lang/String").before args s = true := (hs _ (List.mem_of_getElem? (i := 122) (by rfl)))
  have c2 : (Cond.eq (.field (Term.string "SaysBath$Reader" 175) "java/lang/String" "coder" "B") (.int 0)).before args s = true := (hs _ (List.mem_of_getElem? (i := 123) (by rfl)))
  have c3 : (Cond.arrayOf (.field (Term.string "SaysBath$Reader" 175) "java/lang/String" "value" "[B") .byte).before args s = true := (hs _ (List.mem_of_getElem? (i := 124) (by rfl)))
  have c4 : (Cond.eq (.length (.field (Term.string "SaysBath$Reader" 175) "java/lang/String" "value" "[B")) (.int 5)).before args s = true := (hs _ (List.mem_of_getElem? (i := 125) (by rfl)))
  have c5 : (Cond.eq (Term.string "SaysBath$Reader" 175) (Term.string "SaysBathModel" 173)).before args s = true := (hs _ (List.mem_of_getElem? (i := 327) (by rfl)))
  have e0 : (Cond.eq (.elem (.field (Term.string "SaysBath$Reader" 175) "java/lang/String" "value" "[B") (.int 0)) (.int 116)).before args s = true := (hs _ (List.mem_of_getElem? (i := 126) (by rfl)))
  have e1 : (Cond.eq (.elem (.field (Term.string "SaysBath$Reader" 175) "java/lang/String" "value" "[B") (.int 1)) (.int 105)).before args s = true := (hs _ (List.mem_of_getElem? (i := 127) (by rfl)))
  have e2 : (Cond.eq (.elem (.field (Term.string "SaysBath$Reader" 175) "java/lang/String" "value" "[B") (.int 2)) (.int 109)).before args s = true := (hs _ (List.mem_of_getElem? (i := 128) (by rfl)))
  have e3 : (Cond.eq (.elem (.field (Term.string "SaysBath$Reader" 175) "java/lang/String" "value" "[B") (.int 3)) (.int 101)).before args s = true := (hs _ (List.mem_of_getElem? (i := 129) (by rfl)))
  have e4 : (Cond.eq (.elem (.field (Term.string "SaysBath$Reader" 175) "java/lang/String" "value" "[B") (.int 4)) (.int 115)).before args s = true := (hs _ (List.mem_of_getElem? (i := 130) (by rfl)))
  have g1 : ∀ i : Nat, i < 1 → ([litN.getD 14 0] : List Nat).getD i 0 < 2 ^ 31 := by
    intro i hi
    have e9 : i = 0 := by omega
    subst e9
    decide
  have g2 : ∀ i : Nat, i < 1 → (Cond.eq (.length (.field (Term.string "SaysBath$Reader" 175) "java/lang/String" "value" "[B")) (.int (Int32.ofNat (([litN.getD 14 0] : List Nat).getD i 0)))).before args s = true := by
    intro i hi
    have e9 : i = 0 := by omega
    subst e9
    exact c4
  have g3 : ∀ i : Nat, i < 1 → ∀ j : Nat, j < ([litN.getD 14 0] : List Nat).getD i 0 → (Cond.eq (.elem (.field (Term.string "SaysBath$Reader" 175) "java/lang/String" "value" "[B") (.int (Int32.ofNat j))) (.int ((([litS.getD 14 []] : List (List Int32)).getD i []).getD j 0))).before args s = true := by
    intro i hi j hj
    have e9 : i = 0 := by omega
    subst e9
    have hj : j < 5 := hj
    match j, hj with
    | 0, _ => exact e0
    | 1, _ => exact e1
    | 2, _ => exact e2
    | 3, _ => exact e3
    | 4, _ => exact e4
    | n + 5, h => exact absurd h (by omega)
  obtain ⟨ak, av, h1, h2⟩ := vk_Sof (args := args) (s := s) (N := 1) (tm := fun _ => Term.string "SaysBath$Reader" 175) (len := [litN.getD 14 0]) (byt := [litS.getD 14 []]) (A := A) g1 (fun _ _ => c1) (fun _ _ => c2) (fun _ _ => c3) g2 g3 (fun i j hi hj hij => absurd (show i = j by omega) hij) hA
  have q1 := h2 0 (by decide)
  refine ⟨ak 0, av 0, ⟨fun i hi => ?_, fun i j hi hj _ => by omega⟩, q1, va_eqR c5 q1⟩
  have e : i = 0 := by omega
  subst e
  exact h1.1 0 (by decide)
set_option maxRecDepth 100000 in
theorem tx_15 {args : Array Value} {s : State} {A : Nat → Prop} (hs : ∀ w ∈ flN, w.before args s = true) (hA : ∀ a : Nat, a < s.heap.size → ¬ A a) : ∃ a v : Nat, vk_S 1 [litN.getD 15 0] [litS.getD 15 []] (fun _ => a) (fun _ => v) A s s.heap ∧ (Term.string "SaysBath$Reader" 177).eval args s none [] s = some (.ref a) ∧ (Term.string "SaysBathModel" 169).eval args s none [] s = some (.ref a) := by
  have c1 : (Cond.exactly (Term.string "SaysBath$Reader" 177) "java/lang/String").before args s = true := (hs _ (List.mem_of_getElem? (i := 131) (by rfl)))
  have c2 : (Cond.eq (.field (Term.string "SaysBath$Reader" 177) "java/lang/String" "coder" "B") (.int 0)).before args s = true := (hs _ (List.mem_of_getElem? (i := 132) (by rfl)))
  have c3 : (Cond.arrayOf (.field (Term.string "SaysBath$Reader" 177) "java/lang/String" "value" "[B") .byte).before args s = true := (hs _ (List.mem_of_getElem? (i := 133) (by rfl)))
  have c4 : (Cond.eq (.length (.field (Term.string "SaysBath$Reader" 177) "java/lang/String" "value" "[B")) (.int 4)).before args s = true := (hs _ (List.mem_of_getElem? (i := 134) (by rfl)))
  have c5 : (Cond.eq (Term.string "SaysBath$Reader" 177) (Term.string "SaysBathModel" 169)).before args s = true := (hs _ (List.mem_of_getElem? (i := 307) (by rfl)))
  have e0 : (Cond.eq (.elem (.field (Term.string "SaysBath$Reader" 177) "java/lang/String" "value" "[B") (.int 0)) (.int 112)).before args s = true := (hs _ (List.mem_of_getElem? (i := 135) (by rfl)))
  have e1 : (Cond.eq (.elem (.field (Term.string "SaysBath$Reader" 177) "java/lang/String" "value" "[B") (.int 1)) (.int 108)).before args s = true := (hs _ (List.mem_of_getElem? (i := 136) (by rfl)))
  have e2 : (Cond.eq (.elem (.field (Term.string "SaysBath$Reader" 177) "java/lang/String" "value" "[B") (.int 2)) (.int 117)).before args s = true := (hs _ (List.mem_of_getElem? (i := 137) (by rfl)))
  have e3 : (Cond.eq (.elem (.field (Term.string "SaysBath$Reader" 177) "java/lang/String" "value" "[B") (.int 3)) (.int 115)).before args s = true := (hs _ (List.mem_of_getElem? (i := 138) (by rfl)))
  have g1 : ∀ i : Nat, i < 1 → ([litN.getD 15 0] : List Nat).getD i 0 < 2 ^ 31 := by
    intro i hi
    have e9 : i = 0 := by omega
    subst e9
    decide
  have g2 : ∀ i : Nat, i < 1 → (Cond.eq (.length (.field (Term.string "SaysBath$Reader" 177) "java/lang/String" "value" "[B")) (.int (Int32.ofNat (([litN.getD 15 0] : List Nat).getD i 0)))).before args s = true := by
    intro i hi
    have e9 : i = 0 := by omega
    subst e9
    exact c4
  have g3 : ∀ i : Nat, i < 1 → ∀ j : Nat, j < ([litN.getD 15 0] : List Nat).getD i 0 → (Cond.eq (.elem (.field (Term.string "SaysBath$Reader" 177) "java/lang/String" "value" "[B") (.int (Int32.ofNat j))) (.int ((([litS.getD 15 []] : List (List Int32)).getD i []).getD j 0))).before args s = true := by
    intro i hi j hj
    have e9 : i = 0 := by omega
    subst e9
    have hj : j < 4 := hj
    match j, hj with
    | 0, _ => exact e0
    | 1, _ => exact e1
    | 2, _ => exact e2
    | 3, _ => exact e3
    | n + 4, h => exact absurd h (by omega)
  obtain ⟨ak, av, h1, h2⟩ := vk_Sof (args := args) (s := s) (N := 1) (tm := fun _ => Term.string "SaysBath$Reader" 177) (len := [litN.getD 15 0]) (byt := [litS.getD 15 []]) (A := A) g1 (fun _ _ => c1) (fun _ _ => c2) (fun _ _ => c3) g2 g3 (fun i j hi hj hij => absurd (show i = j by omega) hij) hA
  have q1 := h2 0 (by decide)
  refine ⟨ak 0, av 0, ⟨fun i hi => ?_, fun i j hi hj _ => by omega⟩, q1, va_eqR c5 q1⟩
  have e : i = 0 := by omega
  subst e
  exact h1.1 0 (by decide)
set_option maxRecDepth 100000 in
theorem tx_16 {args : Array Value} {s : State} {A : Nat → Prop} (hs : ∀ w ∈ flN, w.before args s = true) (hA : ∀ a : Nat, a < s.heap.size → ¬ A a) : ∃ a v : Nat, vk_S 1 [litN.getD 16 0] [litS.getD 16 []] (fun _ => a) (fun _ => v) A s s.heap ∧ (Term.string "SaysBath$Reader" 179).eval args s none [] s = some (.ref a) ∧ (Term.string "SaysBathModel" 171).eval args s none [] s = some (.ref a) := by
  have c1 : (Cond.exactly (Term.string "SaysBath$Reader" 179) "java/lang/String").before args s = true := (hs _ (List.mem_of_getElem? (i := 139) (by rfl)))
  have c2 : (Cond.eq (.field (Term.string "SaysBath$Reader" 179) "java/lang/String" "coder" "B") (.int 0)).before args s = true := (hs _ (List.mem_of_getElem? (i := 140) (by rfl)))
  have c3 : (Cond.arrayOf (.field (Term.string "SaysBath$Reader" 179) "java/lang/String" "value" "[B") .byte).before args s = true := (hs _ (List.mem_of_getElem? (i := 141) (by rfl)))
  have c4 : (Cond.eq (.length (.field (Term.string "SaysBath$Reader" 179) "java/lang/String" "value" "[B")) (.int 5)).before args s = true := (hs _ (List.mem_of_getElem? (i := 142) (by rfl)))
  have c5 : (Cond.eq (Term.string "SaysBath$Reader" 179) (Term.string "SaysBathModel" 171)).before args s = true := (hs _ (List.mem_of_getElem? (i := 317) (by rfl)))
  have e0 : (Cond.eq (.elem (.field (Term.string "SaysBath$Reader" 179) "java/lang/String" "value" "[B") (.int 0)) (.int 109)).before args s = true := (hs _ (List.mem_of_getElem? (i := 143) (by rfl)))
  have e1 : (Cond.eq (.elem (.field (Term.string "SaysBath$Reader" 179) "java/lang/String" "value" "[B") (.int 1)) (.int 105)).before args s = true := (hs _ (List.mem_of_getElem? (i := 144) (by rfl)))
  have e2 : (Cond.eq (.elem (.field (Term.string "SaysBath$Reader" 179) "java/lang/String" "value" "[B") (.int 2)) (.int 110)).before args s = true := (hs _ (List.mem_of_getElem? (i := 145) (by rfl)))
  have e3 : (Cond.eq (.elem (.field (Term.string "SaysBath$Reader" 179) "java/lang/String" "value" "[B") (.int 3)) (.int 117)).before args s = true := (hs _ (List.mem_of_getElem? (i := 146) (by rfl)))
  have e4 : (Cond.eq (.elem (.field (Term.string "SaysBath$Reader" 179) "java/lang/String" "value" "[B") (.int 4)) (.int 115)).before args s = true := (hs _ (List.mem_of_getElem? (i := 147) (by rfl)))
  have g1 : ∀ i : Nat, i < 1 → ([litN.getD 16 0] : List Nat).getD i 0 < 2 ^ 31 := by
    intro i hi
    have e9 : i = 0 := by omega
    subst e9
    decide
  have g2 : ∀ i : Nat, i < 1 → (Cond.eq (.length (.field (Term.string "SaysBath$Reader" 179) "java/lang/String" "value" "[B")) (.int (Int32.ofNat (([litN.getD 16 0] : List Nat).getD i 0)))).before args s = true := by
    intro i hi
    have e9 : i = 0 := by omega
    subst e9
    exact c4
  have g3 : ∀ i : Nat, i < 1 → ∀ j : Nat, j < ([litN.getD 16 0] : List Nat).getD i 0 → (Cond.eq (.elem (.field (Term.string "SaysBath$Reader" 179) "java/lang/String" "value" "[B") (.int (Int32.ofNat j))) (.int ((([litS.getD 16 []] : List (List Int32)).getD i []).getD j 0))).before args s = true := by
    intro i hi j hj
    have e9 : i = 0 := by omega
    subst e9
    have hj : j < 5 := hj
    match j, hj with
    | 0, _ => exact e0
    | 1, _ => exact e1
    | 2, _ => exact e2
    | 3, _ => exact e3
    | 4, _ => exact e4
    | n + 5, h => exact absurd h (by omega)
  obtain ⟨ak, av, h1, h2⟩ := vk_Sof (args := args) (s := s) (N := 1) (tm := fun _ => Term.string "SaysBath$Reader" 179) (len := [litN.getD 16 0]) (byt := [litS.getD 16 []]) (A := A) g1 (fun _ _ => c1) (fun _ _ => c2) (fun _ _ => c3) g2 g3 (fun i j hi hj hij => absurd (show i = j by omega) hij) hA
  have q1 := h2 0 (by decide)
  refine ⟨ak 0, av 0, ⟨fun i hi => ?_, fun i j hi hj _ => by omega⟩, q1, va_eqR c5 q1⟩
  have e : i = 0 := by omega
  subst e
  exact h1.1 0 (by decide)
set_option maxRecDepth 100000 in
theorem tx_17 {args : Array Value} {s : State} {A : Nat → Prop} (hs : ∀ w ∈ flN, w.before args s = true) (hA : ∀ a : Nat, a < s.heap.size → ¬ A a) : ∃ a v : Nat, vk_S 1 [litN.getD 17 0] [litS.getD 17 []] (fun _ => a) (fun _ => v) A s s.heap ∧ (Term.string "SaysBath$Reader" 190).eval args s none [] s = some (.ref a) ∧ (Term.string "SaysBathModel" 182).eval args s none [] s = some (.ref a) := by
  have c1 : (Cond.exactly (Term.string "SaysBath$Reader" 190) "java/lang/String").before args s = true := (hs _ (List.mem_of_getElem? (i := 148) (by rfl)))
  have c2 : (Cond.eq (.field (Term.string "SaysBath$Reader" 190) "java/lang/String" "coder" "B") (.int 0)).before args s = true := (hs _ (List.mem_of_getElem? (i := 149) (by rfl)))
  have c3 : (Cond.arrayOf (.field (Term.string "SaysBath$Reader" 190) "java/lang/String" "value" "[B") .byte).before args s = true := (hs _ (List.mem_of_getElem? (i := 150) (by rfl)))
  have c4 : (Cond.eq (.length (.field (Term.string "SaysBath$Reader" 190) "java/lang/String" "value" "[B")) (.int 4)).before args s = true := (hs _ (List.mem_of_getElem? (i := 151) (by rfl)))
  have c5 : (Cond.eq (Term.string "SaysBath$Reader" 190) (Term.string "SaysBathModel" 182)).before args s = true := (hs _ (List.mem_of_getElem? (i := 336) (by rfl)))
  have e0 : (Cond.eq (.elem (.field (Term.string "SaysBath$Reader" 190) "java/lang/String" "value" "[B") (.int 0)) (.int 109)).before args s = true := (hs _ (List.mem_of_getElem? (i := 152) (by rfl)))
  have e1 : (Cond.eq (.elem (.field (Term.string "SaysBath$Reader" 190) "java/lang/String" "value" "[B") (.int 1)) (.int 111)).before args s = true := (hs _ (List.mem_of_getElem? (i := 153) (by rfl)))
  have e2 : (Cond.eq (.elem (.field (Term.string "SaysBath$Reader" 190) "java/lang/String" "value" "[B") (.int 2)) (.int 114)).before args s = true := (hs _ (List.mem_of_getElem? (i := 154) (by rfl)))
  have e3 : (Cond.eq (.elem (.field (Term.string "SaysBath$Reader" 190) "java/lang/String" "value" "[B") (.int 3)) (.int 101)).before args s = true := (hs _ (List.mem_of_getElem? (i := 155) (by rfl)))
  have g1 : ∀ i : Nat, i < 1 → ([litN.getD 17 0] : List Nat).getD i 0 < 2 ^ 31 := by
    intro i hi
    have e9 : i = 0 := by omega
    subst e9
    decide
  have g2 : ∀ i : Nat, i < 1 → (Cond.eq (.length (.field (Term.string "SaysBath$Reader" 190) "java/lang/String" "value" "[B")) (.int (Int32.ofNat (([litN.getD 17 0] : List Nat).getD i 0)))).before args s = true := by
    intro i hi
    have e9 : i = 0 := by omega
    subst e9
    exact c4
  have g3 : ∀ i : Nat, i < 1 → ∀ j : Nat, j < ([litN.getD 17 0] : List Nat).getD i 0 → (Cond.eq (.elem (.field (Term.string "SaysBath$Reader" 190) "java/lang/String" "value" "[B") (.int (Int32.ofNat j))) (.int ((([litS.getD 17 []] : List (List Int32)).getD i []).getD j 0))).before args s = true := by
    intro i hi j hj
    have e9 : i = 0 := by omega
    subst e9
    have hj : j < 4 := hj
    match j, hj with
    | 0, _ => exact e0
    | 1, _ => exact e1
    | 2, _ => exact e2
    | 3, _ => exact e3
    | n + 4, h => exact absurd h (by omega)
  obtain ⟨ak, av, h1, h2⟩ := vk_Sof (args := args) (s := s) (N := 1) (tm := fun _ => Term.string "SaysBath$Reader" 190) (len := [litN.getD 17 0]) (byt := [litS.getD 17 []]) (A := A) g1 (fun _ _ => c1) (fun _ _ => c2) (fun _ _ => c3) g2 g3 (fun i j hi hj hij => absurd (show i = j by omega) hij) hA
  have q1 := h2 0 (by decide)
  refine ⟨ak 0, av 0, ⟨fun i hi => ?_, fun i j hi hj _ => by omega⟩, q1, va_eqR c5 q1⟩
  have e : i = 0 := by omega
  subst e
  exact h1.1 0 (by decide)
set_option maxRecDepth 100000 in
theorem tx_18 {args : Array Value} {s : State} {A : Nat → Prop} (hs : ∀ w ∈ flN, w.before args s = true) (hA : ∀ a : Nat, a < s.heap.size → ¬ A a) : ∃ a v : Nat, vk_S 1 [litN.getD 18 0] [litS.getD 18 []] (fun _ => a) (fun _ => v) A s s.heap ∧ (Term.string "SaysBath$Reader" 192).eval args s none [] s = some (.ref a) ∧ (Term.string "SaysBathModel" 184).eval args s none [] s = some (.ref a) := by
  have c1 : (Cond.exactly (Term.string "SaysBath$Reader" 192) "java/lang/String").before args s = true := (hs _ (List.mem_of_getElem? (i := 156) (by rfl)))
  have c2 : (Cond.eq (.field (Term.string "SaysBath$Reader" 192) "java/lang/String" "coder" "B") (.int 0)).before args s = true := (hs _ (List.mem_of_getElem? (i := 157) (by rfl)))
  have c3 : (Cond.arrayOf (.field (Term.string "SaysBath$Reader" 192) "java/lang/String" "value" "[B") .byte).before args s = true := (hs _ (List.mem_of_getElem? (i := 158) (by rfl)))
  have c4 : (Cond.eq (.length (.field (Term.string "SaysBath$Reader" 192) "java/lang/String" "value" "[B")) (.int 4)).before args s = true := (hs _ (List.mem_of_getElem? (i := 159) (by rfl)))
  have c5 : (Cond.eq (Term.string "SaysBath$Reader" 192) (Term.string "SaysBathModel" 184)).before args s = true := (hs _ (List.mem_of_getElem? (i := 345) (by rfl)))
  have e0 : (Cond.eq (.elem (.field (Term.string "SaysBath$Reader" 192) "java/lang/String" "value" "[B") (.int 0)) (.int 108)).before args s = true := (hs _ (List.mem_of_getElem? (i := 160) (by rfl)))
  have e1 : (Cond.eq (.elem (.field (Term.string "SaysBath$Reader" 192) "java/lang/String" "value" "[B") (.int 1)) (.int 101)).before args s = true := (hs _ (List.mem_of_getElem? (i := 161) (by rfl)))
  have e2 : (Cond.eq (.elem (.field (Term.string "SaysBath$Reader" 192) "java/lang/String" "value" "[B") (.int 2)) (.int 115)).before args s = true := (hs _ (List.mem_of_getElem? (i := 162) (by rfl)))
  have e3 : (Cond.eq (.elem (.field (Term.string "SaysBath$Reader" 192) "java/lang/String" "value" "[B") (.int 3)) (.int 115)).before args s = true := (hs _ (List.mem_of_getElem? (i := 163) (by rfl)))
  have g1 : ∀ i : Nat, i < 1 → ([litN.getD 18 0] : List Nat).getD i 0 < 2 ^ 31 := by
    intro i hi
    have e9 : i = 0 := by omega
    subst e9
    decide
  have g2 : ∀ i : Nat, i < 1 → (Cond.eq (.length (.field (Term.string "SaysBath$Reader" 192) "java/lang/String" "value" "[B")) (.int (Int32.ofNat (([litN.getD 18 0] : List Nat).getD i 0)))).before args s = true := by
    intro i hi
    have e9 : i = 0 := by omega
    subst e9
    exact c4
  have g3 : ∀ i : Nat, i < 1 → ∀ j : Nat, j < ([litN.getD 18 0] : List Nat).getD i 0 → (Cond.eq (.elem (.field (Term.string "SaysBath$Reader" 192) "java/lang/String" "value" "[B") (.int (Int32.ofNat j))) (.int ((([litS.getD 18 []] : List (List Int32)).getD i []).getD j 0))).before args s = true := by
    intro i hi j hj
    have e9 : i = 0 := by omega
    subst e9
    have hj : j < 4 := hj
    match j, hj with
    | 0, _ => exact e0
    | 1, _ => exact e1
    | 2, _ => exact e2
    | 3, _ => exact e3
    | n + 4, h => exact absurd h (by omega)
  obtain ⟨ak, av, h1, h2⟩ := vk_Sof (args := args) (s := s) (N := 1) (tm := fun _ => Term.string "SaysBath$Reader" 192) (len := [litN.getD 18 0]) (byt := [litS.getD 18 []]) (A := A) g1 (fun _ _ => c1) (fun _ _ => c2) (fun _ _ => c3) g2 g3 (fun i j hi hj hij => absurd (show i = j by omega) hij) hA
  have q1 := h2 0 (by decide)
  refine ⟨ak 0, av 0, ⟨fun i hi => ?_, fun i j hi hj _ => by omega⟩, q1, va_eqR c5 q1⟩
  have e : i = 0 := by omega
  subst e
  exact h1.1 0 (by decide)
set_option maxRecDepth 100000 in
theorem tx_19 {args : Array Value} {s : State} {A : Nat → Prop} (hs : ∀ w ∈ flN, w.before args s = true) (hA : ∀ a : Nat, a < s.heap.size → ¬ A a) : ∃ a v : Nat, vk_S 1 [litN.getD 19 0] [litS.getD 19 []] (fun _ => a) (fun _ => v) A s s.heap ∧ (Term.string "SaysBath$Reader" 194).eval args s none [] s = some (.ref a) ∧ (Term.string "SaysBathModel" 186).eval args s none [] s = some (.ref a) := by
  have c1 : (Cond.exactly (Term.string "SaysBath$Reader" 194) "java/lang/String").before args s = true := (hs _ (List.mem_of_getElem? (i := 164) (by rfl)))
  have c2 : (Cond.eq (.field (Term.string "SaysBath$Reader" 194) "java/lang/String" "coder" "B") (.int 0)).before args s = true := (hs _ (List.mem_of_getElem? (i := 165) (by rfl)))
  have c3 : (Cond.arrayOf (.field (Term.string "SaysBath$Reader" 194) "java/lang/String" "value" "[B") .byte).before args s = true := (hs _ (List.mem_of_getElem? (i := 166) (by rfl)))
  have c4 : (Cond.eq (.length (.field (Term.string "SaysBath$Reader" 194) "java/lang/String" "value" "[B")) (.int 4)).before args s = true := (hs _ (List.mem_of_getElem? (i := 167) (by rfl)))
  have c5 : (Cond.eq (Term.string "SaysBath$Reader" 194) (Term.string "SaysBathModel" 186)).before args s = true := (hs _ (List.mem_of_getElem? (i := 354) (by rfl)))
  have e0 : (Cond.eq (.elem (.field (Term.string "SaysBath$Reader" 194) "java/lang/String" "value" "[B") (.int 0)) (.int 115)).before args s = true := (hs _ (List.mem_of_getElem? (i := 168) (by rfl)))
  have e1 : (Cond.eq (.elem (.field (Term.string "SaysBath$Reader" 194) "java/lang/String" "value" "[B") (.int 1)) (.int 97)).before args s = true := (hs _ (List.mem_of_getElem? (i := 169) (by rfl)))
  have e2 : (Cond.eq (.elem (.field (Term.string "SaysBath$Reader" 194) "java/lang/String" "value" "[B") (.int 2)) (.int 109)).before args s = true := (hs _ (List.mem_of_getElem? (i := 170) (by rfl)))
  have e3 : (Cond.eq (.elem (.field (Term.string "SaysBath$Reader" 194) "java/lang/String" "value" "[B") (.int 3)) (.int 101)).before args s = true := (hs _ (List.mem_of_getElem? (i := 171) (by rfl)))
  have g1 : ∀ i : Nat, i < 1 → ([litN.getD 19 0] : List Nat).getD i 0 < 2 ^ 31 := by
    intro i hi
    have e9 : i = 0 := by omega
    subst e9
    decide
  have g2 : ∀ i : Nat, i < 1 → (Cond.eq (.length (.field (Term.string "SaysBath$Reader" 194) "java/lang/String" "value" "[B")) (.int (Int32.ofNat (([litN.getD 19 0] : List Nat).getD i 0)))).before args s = true := by
    intro i hi
    have e9 : i = 0 := by omega
    subst e9
    exact c4
  have g3 : ∀ i : Nat, i < 1 → ∀ j : Nat, j < ([litN.getD 19 0] : List Nat).getD i 0 → (Cond.eq (.elem (.field (Term.string "SaysBath$Reader" 194) "java/lang/String" "value" "[B") (.int (Int32.ofNat j))) (.int ((([litS.getD 19 []] : List (List Int32)).getD i []).getD j 0))).before args s = true := by
    intro i hi j hj
    have e9 : i = 0 := by omega
    subst e9
    have hj : j < 4 := hj
    match j, hj with
    | 0, _ => exact e0
    | 1, _ => exact e1
    | 2, _ => exact e2
    | 3, _ => exact e3
    | n + 4, h => exact absurd h (by omega)
  obtain ⟨ak, av, h1, h2⟩ := vk_Sof (args := args) (s := s) (N := 1) (tm := fun _ => Term.string "SaysBath$Reader" 194) (len := [litN.getD 19 0]) (byt := [litS.getD 19 []]) (A := A) g1 (fun _ _ => c1) (fun _ _ => c2) (fun _ _ => c3) g2 g3 (fun i j hi hj hij => absurd (show i = j by omega) hij) hA
  have q1 := h2 0 (by decide)
  refine ⟨ak 0, av 0, ⟨fun i hi => ?_, fun i j hi hj _ => by omega⟩, q1, va_eqR c5 q1⟩
  have e : i = 0 := by omega
  subst e
  exact h1.1 0 (by decide)
theorem mRow_law : mRow 244 = mD := by
  unfold mRow
  rw [List.getD_eq_getElem?_getD, List.getElem?_eq_none (by rw [len_tab]; exact Nat.le_refl _)]
  rfl
theorem CL_cal {z : Nat} {sa sv : Nat → Nat} {cA : Nat → ClassId} {D : va_G} {l : Launch} {d L : Nat} {xs : Nat → Int32} {C : aC} (h : CalOK z sa sv cA D l d C) : CalOK z sa sv cA D l d (CL L xs C) := by
  intro a As h0 rv h1 cc ss ha hc
  refine h a As h0 rv h1 cc ss ha ?_
  unfold CL at hc
  split at hc
  · omega
  · omega
  · exact hc
set_option maxRecDepth 100000 in
theorem z_comp : Cond.laysStatic "java/lang/String" "COMPACT_STRINGS" "Z" ∈ lw_tbl := List.mem_of_getElem? (i := 500) (by rfl)
set_option maxRecDepth 100000 in
theorem z_sio : Cond.laysStatic "jdk/internal/util/Preconditions" "SIOOBE_FORMATTER" "Ljava/util/function/BiFunction;" ∈ lw_tbl := List.mem_of_getElem? (i := 516) (by rfl)
def wLds (q : Nat × Nat × Nat) : Cond := .stringRef (oNm q.1) q.2.1 (litT.getD q.2.2 "")
theorem lds_ok : ∀ q ∈ ldsL, wLds q ∈ lw_tbl := by
  intro q hq
  have h : pickD [486, 64, 16, 4, 8, 4, 0, 4, 16, 4, 0, 8, 4, 0, 0, 0, 0, 4, 0, 0, 547, 6, 0, 0, 0, 8, 12, 4, 0, 8, 0, 8, 0, 0, 0, 0, 0, 0, 0, 0] lw_tbl = ldsL.map wLds := by decide +kernel
  exact pickD_mem _ _ _ (h ▸ List.mem_map_of_mem hq)
def ldR : List Nat := [56, 97, 66, 115, 71, 124, 126, 76, 81, 151, 153, 181, 186, 188, 175, 177, 179, 190, 192, 194]
def ldM : List Nat := [188, 162, 190, 148, 192, 150, 156, 194, 196, 175, 177, 158, 160, 163, 173, 169, 171, 182, 184, 186]
theorem lds_form : ∀ q ∈ ldsL, q.2.2 < 20 ∧ ((q.1 = 3 ∧ q.2.1 = ldR.getD q.2.2 0) ∨ (q.1 = 9 ∧ q.2.1 = ldM.getD q.2.2 0)) := by decide +kernel
theorem tx_all {args : Array Value} {s : State} {A : Nat → Prop} (hs : ∀ w ∈ flN, w.before args s = true) (hA : ∀ a : Nat, a < s.heap.size → ¬ A a) : ∀ i : Nat, ∃ q : Nat × Nat, i < 20 → vk_S 1 [litN.getD i 0] [litS.getD i []] (fun _ => q.1) (fun _ => q.2) A s s.heap ∧ (Term.string "SaysBath$Reader" (ldR.getD i 0)).eval args s none [] s = some (.ref q.1) ∧ (Term.string "SaysBathModel" (ldM.getD i 0)).eval args s none [] s = some (.ref q.1) := by
  intro i
  match i with
  | 0 => obtain ⟨a, v, h1, h2, h3⟩ := tx_0 hs hA; exact ⟨(a, v), fun _ => ⟨h1, h2, h3⟩⟩
  | 1 => obtain ⟨a, v, h1, h2, h3⟩ := tx_1 hs hA; exact ⟨(a, v), fun _ => ⟨h1, h2, h3⟩⟩
  | 2 => obtain ⟨a, v, h1, h2, h3⟩ := tx_2 hs hA; exact ⟨(a, v), fun _ => ⟨h1, h2, h3⟩⟩
  | 3 => obtain ⟨a, v, h1, h2, h3⟩ := tx_3 hs hA; exact ⟨(a, v), fun _ => ⟨h1, h2, h3⟩⟩
  | 4 => obtain ⟨a, v, h1, h2, h3⟩ := tx_4 hs hA; exact ⟨(a, v), fun _ => ⟨h1, h2, h3⟩⟩
  | 5 => obtain ⟨a, v, h1, h2, h3⟩ := tx_5 hs hA; exact ⟨(a, v), fun _ => ⟨h1, h2, h3⟩⟩
  | 6 => obtain ⟨a, v, h1, h2, h3⟩ := tx_6 hs hA; exact ⟨(a, v), fun _ => ⟨h1, h2, h3⟩⟩
  | 7 => obtain ⟨a, v, h1, h2, h3⟩ := tx_7 hs hA; exact ⟨(a, v), fun _ => ⟨h1, h2, h3⟩⟩
  | 8 => obtain ⟨a, v, h1, h2, h3⟩ := tx_8 hs hA; exact ⟨(a, v), fun _ => ⟨h1, h2, h3⟩⟩
  | 9 => obtain ⟨a, v, h1, h2, h3⟩ := tx_9 hs hA; exact ⟨(a, v), fun _ => ⟨h1, h2, h3⟩⟩
  | 10 => obtain ⟨a, v, h1, h2, h3⟩ := tx_10 hs hA; exact ⟨(a, v), fun _ => ⟨h1, h2, h3⟩⟩
  | 11 => obtain ⟨a, v, h1, h2, h3⟩ := tx_11 hs hA; exact ⟨(a, v), fun _ => ⟨h1, h2, h3⟩⟩
  | 12 => obtain ⟨a, v, h1, h2, h3⟩ := tx_12 hs hA; exact ⟨(a, v), fun _ => ⟨h1, h2, h3⟩⟩
  | 13 => obtain ⟨a, v, h1, h2, h3⟩ := tx_13 hs hA; exact ⟨(a, v), fun _ => ⟨h1, h2, h3⟩⟩
  | 14 => obtain ⟨a, v, h1, h2, h3⟩ := tx_14 hs hA; exact ⟨(a, v), fun _ => ⟨h1, h2, h3⟩⟩
  | 15 => obtain ⟨a, v, h1, h2, h3⟩ := tx_15 hs hA; exact ⟨(a, v), fun _ => ⟨h1, h2, h3⟩⟩
  | 16 => obtain ⟨a, v, h1, h2, h3⟩ := tx_16 hs hA; exact ⟨(a, v), fun _ => ⟨h1, h2, h3⟩⟩
  | 17 => obtain ⟨a, v, h1, h2, h3⟩ := tx_17 hs hA; exact ⟨(a, v), fun _ => ⟨h1, h2, h3⟩⟩
  | 18 => obtain ⟨a, v, h1, h2, h3⟩ := tx_18 hs hA; exact ⟨(a, v), fun _ => ⟨h1, h2, h3⟩⟩
  | 19 => obtain ⟨a, v, h1, h2, h3⟩ := tx_19 hs hA; exact ⟨(a, v), fun _ => ⟨h1, h2, h3⟩⟩
  | n + 20 => exact ⟨(0, 0), fun h => absurd h (by omega)⟩
theorem arr_of {s : State} {args : Array Value} {ty : FieldType} (h : (Cond.arrayClass ty).before args s = true) : ∃ cA : ClassId, ArrOfT s cA ty ∧ s.vm.findClass ("[" ++ ty.toString) = some cA := by
  obtain ⟨cA, k, comp, h1, h2, h3⟩ := Cond.arrayClass_spec h
  exact ⟨cA, fun n z => ⟨fun k h => (by cases h), k, h2, comp, h3⟩, h1⟩
theorem arr_ob {s : State} {args : Array Value} {C : String} (h : (Cond.arrayOver (.object C)).before args s = true) : ∃ cA : ClassId, ArrOfT s cA (.object C) ∧ va_RA s cA (.object C) := by
  obtain ⟨comp, cA, k, h1, h2, h3, h4, h5⟩ := Cond.arrayOver_spec h
  exact ⟨cA, fun n z => ⟨fun k h => (by cases h), k, h3, comp, h4⟩, k, comp, h3, h4, h1, h5⟩
set_option maxHeartbeats 4000000 in
theorem whole_of (HL : LawRuns) {p : Program} {e : Env} {s : State} {m : MethodId} {below : List Frame} {meth : Method} {c : Code} (l : Launch) {b L : Nat} {xs : Nat → Int32} (hL : L ≤ 3072) (C0 : lw_At p s m meth c b L xs) : W p l e room_1 s m #[Value.ref b] below meth c s.heap [] 0 0 (lw_Z below #[Value.ref b] s) (entryFrame m ([Value.ref b] : List Value).toArray 4) := by
  obtain ⟨hx, hb, hr, hml, hown, hts, hX, hbl, hlocks, hgv⟩ := C0
  have hs : ∀ w ∈ flN, w.before #[Value.ref b] s = true := flat_of_before _ hgv
  have hA : ∀ a : Nat, a < s.heap.size → ¬ (fun q => s.heap.size ≤ q) a := fun a h => Nat.not_le.mpr h
  have htw : ∀ w ∈ Tw, w.before #[Value.ref b] s = true := fun w h => hts w (List.mem_filter.mp h).1
  obtain ⟨ad, had⟩ := Classical.axiomOfChoice (tx_all (A := fun q => s.heap.size ≤ q) hs hA)
  have hcl : ∀ ci : Nat, ∃ q : ClassId × (Nat → Nat), ci < 10 → u_Kn s (oNm ci) (tR ci) (nfl ci) q.1 q.2 := by
    intro ci
    by_cases h : ci < 10
    · obtain ⟨cC, iS, hK⟩ := u_known (C := oNm ci) (T := tR ci) (N := nfl ci) htw (cls_in h) (htw _ (Tw_in (itb_ok ci (all_itb ci h))))
      exact ⟨(cC, iS), fun _ => hK⟩
    · exact ⟨(0, fun _ => 0), fun h9 => absurd h9 h⟩
  obtain ⟨f, hf⟩ := Classical.axiomOfChoice hcl
  obtain ⟨a0, a01, a02⟩ := arr_of (hts _ arr_int)
  obtain ⟨a1, a11, a12⟩ := arr_of (hts _ arr_byte)
  obtain ⟨a2, a21, a22⟩ := arr_of (hts _ arr_boolean)
  obtain ⟨a3, a31, a32⟩ := arr_of (hts _ arr_long)
  obtain ⟨a4, a41, a42⟩ := arr_ob (hts _ aro_Scene)
  obtain ⟨a5, a51, a52⟩ := arr_ob (hts _ aro_Slot)
  obtain ⟨cA, hcA⟩ : ∃ cA : Nat → ClassId, cA = fun t => match t with | 0 => a0 | 1 => a1 | 2 => a2 | 3 => a3 | 4 => a4 | _ => a5 := ⟨_, rfl⟩
  have hK : va_K (fun ci => (f ci).1, fun ci => (f ci).2) vwCl (tyA cA) s := by
    refine ⟨fun k q hq => ?_, fun k q hq => ?_⟩
    · have hk : k < 10 := by
        have := (List.getElem?_eq_some_iff.mp hq).1
        simpa using this
      rw [cls_at k hk] at hq
      cases hq
      exact hf k hk
    · subst hcA
      match k, hq with
      | 0, hq => cases hq; exact ⟨a01, a02⟩
      | 1, hq => cases hq; exact ⟨a11, a12⟩
      | 2, hq => cases hq; exact ⟨a21, a22⟩
      | 3, hq => cases hq; exact ⟨a31, a32⟩
      | 4, hq => cases hq; exact ⟨a41, a42⟩
      | 5, hq => cases hq; exact ⟨a51, a52⟩
      | n + 6, hq => simp [tyA] at hq
  obtain ⟨sa, hsa⟩ : ∃ sa : Nat → Nat, sa = fun i => if i = 1000 then b else (ad i).1 := ⟨_, rfl⟩
  have sa_lt : ∀ i, i < 20 → sa i = (ad i).1 := fun i hi => by rw [hsa]; exact if_neg (by omega)
  have sa_b : sa 1000 = b := by rw [hsa]; exact if_pos rfl
  have hWF : WF s.heap.size sa (fun i => (ad i).2) s s.heap := by
    refine ⟨fun q hq => ?_, va_AO.of (hts _ aro_Scene), va_AO.of (hts _ aro_Slot), fun q hq => ?_, fun q hq => ?_, ?_, ?_⟩
    · have h9 := hts _ (nst_ok q hq)
      rw [wMth3 (nst_form q hq)] at h9 ⊢
      exact va_Nw.of rfl h9
    · obtain ⟨h20, h9⟩ := lds_form q hq
      rw [sa_lt _ h20]
      obtain ⟨-, g2, g3⟩ := had q.2.2 h20
      have hw := hts _ (lds_ok q hq)
      unfold wLds at hw
      rcases h9 with ⟨e1, e2⟩ | ⟨e1, e2⟩
      · refine vk_R.of (A := #[Value.ref b]) hw ?_
        rw [e1, e2]
        exact g2
      · refine vk_R.of (A := #[Value.ref b]) hw ?_
        rw [e1, e2]
        exact g3
    · have h9 := (had q hq).1
      rw [← sa_lt q hq] at h9
      exact h9
    · exact va_Zof (hts _ z_comp) (htw _ jn_J0) (va_eqt (hs _ (List.mem_of_getElem? (i := 4) (by rfl)))) hA
    · exact va_Zqof (hts _ z_sio) (htw _ jn_J3) (hs _ (List.mem_of_getElem? (i := 5) (by rfl))) hA
  obtain ⟨n, hF, cT, sT, hc0, hs0, hE⟩ := HL L xs hL
  have hc1 : cT ≤ 600000 := Nat.le_trans hc0 (by decide)
  have hs1 : sT ≤ 7302250 := Nat.le_trans hs0 (by decide)
  have hby : mByt 244 = code := by unfold mByt; rw [mRow_law]; rfl
  have hmx : mMax 244 = 4 := by unfold mMax; rw [mRow_law]; rfl
  have how : mOwn 244 = 11 := by unfold mOwn; rw [mRow_law]; rfl
  have hkd : mKd 244 = 1 := by unfold mKd; rw [mRow_law]; rfl
  have X : Cx s.heap.size sa (fun i => (ad i).2) cA (fun ci => (f ci).1, fun ci => (f ci).2) p s m #[Value.ref b] meth c 244 room_1 := by
    refine ⟨hx, by rw [hby]; exact hb, by rw [hmx]; exact hml, by rw [how]; exact hown, htw, hK, hWF, Nat.le_refl _, fun h9 => by rw [hkd] at h9; exact absurd h9 (by decide), by decide, by decide⟩
  have hl := lv_entry ([.ref b]) (n := 4) (Nat.le_of_ble_eq_true rfl)
  rw [lg_entry_eq]
  generalize (lg_sl ([.ref b]) ++ List.replicate (4 - (lg_sl ([.ref b])).length) Slot.unset).toArray = ls at hl ⊢
  have hl : lv_has ls 4 [(0, .ref b)] := hl
  refine sn_ev (Q := lw_Z below #[Value.ref b] s) (z := s.heap.size) (sa := sa) (sv := fun i => (ad i).2) (cA := cA) (D := (fun ci => (f ci).1, fun ci => (f ci).2)) X ⟨hc1, hs1⟩ (CL_cal (Rn_met l s.heap.size sa (fun i => (ad i).2) cA (fun ci => (f ci).1, fun ci => (f ci).2) 700)) ⟨by decide, by decide⟩ ?_ ?_ ?_ ?_ ?_ n 0 [(0, .retAddr 1000)] [] [] 0 0 hE s.heap [] ls ⟨fun k q h9 => by simp [wld] at h9, va_S.rf, rfl⟩ ?_ (Nat.zero_le _) (Nat.zero_le _)
  · intro h j x h9
    obtain ⟨i, e1, e2, e3⟩ := h9
    cases e1
    cases e3
    exact ⟨L, xs, by rw [sa_b]; exact hX, by rw [sa_b]; exact hbl, by rw [sa_b]; exact hbl, e2, rfl⟩
  · intro h x h9
    have e3 : some (Value.int x) = some (.int (Int32.ofNat L)) := h9
    cases e3
    exact ⟨L, xs, by rw [sa_b]; exact hX, by rw [sa_b]; exact hbl, by rw [sa_b]; exact hbl, rfl⟩
  · intro H locs pc ls x hd hC9 e9 hn9
    cases e9
    refine va_forget (fun q hq => hC9.2.1.2.2 q hq) ?_
    refine W.widen (k := 600000) (n := 7302250) hc1 hs1 ?_
    rw [hby] at hd
    exact lw_ret hx hb hr hlocks hd
  · intro H locs pc ls x hd hC9 e9
    cases e9
  · intro H locs pc ls hd hC9 e9
    cases e9
  · rw [hmx]
    refine lv_sub hl [0] ?_
    show [(0, Value.ref b)] = rL s.heap.size sa [(0, .retAddr 1000)]
    simp [rL, rV, sa_b]
