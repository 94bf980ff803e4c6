/-! the JDK's members that the texts are read by: String.length, String.charAt and what they call -/
abbrev cJ0_coder_7d493 : ByteArray := prog_14_method_152_code
def yJ0_coder_7d493 : MethodName := ⟨RJ0, "coder", "()B"⟩
abbrev cJ0_isLatin1_aae02 : ByteArray := prog_14_method_154_code
def yJ0_isLatin1_aae02 : MethodName := ⟨RJ0, "isLatin1", "()Z"⟩
abbrev cJ0_checkIndex_df160 : ByteArray := prog_14_method_155_code
def yJ0_checkIndex_df160 : MethodName := ⟨RJ0, "checkIndex", "(II)V"⟩
def RJ1 : String := "java/lang/StringLatin1"
abbrev cJ1_charAt_3b067 : ByteArray := prog_15_method_2_code
def yJ1_charAt_3b067 : MethodName := ⟨RJ1, "charAt", "([BI)C"⟩
def RJ3 : String := "jdk/internal/util/Preconditions"
abbrev cJ3_checkIndex_8e157 : ByteArray := prog_18_method_11_code
def yJ3_checkIndex_8e157 : MethodName := ⟨RJ3, "checkIndex", "(IILjava/util/function/BiFunction;)I"⟩
theorem dj_coder_0 : decode cJ0_coder_7d493 0 = .ok (.getstatic 38, 3) := by decide +kernel
theorem dj_coder_3 : decode cJ0_coder_7d493 3 = .ok (.ifCond .eq 10, 3) := by decide +kernel
theorem dj_coder_6 : decode cJ0_coder_7d493 6 = .ok (.aload_n 0, 1) := by decide +kernel
theorem dj_coder_7 : decode cJ0_coder_7d493 7 = .ok (.getfield 15, 3) := by decide +kernel
theorem dj_coder_10 : decode cJ0_coder_7d493 10 = .ok (.goto 4, 3) := by decide +kernel
theorem dj_coder_13 : decode cJ0_coder_7d493 13 = .ok (.iconst 1, 1) := by decide +kernel
theorem dj_coder_14 : decode cJ0_coder_7d493 14 = .ok (.ireturn, 1) := by decide +kernel
theorem dj_isLatin1_0 : decode cJ0_isLatin1_aae02 0 = .ok (.getstatic 38, 3) := by decide +kernel
theorem dj_isLatin1_3 : decode cJ0_isLatin1_aae02 3 = .ok (.ifCond .eq 14, 3) := by decide +kernel
theorem dj_isLatin1_6 : decode cJ0_isLatin1_aae02 6 = .ok (.aload_n 0, 1) := by decide +kernel
theorem dj_isLatin1_7 : decode cJ0_isLatin1_aae02 7 = .ok (.getfield 15, 3) := by decide +kernel
theorem dj_isLatin1_10 : decode cJ0_isLatin1_aae02 10 = .ok (.ifCond .ne 7, 3) := by decide +kernel
theorem dj_isLatin1_13 : decode cJ0_isLatin1_aae02 13 = .ok (.iconst 1, 1) := by decide +kernel
theorem dj_isLatin1_14 : decode cJ0_isLatin1_aae02 14 = .ok (.goto 4, 3) := by decide +kernel
theorem dj_isLatin1_17 : decode cJ0_isLatin1_aae02 17 = .ok (.iconst 0, 1) := by decide +kernel
theorem dj_isLatin1_18 : decode cJ0_isLatin1_aae02 18 = .ok (.ireturn, 1) := by decide +kernel
theorem dj_lchar_0 : decode cJ1_charAt_3b067 0 = .ok (.iload_n 1, 1) := by decide +kernel
theorem dj_lchar_1 : decode cJ1_charAt_3b067 1 = .ok (.aload_n 0, 1) := by decide +kernel
theorem dj_lchar_2 : decode cJ1_charAt_3b067 2 = .ok (.arraylength, 1) := by decide +kernel
theorem dj_lchar_3 : decode cJ1_charAt_3b067 3 = .ok (.invokestatic 9, 3) := by decide +kernel
theorem dj_lchar_6 : decode cJ1_charAt_3b067 6 = .ok (.aload_n 0, 1) := by decide +kernel
theorem dj_lchar_7 : decode cJ1_charAt_3b067 7 = .ok (.iload_n 1, 1) := by decide +kernel
theorem dj_lchar_8 : decode cJ1_charAt_3b067 8 = .ok (.baload, 1) := by decide +kernel
theorem dj_lchar_9 : decode cJ1_charAt_3b067 9 = .ok (.sipush 255, 3) := by decide +kernel
theorem dj_lchar_12 : decode cJ1_charAt_3b067 12 = .ok (.iand, 1) := by decide +kernel
theorem dj_lchar_13 : decode cJ1_charAt_3b067 13 = .ok (.i2c, 1) := by decide +kernel
theorem dj_lchar_14 : decode cJ1_charAt_3b067 14 = .ok (.ireturn, 1) := by decide +kernel
theorem dj_check_0 : decode cJ0_checkIndex_df160 0 = .ok (.iload_n 0, 1) := by decide +kernel
theorem dj_check_1 : decode cJ0_checkIndex_df160 1 = .ok (.iload_n 1, 1) := by decide +kernel
theorem dj_check_2 : decode cJ0_checkIndex_df160 2 = .ok (.getstatic 1053, 3) := by decide +kernel
theorem dj_check_5 : decode cJ0_checkIndex_df160 5 = .ok (.invokestatic 1059, 3) := by decide +kernel
theorem dj_check_8 : decode cJ0_checkIndex_df160 8 = .ok (.pop, 1) := by decide +kernel
theorem dj_check_9 : decode cJ0_checkIndex_df160 9 = .ok (.return_, 1) := by decide +kernel
theorem dj_pcheck_0 : decode cJ3_checkIndex_8e157 0 = .ok (.iload_n 0, 1) := by decide +kernel
theorem dj_pcheck_1 : decode cJ3_checkIndex_8e157 1 = .ok (.ifCond .lt 8, 3) := by decide +kernel
theorem dj_pcheck_4 : decode cJ3_checkIndex_8e157 4 = .ok (.iload_n 0, 1) := by decide +kernel
theorem dj_pcheck_5 : decode cJ3_checkIndex_8e157 5 = .ok (.iload_n 1, 1) := by decide +kernel
theorem dj_pcheck_6 : decode cJ3_checkIndex_8e157 6 = .ok (.if_icmp .lt 10, 3) := by decide +kernel
theorem dj_pcheck_16 : decode cJ3_checkIndex_8e157 16 = .ok (.iload_n 0, 1) := by decide +kernel
theorem dj_pcheck_17 : decode cJ3_checkIndex_8e157 17 = .ok (.ireturn, 1) := by decide +kernel
theorem dj_length_0 : decode cJ0_length_8abf5 0 = .ok (.aload_n 0, 1) := by decide +kernel
theorem dj_length_1 : decode cJ0_length_8abf5 1 = .ok (.getfield 9, 3) := by decide +kernel
theorem dj_length_4 : decode cJ0_length_8abf5 4 = .ok (.arraylength, 1) := by decide +kernel
theorem dj_length_5 : decode cJ0_length_8abf5 5 = .ok (.aload_n 0, 1) := by decide +kernel
theorem dj_length_6 : decode cJ0_length_8abf5 6 = .ok (.invokevirtual 335, 3) := by decide +kernel
theorem dj_length_9 : decode cJ0_length_8abf5 9 = .ok (.ishr, 1) := by decide +kernel
theorem dj_length_10 : decode cJ0_length_8abf5 10 = .ok (.ireturn, 1) := by decide +kernel
theorem dj_charAt_0 : decode cJ0_charAt_5068e 0 = .ok (.aload_n 0, 1) := by decide +kernel
theorem dj_charAt_1 : decode cJ0_charAt_5068e 1 = .ok (.invokevirtual 492, 3) := by decide +kernel
theorem dj_charAt_4 : decode cJ0_charAt_5068e 4 = .ok (.ifCond .eq 12, 3) := by decide +kernel
theorem dj_charAt_7 : decode cJ0_charAt_5068e 7 = .ok (.aload_n 0, 1) := by decide +kernel
theorem dj_charAt_8 : decode cJ0_charAt_5068e 8 = .ok (.getfield 9, 3) := by decide +kernel
theorem dj_charAt_11 : decode cJ0_charAt_5068e 11 = .ok (.iload_n 1, 1) := by decide +kernel
theorem dj_charAt_12 : decode cJ0_charAt_5068e 12 = .ok (.invokestatic 495, 3) := by decide +kernel
theorem dj_charAt_15 : decode cJ0_charAt_5068e 15 = .ok (.ireturn, 1) := by decide +kernel
set_option maxRecDepth 100000 in
theorem jc_coder : Cond.code yJ0_coder_7d493 cJ0_coder_7d493 1 (some .byte) ∈ Tw := Tw_in ⟨List.mem_of_getElem? (i := 498) (by rfl), rfl⟩
set_option maxRecDepth 100000 in
theorem jc_isLatin1 : Cond.code yJ0_isLatin1_aae02 cJ0_isLatin1_aae02 1 (some .boolean) ∈ Tw := Tw_in ⟨List.mem_of_getElem? (i := 508) (by rfl), rfl⟩
set_option maxRecDepth 100000 in
theorem jc_lchar : Cond.code yJ1_charAt_3b067 cJ1_charAt_3b067 2 (some .char) ∈ Tw := Tw_in ⟨List.mem_of_getElem? (i := 511) (by rfl), rfl⟩
set_option maxRecDepth 100000 in
theorem jc_check : Cond.code yJ0_checkIndex_df160 cJ0_checkIndex_df160 2 none ∈ Tw := Tw_in ⟨List.mem_of_getElem? (i := 514) (by rfl), rfl⟩
set_option maxRecDepth 100000 in
theorem jc_pcheck : Cond.code yJ3_checkIndex_8e157 cJ3_checkIndex_8e157 3 (some .int) ∈ Tw := Tw_in ⟨List.mem_of_getElem? (i := 519) (by rfl), rfl⟩
set_option maxRecDepth 100000 in
theorem jc_length : Cond.code yJ0_length_8abf5 cJ0_length_8abf5 1 (some .int) ∈ Tw := Tw_in ⟨List.mem_of_getElem? (i := 494) (by rfl), rfl⟩
set_option maxRecDepth 100000 in
theorem jc_charAt : Cond.code yJ0_charAt_5068e cJ0_charAt_5068e 2 (some .char) ∈ Tw := Tw_in ⟨List.mem_of_getElem? (i := 504) (by rfl), rfl⟩
set_option maxRecDepth 100000 in
theorem ji_coder : Cond.instanceMethod yJ0_coder_7d493 ∈ Tw := Tw_in ⟨List.mem_of_getElem? (i := 496) (by rfl), rfl⟩
set_option maxRecDepth 100000 in
theorem js_coder : Cond.selects RJ0 yJ0_coder_7d493 yJ0_coder_7d493 ∈ Tw := Tw_in ⟨List.mem_of_getElem? (i := 497) (by rfl), rfl⟩
set_option maxRecDepth 100000 in
theorem ji_isLatin1 : Cond.instanceMethod yJ0_isLatin1_aae02 ∈ Tw := Tw_in ⟨List.mem_of_getElem? (i := 506) (by rfl), rfl⟩
set_option maxRecDepth 100000 in
theorem js_isLatin1 : Cond.selects RJ0 yJ0_isLatin1_aae02 yJ0_isLatin1_aae02 ∈ Tw := Tw_in ⟨List.mem_of_getElem? (i := 507) (by rfl), rfl⟩
set_option maxRecDepth 100000 in
theorem ji_length : Cond.instanceMethod yJ0_length_8abf5 ∈ Tw := Tw_in ⟨List.mem_of_getElem? (i := 492) (by rfl), rfl⟩
set_option maxRecDepth 100000 in
theorem js_length : Cond.selects RJ0 yJ0_length_8abf5 yJ0_length_8abf5 ∈ Tw := Tw_in ⟨List.mem_of_getElem? (i := 493) (by rfl), rfl⟩
set_option maxRecDepth 100000 in
theorem ji_charAt : Cond.instanceMethod yJ0_charAt_5068e ∈ Tw := Tw_in ⟨List.mem_of_getElem? (i := 502) (by rfl), rfl⟩
set_option maxRecDepth 100000 in
theorem js_charAt : Cond.selects RJ0 yJ0_charAt_5068e yJ0_charAt_5068e ∈ Tw := Tw_in ⟨List.mem_of_getElem? (i := 503) (by rfl), rfl⟩
set_option maxRecDepth 100000 in
theorem jt_lchar : Cond.static yJ1_charAt_3b067 ∈ Tw := Tw_in ⟨List.mem_of_getElem? (i := 510) (by rfl), rfl⟩
set_option maxRecDepth 100000 in
theorem jt_check : Cond.static yJ0_checkIndex_df160 ∈ Tw := Tw_in ⟨List.mem_of_getElem? (i := 513) (by rfl), rfl⟩
set_option maxRecDepth 100000 in
theorem jt_pcheck : Cond.static yJ3_checkIndex_8e157 ∈ Tw := Tw_in ⟨List.mem_of_getElem? (i := 518) (by rfl), rfl⟩
set_option maxRecDepth 100000 in
theorem jn_J0 : Cond.initialized RJ0 ∈ Tw := Tw_in ⟨List.mem_of_getElem? (i := 109) (by rfl), rfl⟩
set_option maxRecDepth 100000 in
theorem jn_J1 : Cond.initialized RJ1 ∈ Tw := Tw_in ⟨List.mem_of_getElem? (i := 110) (by rfl), rfl⟩
set_option maxRecDepth 100000 in
theorem jn_J3 : Cond.initialized RJ3 ∈ Tw := Tw_in ⟨List.mem_of_getElem? (i := 111) (by rfl), rfl⟩
set_option maxRecDepth 100000 in
theorem jl_coder : Cond.methodLink RJ0 335 yJ0_coder_7d493 ∈ Tw := Tw_in ⟨List.mem_of_getElem? (i := 495) (by rfl), rfl⟩
set_option maxRecDepth 100000 in
theorem jl_isLatin1 : Cond.methodLink RJ0 492 yJ0_isLatin1_aae02 ∈ Tw := Tw_in ⟨List.mem_of_getElem? (i := 505) (by rfl), rfl⟩
set_option maxRecDepth 100000 in
theorem jl_lchar : Cond.methodLink RJ0 495 yJ1_charAt_3b067 ∈ Tw := Tw_in ⟨List.mem_of_getElem? (i := 509) (by rfl), rfl⟩
set_option maxRecDepth 100000 in
theorem jl_check : Cond.methodLink RJ1 9 yJ0_checkIndex_df160 ∈ Tw := Tw_in ⟨List.mem_of_getElem? (i := 512) (by rfl), rfl⟩
set_option maxRecDepth 100000 in
theorem jl_pcheck : Cond.methodLink RJ0 1059 yJ3_checkIndex_8e157 ∈ Tw := Tw_in ⟨List.mem_of_getElem? (i := 517) (by rfl), rfl⟩
set_option maxRecDepth 100000 in
theorem jf_value : Cond.fieldLink RJ0 9 "java/lang/String" "value" "[B" ∈ Tw := Tw_in ⟨List.mem_of_getElem? (i := 1579) (by rfl), rfl⟩
set_option maxRecDepth 100000 in
theorem jf_coder : Cond.fieldLink RJ0 15 "java/lang/String" "coder" "B" ∈ Tw := Tw_in ⟨List.mem_of_getElem? (i := 1580) (by rfl), rfl⟩
set_option maxRecDepth 100000 in
theorem jf_comp : Cond.fieldLink RJ0 38 "java/lang/String" "COMPACT_STRINGS" "Z" ∈ Tw := Tw_in ⟨List.mem_of_getElem? (i := 499) (by rfl), rfl⟩
set_option maxRecDepth 100000 in
theorem jf_sio : Cond.fieldLink RJ0 1053 "jdk/internal/util/Preconditions" "SIOOBE_FORMATTER" "Ljava/util/function/BiFunction;" ∈ Tw := Tw_in ⟨List.mem_of_getElem? (i := 515) (by rfl), rfl⟩
theorem sl3 (j n : Int32) (f : Value) (hf : f.category = 1) : (lg_sl [.int j, .int n, f]).length ≤ 3 := by cases f <;> simp_all [lg_sl, Value.category]
theorem good_J {w : Cond} (h : w ∈ Tw) : GoodIn Tw (w :: Tw) := by
  intro w' hw
  rcases List.mem_cons.mp hw with h9 | h9
  · subst h9
    exact good_Tw _ h
  · exact good_Tw _ h9
theorem lit_sm : ∀ i, i < 20 → litN.getD i 0 < 2 ^ 31 := by decide +kernel
theorem lit_all : ∀ i, i < 20 → ∀ x ∈ litS.getD i [], ((x &&& 255).toUInt32 % 65536).toInt32 = x ∧ narrow .char (.int x) = .int x := by decide +kernel
theorem lit_two (i : Nat) (hi : i < 20) (k : Nat) : (((litS.getD i []).getD k 0 &&& 255).toUInt32 % 65536).toInt32 = (litS.getD i []).getD k 0 ∧ narrow .char (.int ((litS.getD i []).getD k 0)) = .int ((litS.getD i []).getD k 0) := by
  by_cases hk : k < (litS.getD i []).length
  · have e9 : (litS.getD i []).getD k 0 = (litS.getD i [])[k] := by rw [List.getD_eq_getElem?_getD, List.getElem?_eq_getElem hk]; rfl
    rw [e9]
    exact lit_all i hi _ (List.getElem_mem hk)
  · have e9 : (litS.getD i []).getD k 0 = 0 := by rw [List.getD_eq_getElem?_getD, List.getElem?_eq_none (by omega)]; rfl
    rw [e9]
    decide
theorem lit_ch (i : Nat) (hi : i < 20) (k : Nat) : (((litS.getD i []).getD k 0 &&& 255).toUInt32 % 65536).toInt32 = (litS.getD i []).getD k 0 := (lit_two i hi k).1
theorem lit_nar (i : Nat) (hi : i < 20) (k : Nat) : narrow .char (.int ((litS.getD i []).getD k 0)) = .int ((litS.getD i []).getD k 0) := (lit_two i hi k).2
def PostJ (r : Option Value) : Array Value → State → Outcome → State → Prop := fun _ st oc t => oc = .returned r ∧ t.heap = st.heap
def rmJ (d n : Nat) : Room := { frames := d, cells := 0, slots := 0, locals := n }
def PreJ (z : Nat) (sa sv : Nat → Nat) (As : List Value) : Array Value → State → Prop := va_Pc As (fun U => WF z sa sv U U.heap)
theorem prej_blind {z : Nat} {sa sv : Nat → Nat} {As : List Value} : FrameBlind (PreJ z sa sv As) := fun a U g mk q => ⟨q.1, WF.same (u := U) (U := U.calling g mk a) rfl q.2⟩
section SNJ
variable {z : Nat} {sa sv : Nat → Nat} {p : Program} {l : Launch} {e : Env} {R : Room} {s : State} {m : MethodId} {args : Array Value} {below : List Frame} {meth : Method} {c : Code} {Q : State → Prop} {H : Heap} {locs : List Loc} {ls : Array Slot} {pc : Nat} {c1 s1 : Nat}
theorem sj_run {st0 rest : List Value} {r : Option Value} {a9 : Array Value} (hr : va_Run p l e R s m args below meth c H locs c1 s1 0 0 (F0 m pc ls st0) rest (PostJ r a9) (fun _ => False)) (kk : W p l e R s m args below meth c H locs c1 s1 Q (F0 m (pc + 3) ls (r.toList ++ rest))) : W p l e R s m args below meth c H locs c1 s1 Q (F0 m pc ls st0) := by
  intro T hT X
  obtain ⟨v, st₀, t, T', L, h0, X', hL, e1, e2, ⟨hv, hh⟩, st⟩ := hr T hT X
  cases hv
  have hLn : L = [] := by
    cases L with
    | nil => rfl
    | cons q L => exact (hL q List.mem_cons_self).elim
  subst hLn
  rw [List.append_nil] at X'
  obtain ⟨t2, a1, b1⟩ := kk T' (by rw [e1, hh, h0]) X'
  exact ⟨t2, st t2 a1, b1⟩
theorem sj_pre {As : List Value} (hWF : WF z sa sv s s.heap) (hS : va_S (fun q => z ≤ q) s.heap H locs) : ∀ U : State, U.heap = H → s.WarmedH U.vm → PreJ z sa sv As As.toArray U := by
  intro U hU hW
  refine ⟨rfl, ?_⟩
  show WF z sa sv U U.heap
  rw [hU]
  exact WF.warm hW (WF.kept hWF (fun a h1 h2 => hS.2.1 a h1 h2))
end SNJ
set_option maxHeartbeats 4000000 in
theorem cj_coder (l : Launch) (z : Nat) (sa sv : Nat → Nat) (i : Nat) (hi : i < 20) : Met l yJ0_coder_7d493 (Cond.code yJ0_coder_7d493 cJ0_coder_7d493 1 (some .byte) :: Tw) (rmJ 0 0) (PreJ z sa sv [.ref (sa i)]) (PostJ (some (.int 0))) 0 0 (fun _ => False) := by
  refine Met.ofW (cc := cJ0_coder_7d493) (maxL := 1) (ret := (some .byte)) (by decide) rfl ?_
  intro p e s m args below meth c s₁ B hml hv
  obtain ⟨rfl, hWF⟩ := hv
  have hx := B.exec
  have hb := B.bytes
  have hr := B.returns
  have hts0 := atoms_spec (ws := Cond.code yJ0_coder_7d493 cJ0_coder_7d493 1 (some .byte) :: Tw) B.pre
  have hts : ∀ w ∈ Tw, w.before _ s = true := fun w h => hts0 w (List.mem_cons_of_mem _ h)
  have hown : s.vm.findClass RJ0 = some m.cls := findClass_of_methodNamed B.named
  have hlocks := B.notSynchronized
  have hS : va_S (fun q => z ≤ q) s.heap s.heap [] := va_S.rf
  obtain ⟨w1, w2, w3, w4, w5, w6, w7⟩ := id hWF
  have hl := lv_entry ([.ref (sa i)]) (n := 1) (by first | exact Nat.le_of_ble_eq_true rfl | exact sl3 j n f hf)
  rw [lg_entry_eq]
  generalize (lg_sl ([.ref (sa i)]) ++ List.replicate (1 - (lg_sl ([.ref (sa i)])).length) Slot.unset).toArray = ls at hl ⊢
  have hl : lv_has ls 1 (lv_args 0 ([.ref (sa i)])) := hl
  refine va_gets hx hb w6 hS hown (hts _ jf_comp) (fun _ h => h) dj_coder_0 ?_
  refine lv_if_eq (tgt := 13) hx hb dj_coder_3 (by decide) (fun q => absurd q (by decide)) (fun _ => ?_)
  refine lv_aload_n hx hb dj_coder_6 rfl (lv_at hl 0 rfl) ?_
  refine vk_getf hx hb ((w5 i hi).1 0 (by decide)).2.1 hS hown (hts _ jf_coder) (fun _ h => h) dj_coder_7 ?_
  refine lv_goto (tgt := 14) hx hb dj_coder_10 (by decide) ?_
  exact W.zret hx hb hr (by decide) (fun t ht hW => ⟨rfl, ht⟩) (fun q h => by cases h) dj_coder_14
set_option maxHeartbeats 4000000 in
theorem cj_isLatin1 (l : Launch) (z : Nat) (sa sv : Nat → Nat) (i : Nat) (hi : i < 20) : Met l yJ0_isLatin1_aae02 (Cond.code yJ0_isLatin1_aae02 cJ0_isLatin1_aae02 1 (some .boolean) :: Tw) (rmJ 0 0) (PreJ z sa sv [.ref (sa i)]) (PostJ (some (.int 1))) 0 0 (fun _ => False) := by
  refine Met.ofW (cc := cJ0_isLatin1_aae02) (maxL := 1) (ret := (some .boolean)) (by decide) rfl ?_
  intro p e s m args below meth c s₁ B hml hv
  obtain ⟨rfl, hWF⟩ := hv
  have hx := B.exec
  have hb := B.bytes
  have hr := B.returns
  have hts0 := atoms_spec (ws := Cond.code yJ0_isLatin1_aae02 cJ0_isLatin1_aae02 1 (some .boolean) :: Tw) B.pre
  have hts : ∀ w ∈ Tw, w.before _ s = true := fun w h => hts0 w (List.mem_cons_of_mem _ h)
  have hown : s.vm.findClass RJ0 = some m.cls := findClass_of_methodNamed B.named
  have hlocks := B.notSynchronized
  have hS : va_S (fun q => z ≤ q) s.heap s.heap [] := va_S.rf
  obtain ⟨w1, w2, w3, w4, w5, w6, w7⟩ := id hWF
  have hl := lv_entry ([.ref (sa i)]) (n := 1) (by first | exact Nat.le_of_ble_eq_true rfl | exact sl3 j n f hf)
  rw [lg_entry_eq]
  generalize (lg_sl ([.ref (sa i)]) ++ List.replicate (1 - (lg_sl ([.ref (sa i)])).length) Slot.unset).toArray = ls at hl ⊢
  have hl : lv_has ls 1 (lv_args 0 ([.ref (sa i)])) := hl
  refine va_gets hx hb w6 hS hown (hts _ jf_comp) (fun _ h => h) dj_isLatin1_0 ?_
  refine lv_if_eq (tgt := 17) hx hb dj_isLatin1_3 (by decide) (fun q => absurd q (by decide)) (fun _ => ?_)
  refine lv_aload_n hx hb dj_isLatin1_6 rfl (lv_at hl 0 rfl) ?_
  refine vk_getf hx hb ((w5 i hi).1 0 (by decide)).2.1 hS hown (hts _ jf_coder) (fun _ h => h) dj_isLatin1_7 ?_
  refine lv_if_ne (tgt := 17) hx hb dj_isLatin1_10 (by decide) (fun q => absurd rfl q) (fun _ => ?_)
  refine lv_iconst (v := 1) hx hb dj_isLatin1_13 (by decide) ?_
  refine lv_goto (tgt := 18) hx hb dj_isLatin1_14 (by decide) ?_
  exact W.zret hx hb hr (by decide) (fun t ht hW => ⟨rfl, ht⟩) (fun q h => by cases h) dj_isLatin1_18
set_option maxHeartbeats 4000000 in
theorem cj_pcheck (l : Launch) (z : Nat) (sa sv : Nat → Nat) (j n : Int32) (f : Value) (hf : f.category = 1) (h0 : ¬ j < 0) (h1 : j < n) : Met l yJ3_checkIndex_8e157 (Cond.code yJ3_checkIndex_8e157 cJ3_checkIndex_8e157 3 (some .int) :: Tw) (rmJ 0 0) (PreJ z sa sv [.int j, .int n, f]) (PostJ (some (.int j))) 0 0 (fun _ => False) := by
  refine Met.ofW (cc := cJ3_checkIndex_8e157) (maxL := 3) (ret := (some .int)) (by decide) rfl ?_
  intro p e s m args below meth c s₁ B hml hv
  obtain ⟨rfl, hWF⟩ := hv
  have hx := B.exec
  have hb := B.bytes
  have hr := B.returns
  have hts0 := atoms_spec (ws := Cond.code yJ3_checkIndex_8e157 cJ3_checkIndex_8e157 3 (some .int) :: Tw) B.pre
  have hts : ∀ w ∈ Tw, w.before _ s = true := fun w h => hts0 w (List.mem_cons_of_mem _ h)
  have hown : s.vm.findClass RJ3 = some m.cls := findClass_of_methodNamed B.named
  have hlocks := B.notSynchronized
  have hS : va_S (fun q => z ≤ q) s.heap s.heap [] := va_S.rf
  obtain ⟨w1, w2, w3, w4, w5, w6, w7⟩ := id hWF
  have hl := lv_entry ([.int j, .int n, f]) (n := 3) (by first | exact Nat.le_of_ble_eq_true rfl | exact sl3 j n f hf)
  rw [lg_entry_eq]
  generalize (lg_sl ([.int j, .int n, f]) ++ List.replicate (3 - (lg_sl ([.int j, .int n, f])).length) Slot.unset).toArray = ls at hl ⊢
  have hl : lv_has ls 3 (lv_args 0 ([.int j, .int n, f])) := hl
  refine lv_iload_n hx hb dj_pcheck_0 rfl (lv_at hl 0 rfl) ?_
  refine lv_if_lt (tgt := 9) hx hb dj_pcheck_1 (by decide) (fun q => absurd q h0) (fun _ => ?_)
  refine lv_iload_n hx hb dj_pcheck_4 rfl (lv_at hl 0 rfl) ?_
  refine lv_iload_n hx hb dj_pcheck_5 rfl (lv_at hl 1 rfl) ?_
  refine lv_icmp_lt (tgt := 16) hx hb dj_pcheck_6 (by decide) (fun _ => ?_) (fun q => absurd h1 q)
  refine lv_iload_n hx hb dj_pcheck_16 rfl (lv_at hl 0 rfl) ?_
  exact W.iret hx hb hr (fun t ht hW => ⟨rfl, ht⟩) (fun q h => by cases h) dj_pcheck_17
set_option maxHeartbeats 4000000 in
theorem cj_check (l : Launch) (z : Nat) (sa sv : Nat → Nat) (j n : Int32) (h0 : ¬ j < 0) (h1 : j < n) : Met l yJ0_checkIndex_df160 (Cond.code yJ0_checkIndex_df160 cJ0_checkIndex_df160 2 none :: Tw) (rmJ 1 40) (PreJ z sa sv [.int j, .int n]) (PostJ none) 0 0 (fun _ => False) := by
  refine Met.ofW (cc := cJ0_checkIndex_df160) (maxL := 2) (ret := none) (by decide) rfl ?_
  intro p e s m args below meth c s₁ B hml hv
  obtain ⟨rfl, hWF⟩ := hv
  have hx := B.exec
  have hb := B.bytes
  have hr := B.returns
  have hts0 := atoms_spec (ws := Cond.code yJ0_checkIndex_df160 cJ0_checkIndex_df160 2 none :: Tw) B.pre
  have hts : ∀ w ∈ Tw, w.before _ s = true := fun w h => hts0 w (List.mem_cons_of_mem _ h)
  have hown : s.vm.findClass RJ0 = some m.cls := findClass_of_methodNamed B.named
  have hlocks := B.notSynchronized
  have hS : va_S (fun q => z ≤ q) s.heap s.heap [] := va_S.rf
  obtain ⟨w1, w2, w3, w4, w5, w6, w7⟩ := id hWF
  have hl := lv_entry ([.int j, .int n]) (n := 2) (by first | exact Nat.le_of_ble_eq_true rfl | exact sl3 j n f hf)
  rw [lg_entry_eq]
  generalize (lg_sl ([.int j, .int n]) ++ List.replicate (2 - (lg_sl ([.int j, .int n])).length) Slot.unset).toArray = ls at hl ⊢
  have hl : lv_has ls 2 (lv_args 0 ([.int j, .int n])) := hl
  refine lv_iload_n hx hb dj_check_0 rfl (lv_at hl 0 rfl) ?_
  refine lv_iload_n hx hb dj_check_1 rfl (lv_at hl 1 rfl) ?_
  obtain ⟨f, hf, hZ⟩ : ∃ f : Value, f.category = 1 ∧ va_Z "jdk/internal/util/Preconditions" "SIOOBE_FORMATTER" "Ljava/util/function/BiFunction;" f (fun q => z ≤ q) s s.heap := by
    rcases w7 with h | ⟨t, h⟩
    · exact ⟨.null, rfl, h⟩
    · exact ⟨.ref t, rfl, h⟩
  refine va_gets hx hb hZ hS hown (hts _ jf_sio) (fun _ h => h) dj_check_2 ?_
  refine sj_run (va_runS (As := [.int j, .int n, f]) (rest := []) ⟨hx, hb, hml, hown, hts⟩ (cj_pcheck l z sa sv j n f hf h0 h1) ⟨callB_of 3 hts (good_J jc_pcheck) rfl rfl rfl (hts _ jn_J3) (hts _ jl_pcheck) (by decide +kernel) ⟨Nat.le_of_ble_eq_true rfl, Nat.le_of_ble_eq_true rfl⟩, hts _ jt_pcheck⟩ ⟨prej_blind, sj_pre hWF hS⟩ rfl rfl hl.1 rfl (lv_room (Nat.le_of_ble_eq_true rfl)) dj_check_5 ⟨Nat.le_of_ble_eq_true rfl, Nat.le_of_ble_eq_true rfl⟩) ?_
  refine lv_pop hx hb dj_check_8 rfl ?_
  exact W.vret hx hb hr (fun t ht hW => ⟨rfl, ht⟩) (fun q h => by cases h) dj_check_9
set_option maxHeartbeats 4000000 in
theorem cj_lchar (l : Launch) (z : Nat) (sa sv : Nat → Nat) (i : Nat) (hi : i < 20) (j : Int32) (hj : vp_in j (litN.getD i 0)) : Met l yJ1_charAt_3b067 (Cond.code yJ1_charAt_3b067 cJ1_charAt_3b067 2 (some .char) :: Tw) (rmJ 2 80) (PreJ z sa sv [.ref (sv i), .int j]) (PostJ (some (.int ((litS.getD i []).getD j.toNatClampNeg 0)))) 0 0 (fun _ => False) := by
  refine Met.ofW (cc := cJ1_charAt_3b067) (maxL := 2) (ret := (some .char)) (by decide) rfl ?_
  intro p e s m args below meth c s₁ B hml hv
  obtain ⟨rfl, hWF⟩ := hv
  have hx := B.exec
  have hb := B.bytes
  have hr := B.returns
  have hts0 := atoms_spec (ws := Cond.code yJ1_charAt_3b067 cJ1_charAt_3b067 2 (some .char) :: Tw) B.pre
  have hts : ∀ w ∈ Tw, w.before _ s = true := fun w h => hts0 w (List.mem_cons_of_mem _ h)
  have hown : s.vm.findClass RJ1 = some m.cls := findClass_of_methodNamed B.named
  have hlocks := B.notSynchronized
  have hS : va_S (fun q => z ≤ q) s.heap s.heap [] := va_S.rf
  obtain ⟨w1, w2, w3, w4, w5, w6, w7⟩ := id hWF
  have hl := lv_entry ([.ref (sv i), .int j]) (n := 2) (by first | exact Nat.le_of_ble_eq_true rfl | exact sl3 j n f hf)
  rw [lg_entry_eq]
  generalize (lg_sl ([.ref (sv i), .int j]) ++ List.replicate (2 - (lg_sl ([.ref (sv i), .int j])).length) Slot.unset).toArray = ls at hl ⊢
  have hl : lv_has ls 2 (lv_args 0 ([.ref (sv i), .int j])) := hl
  obtain ⟨k, hk, rfl⟩ := vp_in_of hj (lit_sm i hi)
  have hlN := lit_sm i hi
  refine lv_iload_n hx hb dj_lchar_0 rfl (lv_at hl 1 rfl) ?_
  refine lv_aload_n hx hb dj_lchar_1 rfl (lv_at hl 0 rfl) ?_
  refine va_tlen hx hb ((w5 i hi).1 0 (by decide)).2.2.2 hS rfl dj_lchar_2 ?_
  refine sj_run (va_runS (As := [.int (nI k), .int (Int32.ofNat (litN.getD i 0))]) (rest := []) ⟨hx, hb, hml, hown, hts⟩ (cj_check l z sa sv (nI k) (Int32.ofNat (litN.getD i 0)) (nI_pos (by omega)) (nI_lt hk hlN)) ⟨callB_of 2 hts (good_J jc_check) rfl rfl rfl (hts _ jn_J0) (hts _ jl_check) (by decide +kernel) ⟨Nat.le_of_ble_eq_true rfl, Nat.le_of_ble_eq_true rfl⟩, hts _ jt_check⟩ ⟨prej_blind, sj_pre hWF hS⟩ rfl rfl hl.1 rfl (lv_room (Nat.le_of_ble_eq_true rfl)) dj_lchar_3 ⟨Nat.le_of_ble_eq_true rfl, Nat.le_of_ble_eq_true rfl⟩) ?_
  refine lv_aload_n hx hb dj_lchar_6 rfl (lv_at hl 0 rfl) ?_
  refine lv_iload_n hx hb dj_lchar_7 rfl (lv_at hl 1 rfl) ?_
  refine va_tb hx hb ((w5 i hi).1 0 (by decide)).2.2.2 hS hj rfl dj_lchar_8 ?_
  refine lv_sipush (v := 255) hx hb dj_lchar_9 (by decide) ?_
  refine lv_iand hx hb dj_lchar_12 ?_
  refine lv_i2c (v := (litS.getD i []).getD (nI k).toNatClampNeg 0) hx hb dj_lchar_13 (lit_ch i hi _) ?_
  exact W.zret hx hb hr (lit_nar i hi _) (fun t ht hW => ⟨rfl, ht⟩) (fun q h => by cases h) dj_lchar_14
set_option maxHeartbeats 4000000 in
theorem cj_length (l : Launch) (z : Nat) (sa sv : Nat → Nat) (i : Nat) (hi : i < 20) : Met l yJ0_length_8abf5 (Cond.code yJ0_length_8abf5 cJ0_length_8abf5 1 (some .int) :: Tw) (rmJ 1 40) (PreJ z sa sv [.ref (sa i)]) (PostJ (some (.int (nI (litN.getD i 0))))) 0 0 (fun _ => False) := by
  refine Met.ofW (cc := cJ0_length_8abf5) (maxL := 1) (ret := (some .int)) (by decide) rfl ?_
  intro p e s m args below meth c s₁ B hml hv
  obtain ⟨rfl, hWF⟩ := hv
  have hx := B.exec
  have hb := B.bytes
  have hr := B.returns
  have hts0 := atoms_spec (ws := Cond.code yJ0_length_8abf5 cJ0_length_8abf5 1 (some .int) :: Tw) B.pre
  have hts : ∀ w ∈ Tw, w.before _ s = true := fun w h => hts0 w (List.mem_cons_of_mem _ h)
  have hown : s.vm.findClass RJ0 = some m.cls := findClass_of_methodNamed B.named
  have hlocks := B.notSynchronized
  have hS : va_S (fun q => z ≤ q) s.heap s.heap [] := va_S.rf
  obtain ⟨w1, w2, w3, w4, w5, w6, w7⟩ := id hWF
  have hl := lv_entry ([.ref (sa i)]) (n := 1) (by first | exact Nat.le_of_ble_eq_true rfl | exact sl3 j n f hf)
  rw [lg_entry_eq]
  generalize (lg_sl ([.ref (sa i)]) ++ List.replicate (1 - (lg_sl ([.ref (sa i)])).length) Slot.unset).toArray = ls at hl ⊢
  have hl : lv_has ls 1 (lv_args 0 ([.ref (sa i)])) := hl
  refine lv_aload_n hx hb dj_length_0 rfl (lv_at hl 0 rfl) ?_
  refine vk_getf hx hb ((w5 i hi).1 0 (by decide)).2.2.1 hS hown (hts _ jf_value) (fun _ h => h) dj_length_1 ?_
  refine va_tlen (v := nI (litN.getD i 0)) hx hb ((w5 i hi).1 0 (by decide)).2.2.2 hS rfl dj_length_4 ?_
  refine lv_aload_n hx hb dj_length_5 rfl (lv_at hl 0 rfl) ?_
  refine sj_run (va_runV (As := []) (rest := [.int (nI (litN.getD i 0))]) (C := RJ0) (b := sa i) ⟨hx, hb, hml, hown, hts⟩ (cj_coder l z sa sv i hi) ⟨callB_of 0 hts (good_J jc_coder) rfl rfl rfl (hts _ jn_J0) (hts _ jl_coder) (by decide +kernel) ⟨Nat.le_of_ble_eq_true rfl, Nat.le_of_ble_eq_true rfl⟩, hts _ ji_coder, hts _ js_coder⟩ ⟨prej_blind, vk_recv (i := 0) (adK := fun _ => sa i) (w5 i hi) (Nat.zero_lt_one) hS, sj_pre hWF hS⟩ rfl rfl hl.1 rfl (lv_room (Nat.le_of_ble_eq_true rfl)) dj_length_6 ⟨Nat.le_of_ble_eq_true rfl, Nat.le_of_ble_eq_true rfl⟩) ?_
  refine lv_ishr hx hb dj_length_9 ?_
  have e9 : nI (litN.getD i 0) >>> ((0 : Int32) &&& 31) = nI (litN.getD i 0) := sb_shr0 _
  rw [e9]
  exact W.iret hx hb hr (fun t ht hW => ⟨rfl, ht⟩) (fun q h => by cases h) dj_length_10
set_option maxHeartbeats 4000000 in
theorem cj_charAt (l : Launch) (z : Nat) (sa sv : Nat → Nat) (i : Nat) (hi : i < 20) (j : Int32) (hj : vp_in j (litN.getD i 0)) : Met l yJ0_charAt_5068e (Cond.code yJ0_charAt_5068e cJ0_charAt_5068e 2 (some .char) :: Tw) (rmJ 3 120) (PreJ z sa sv [.ref (sa i), .int j]) (PostJ (some (.int ((litS.getD i []).getD j.toNatClampNeg 0)))) 0 0 (fun _ => False) := by
  refine Met.ofW (cc := cJ0_charAt_5068e) (maxL := 2) (ret := (some .char)) (by decide) rfl ?_
  intro p e s m args below meth c s₁ B hml hv
  obtain ⟨rfl, hWF⟩ := hv
  have hx := B.exec
  have hb := B.bytes
  have hr := B.returns
  have hts0 := atoms_spec (ws := Cond.code yJ0_charAt_5068e cJ0_charAt_5068e 2 (some .char) :: Tw) B.pre
  have hts : ∀ w ∈ Tw, w.before _ s = true := fun w h => hts0 w (List.mem_cons_of_mem _ h)
  have hown : s.vm.findClass RJ0 = some m.cls := findClass_of_methodNamed B.named
  have hlocks := B.notSynchronized
  have hS : va_S (fun q => z ≤ q) s.heap s.heap [] := va_S.rf
  obtain ⟨w1, w2, w3, w4, w5, w6, w7⟩ := id hWF
  have hl := lv_entry ([.ref (sa i), .int j]) (n := 2) (by first | exact Nat.le_of_ble_eq_true rfl | exact sl3 j n f hf)
  rw [lg_entry_eq]
  generalize (lg_sl ([.ref (sa i), .int j]) ++ List.replicate (2 - (lg_sl ([.ref (sa i), .int j])).length) Slot.unset).toArray = ls at hl ⊢
  have hl : lv_has ls 2 (lv_args 0 ([.ref (sa i), .int j])) := hl
  refine lv_aload_n hx hb dj_charAt_0 rfl (lv_at hl 0 rfl) ?_
  refine sj_run (va_runV (As := []) (rest := []) (C := RJ0) (b := sa i) ⟨hx, hb, hml, hown, hts⟩ (cj_isLatin1 l z sa sv i hi) ⟨callB_of 0 hts (good_J jc_isLatin1) rfl rfl rfl (hts _ jn_J0) (hts _ jl_isLatin1) (by decide +kernel) ⟨Nat.le_of_ble_eq_true rfl, Nat.le_of_ble_eq_true rfl⟩, hts _ ji_isLatin1, hts _ js_isLatin1⟩ ⟨prej_blind, vk_recv (i := 0) (adK := fun _ => sa i) (w5 i hi) (Nat.zero_lt_one) hS, sj_pre hWF hS⟩ rfl rfl hl.1 rfl (lv_room (Nat.le_of_ble_eq_true rfl)) dj_charAt_1 ⟨Nat.le_of_ble_eq_true rfl, Nat.le_of_ble_eq_true rfl⟩) ?_
  refine lv_if_eq (tgt := 16) hx hb dj_charAt_4 (by decide) (fun q => absurd q (by decide)) (fun _ => ?_)
  refine lv_aload_n hx hb dj_charAt_7 rfl (lv_at hl 0 rfl) ?_
  refine vk_getf hx hb ((w5 i hi).1 0 (by decide)).2.2.1 hS hown (hts _ jf_value) (fun _ h => h) dj_charAt_8 ?_
  refine lv_iload_n hx hb dj_charAt_11 rfl (lv_at hl 1 rfl) ?_
  refine sj_run (va_runS (As := [.ref (sv i), .int j]) (rest := []) ⟨hx, hb, hml, hown, hts⟩ (cj_lchar l z sa sv i hi j hj) ⟨callB_of 2 hts (good_J jc_lchar) rfl rfl rfl (hts _ jn_J1) (hts _ jl_lchar) (by decide +kernel) ⟨Nat.le_of_ble_eq_true rfl, Nat.le_of_ble_eq_true rfl⟩, hts _ jt_lchar⟩ ⟨prej_blind, sj_pre hWF hS⟩ rfl rfl hl.1 rfl (lv_room (Nat.le_of_ble_eq_true rfl)) dj_charAt_12 ⟨Nat.le_of_ble_eq_true rfl, Nat.le_of_ble_eq_true rfl⟩) ?_
  exact W.zret hx hb hr (lit_nar i hi _) (fun t ht hW => ⟨rfl, ht⟩) (fun q h => by cases h) dj_charAt_15
