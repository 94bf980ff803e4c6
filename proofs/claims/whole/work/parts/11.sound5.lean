/-! a step of the small machine, a whole call of it -/
def ckP : List (List mE) → List mR → Prop
  | [], [] => True
  | k :: ks, r :: rs => (k.all (okE r.2.1) = true ∧ k.all (okX r.2.2.2.2.1 (Nat.beq r.2.2.2.2.2.1 2)) = true) ∧ ckP ks rs
  | _, _ => False
set_option maxRecDepth 100000 in
theorem ck_all : ckP mcode (mTab ++ [mD]) := ⟨⟨ck_0, cx_0⟩, ⟨ck_1, cx_1⟩, ⟨ck_2, cx_2⟩, ⟨ck_3, cx_3⟩, ⟨ck_4, cx_4⟩, ⟨ck_5, cx_5⟩, ⟨ck_6, cx_6⟩, ⟨ck_7, cx_7⟩, ⟨ck_8, cx_8⟩, ⟨ck_9, cx_9⟩, ⟨ck_10, cx_10⟩, ⟨ck_11, cx_11⟩, ⟨ck_12, cx_12⟩, ⟨ck_13, cx_13⟩, ⟨ck_14, cx_14⟩, ⟨ck_15, cx_15⟩, ⟨ck_16, cx_16⟩, ⟨ck_17, cx_17⟩, ⟨ck_18, cx_18⟩, ⟨ck_19, cx_19⟩, ⟨ck_20, cx_20⟩, ⟨ck_21, cx_21⟩, ⟨ck_22, cx_22⟩, ⟨ck_23, cx_23⟩, ⟨ck_24, cx_24⟩, ⟨ck_25, cx_25⟩, ⟨ck_26, cx_26⟩, ⟨ck_27, cx_27⟩, ⟨ck_28, cx_28⟩, ⟨ck_29, cx_29⟩, ⟨ck_30, cx_30⟩, ⟨ck_31, cx_31⟩, ⟨ck_32, cx_32⟩, ⟨ck_33, cx_33⟩, ⟨ck_34, cx_34⟩, ⟨ck_35, cx_35⟩, ⟨ck_36, cx_36⟩, ⟨ck_37, cx_37⟩, ⟨ck_38, cx_38⟩, ⟨ck_39, cx_39⟩, ⟨ck_40, cx_40⟩, ⟨ck_41, cx_41⟩, ⟨ck_42, cx_42⟩, ⟨ck_43, cx_43⟩, ⟨ck_44, cx_44⟩, ⟨ck_45, cx_45⟩, ⟨ck_46, cx_46⟩, ⟨ck_47, cx_47⟩, ⟨ck_48, cx_48⟩, ⟨ck_49, cx_49⟩, ⟨ck_50, cx_50⟩, ⟨ck_51, cx_51⟩, ⟨ck_52, cx_52⟩, ⟨ck_53, cx_53⟩, ⟨ck_54, cx_54⟩, ⟨ck_55, cx_55⟩, ⟨ck_56, cx_56⟩, ⟨ck_57, cx_57⟩, ⟨ck_58, cx_58⟩, ⟨ck_59, cx_59⟩, ⟨ck_60, cx_60⟩, ⟨ck_61, cx_61⟩, ⟨ck_62, cx_62⟩, ⟨ck_63, cx_63⟩, ⟨ck_64, cx_64⟩, ⟨ck_65, cx_65⟩, ⟨ck_66, cx_66⟩, ⟨ck_67, cx_67⟩, ⟨ck_68, cx_68⟩, ⟨ck_69, cx_69⟩, ⟨ck_70, cx_70⟩, ⟨ck_71, cx_71⟩, ⟨ck_72, cx_72⟩, ⟨ck_73, cx_73⟩, ⟨ck_74, cx_74⟩, ⟨ck_75, cx_75⟩, ⟨ck_76, cx_76⟩, ⟨ck_77, cx_77⟩, ⟨ck_78, cx_78⟩, ⟨ck_79, cx_79⟩, ⟨ck_80, cx_80⟩, ⟨ck_81, cx_81⟩, ⟨ck_82, cx_82⟩, ⟨ck_83, cx_83⟩, ⟨ck_84, cx_84⟩, ⟨ck_85, cx_85⟩, ⟨ck_86, cx_86⟩, ⟨ck_87, cx_87⟩, ⟨ck_88, cx_88⟩, ⟨ck_89, cx_89⟩, ⟨ck_90, cx_90⟩, ⟨ck_91, cx_91⟩, ⟨ck_92, cx_92⟩, ⟨ck_93, cx_93⟩, ⟨ck_94, cx_94⟩, ⟨ck_95, cx_95⟩, ⟨ck_96, cx_96⟩, ⟨ck_97, cx_97⟩, ⟨ck_98, cx_98⟩, ⟨ck_99, cx_99⟩, ⟨ck_100, cx_100⟩, ⟨ck_101, cx_101⟩, ⟨ck_102, cx_102⟩, ⟨ck_103, cx_103⟩, ⟨ck_104, cx_104⟩, ⟨ck_105, cx_105⟩, ⟨ck_106, cx_106⟩, ⟨ck_107, cx_107⟩, ⟨ck_108, cx_108⟩, ⟨ck_109, cx_109⟩, ⟨ck_110, cx_110⟩, ⟨ck_111, cx_111⟩, ⟨ck_112, cx_112⟩, ⟨ck_113, cx_113⟩, ⟨ck_114, cx_114⟩, ⟨ck_115, cx_115⟩, ⟨ck_116, cx_116⟩, ⟨ck_117, cx_117⟩, ⟨ck_118, cx_118⟩, ⟨ck_119, cx_119⟩, ⟨ck_120, cx_120⟩, ⟨ck_121, cx_121⟩, ⟨ck_122, cx_122⟩, ⟨ck_123, cx_123⟩, ⟨ck_124, cx_124⟩, ⟨ck_125, cx_125⟩, ⟨ck_126, cx_126⟩, ⟨ck_127, cx_127⟩, ⟨ck_128, cx_128⟩, ⟨ck_129, cx_129⟩, ⟨ck_130, cx_130⟩, ⟨ck_131, cx_131⟩, ⟨ck_132, cx_132⟩, ⟨ck_133, cx_133⟩, ⟨ck_134, cx_134⟩, ⟨ck_135, cx_135⟩, ⟨ck_136, cx_136⟩, ⟨ck_137, cx_137⟩, ⟨ck_138, cx_138⟩, ⟨ck_139, cx_139⟩, ⟨ck_140, cx_140⟩, ⟨ck_141, cx_141⟩, ⟨ck_142, cx_142⟩, ⟨ck_143, cx_143⟩, ⟨ck_144, cx_144⟩, ⟨ck_145, cx_145⟩, ⟨ck_146, cx_146⟩, ⟨ck_147, cx_147⟩, ⟨ck_148, cx_148⟩, ⟨ck_149, cx_149⟩, ⟨ck_150, cx_150⟩, ⟨ck_151, cx_151⟩, ⟨ck_152, cx_152⟩, ⟨ck_153, cx_153⟩, ⟨ck_154, cx_154⟩, ⟨ck_155, cx_155⟩, ⟨ck_156, cx_156⟩, ⟨ck_157, cx_157⟩, ⟨ck_158, cx_158⟩, ⟨ck_159, cx_159⟩, ⟨ck_160, cx_160⟩, ⟨ck_161, cx_161⟩, ⟨ck_162, cx_162⟩, ⟨ck_163, cx_163⟩, ⟨ck_164, cx_164⟩, ⟨ck_165, cx_165⟩, ⟨ck_166, cx_166⟩, ⟨ck_167, cx_167⟩, ⟨ck_168, cx_168⟩, ⟨ck_169, cx_169⟩, ⟨ck_170, cx_170⟩, ⟨ck_171, cx_171⟩, ⟨ck_172, cx_172⟩, ⟨ck_173, cx_173⟩, ⟨ck_174, cx_174⟩, ⟨ck_175, cx_175⟩, ⟨ck_176, cx_176⟩, ⟨ck_177, cx_177⟩, ⟨ck_178, cx_178⟩, ⟨ck_179, cx_179⟩, ⟨ck_180, cx_180⟩, ⟨ck_181, cx_181⟩, ⟨ck_182, cx_182⟩, ⟨ck_183, cx_183⟩, ⟨ck_184, cx_184⟩, ⟨ck_185, cx_185⟩, ⟨ck_186, cx_186⟩, ⟨ck_187, cx_187⟩, ⟨ck_188, cx_188⟩, ⟨ck_189, cx_189⟩, ⟨ck_190, cx_190⟩, ⟨ck_191, cx_191⟩, ⟨ck_192, cx_192⟩, ⟨ck_193, cx_193⟩, ⟨ck_194, cx_194⟩, ⟨ck_195, cx_195⟩, ⟨ck_196, cx_196⟩, ⟨ck_197, cx_197⟩, ⟨ck_198, cx_198⟩, ⟨ck_199, cx_199⟩, ⟨ck_200, cx_200⟩, ⟨ck_201, cx_201⟩, ⟨ck_202, cx_202⟩, ⟨ck_203, cx_203⟩, ⟨ck_204, cx_204⟩, ⟨ck_205, cx_205⟩, ⟨ck_206, cx_206⟩, ⟨ck_207, cx_207⟩, ⟨ck_208, cx_208⟩, ⟨ck_209, cx_209⟩, ⟨ck_210, cx_210⟩, ⟨ck_211, cx_211⟩, ⟨ck_212, cx_212⟩, ⟨ck_213, cx_213⟩, ⟨ck_214, cx_214⟩, ⟨ck_215, cx_215⟩, ⟨ck_216, cx_216⟩, ⟨ck_217, cx_217⟩, ⟨ck_218, cx_218⟩, ⟨ck_219, cx_219⟩, ⟨ck_220, cx_220⟩, ⟨ck_221, cx_221⟩, ⟨ck_222, cx_222⟩, ⟨ck_223, cx_223⟩, ⟨ck_224, cx_224⟩, ⟨ck_225, cx_225⟩, ⟨ck_226, cx_226⟩, ⟨ck_227, cx_227⟩, ⟨ck_228, cx_228⟩, ⟨ck_229, cx_229⟩, ⟨ck_230, cx_230⟩, ⟨ck_231, cx_231⟩, ⟨ck_232, cx_232⟩, ⟨ck_233, cx_233⟩, ⟨ck_234, cx_234⟩, ⟨ck_235, cx_235⟩, ⟨ck_236, cx_236⟩, ⟨ck_237, cx_237⟩, ⟨ck_238, cx_238⟩, ⟨ck_239, cx_239⟩, ⟨ck_240, cx_240⟩, ⟨ck_241, cx_241⟩, ⟨ck_242, cx_242⟩, ⟨ck_243, cx_243⟩, ⟨ck_244, cx_244⟩, trivial⟩
theorem ckP_at : ∀ (ks : List (List mE)) (rs : List mR), ckP ks rs → ∀ (i : Nat) (k : List mE) (r : mR), ks[i]? = some k → rs[i]? = some r → k.all (okE r.2.1) = true ∧ k.all (okX r.2.2.2.2.1 (Nat.beq r.2.2.2.2.2.1 2)) = true
  | [], [], _, i, k, r, h1, _ => by simp at h1
  | k0 :: ks, r0 :: rs, h, 0, k, r, h1, h2 => by
    simp only [List.getElem?_cons_zero, Option.some.injEq] at h1 h2
    subst h1; subst h2
    exact h.1
  | k0 :: ks, r0 :: rs, h, i + 1, k, r, h1, h2 => ckP_at ks rs h.2 i k r (by simpa using h1) (by simpa using h2)
  | [], r0 :: rs, h, _, _, _, _, _ => h.elim
  | k0 :: ks, [], h, _, _, _, _, _ => h.elim
theorem lkI_mem : ∀ {l : List mE} {pc : Nat} {x : Instr × Nat × Nat}, lkI l pc = some x → (pc, x) ∈ l
  | [], _, _, h => by simp [lkI] at h
  | (p, y) :: r, pc, x, h => by
    unfold lkI at h
    split at h
    · rename_i hb
      cases h
      rw [Nat.eq_of_beq_eq_true hb]
      exact List.mem_cons_self
    · exact List.mem_cons_of_mem _ (lkI_mem h)
theorem len_code : mcode.length = 245 := by decide +kernel
theorem len_tab : mTab.length = 244 := by decide +kernel
theorem ins_ok {i pc : Nat} {op : Instr} {a b : Nat} (h : ins i pc = some (op, a, b)) : okE (mByt i) (pc, op, a, b) = true ∧ okX (mOwn i) (Nat.beq (mKd i) 2) (pc, op, a, b) = true := by
  have hm := lkI_mem h
  by_cases hi : i < 245
  · have e1 : mcode[i]? = some (mcode.getD i []) := by
      rw [List.getD_eq_getElem?_getD, List.getElem?_eq_getElem (by rw [len_code]; exact hi)]; rfl
    have e2 : (mTab ++ [mD])[i]? = some (mRow i) := by
      unfold mRow
      by_cases hj : i < 244
      · rw [List.getElem?_append_left (by rw [len_tab]; exact hj), List.getD_eq_getElem?_getD, List.getElem?_eq_getElem (by rw [len_tab]; exact hj)]; rfl
      · have hj : i = 244 := by omega
        subst hj
        rw [List.getElem?_append_right (by rw [len_tab]; exact Nat.le_refl _), len_tab, List.getD_eq_getElem?_getD, List.getElem?_eq_none (l := mTab) (by rw [len_tab]; exact Nat.le_refl _)]
        rfl
    obtain ⟨q1, q2⟩ := ckP_at _ _ ck_all i _ _ e1 e2
    exact ⟨List.all_eq_true.mp q1 _ hm, List.all_eq_true.mp q2 _ hm⟩
  · have e1 : mcode.getD i [] = [] := by
      rw [List.getD_eq_getElem?_getD, List.getElem?_eq_none (by rw [len_code]; omega)]; rfl
    rw [e1] at hm
    simp at hm
theorem dec_ok {i pc : Nat} {op : Instr} {a b : Nat} (h : okE (mByt i) (pc, op, a, b) = true) : ∃ len, decode (mByt i) pc = .ok (op, len) ∧ (lenOf op = len ∨ lenOf op = 0) := by
  unfold okE at h
  split at h
  · rename_i op9 len hd
    simp only [Bool.and_eq_true, decide_eq_true_eq, Bool.or_eq_true] at h
    obtain ⟨rfl, h9⟩ := h
    refine ⟨len, hd, ?_⟩
    rcases h9 with h9 | h9
    · exact Or.inl (Nat.eq_of_beq_eq_true h9)
    · exact Or.inr (Nat.eq_of_beq_eq_true h9)
  · cases h
section SNS
variable {z : Nat} {sa sv : Nat → Nat} {cA : Nat → ClassId} {D : va_G} {p : Program} {l : Launch} {e : Env} {R : Room} {s : State} {m : MethodId} {args : Array Value} {below : List Frame} {meth : Method} {c : Code} {i : Nat} {Q : State → Prop} {H : Heap} {locs : List Loc} {ls : Array Slot} {pc : Nat} {lv : aL} {st : List Value} {h : aH} {c1 s1 cT sT : Nat} {K : aK}
theorem lit_len : ∀ q, q < 20 → (lit q).length = litN.getD q 0 := by decide +kernel
theorem sn_len {ix : Nat} (X : Cx z sa sv cA D p s m args meth c i R) (hK : KW z sa cA D p l e R s m args below meth c i Q cT sT K) (hC : Cf z sa cA D s H locs h c1) (hl : lv_has ls (mMax i) (rL z sa lv)) (h1 : c1 ≤ cT) (h2 : s1 ≤ sT) (hd : decode (mByt i) pc = .ok (.invokevirtual ix, 3)) (hk : (mOwn i, ix, 0, 1004) ∈ mthL) (hR2 : cT ≤ R.cells ∧ sT ≤ R.slots) {q : Nat} {r : List Value} (ee : st = .retAddr q :: r) (hq : q < 20) (hr8 : (r.map fun v => v.category).sum ≤ 8) (hc : K (pc + 3) lv (.int (nI (lit q).length) :: r) h c1 s1) : W p l e R s m args below meth c H locs c1 s1 Q (F0 m pc ls (st.map (rV z sa))) := by
  obtain ⟨hx, hb, hml, hown, hts, hKs, hWF, hz, hin, hfr, hlo⟩ := X
  obtain ⟨l1, l2⟩ := mth_n hk (by decide)
  rw [l2] at l1
  subst ee
  have kk := hK _ _ _ _ _ _ hc H locs ls hC hl h1 h2
  rw [show nI (lit q).length = nI (litN.getD q 0) from congrArg nI (lit_len q hq)] at kk
  exact sj_run (va_runV (As := []) (rest := r.map (rV z sa)) (C := RJ0) (b := sa q) ⟨hx, hb, hml, hown, hts⟩ (cj_length l z sa sv q hq) ⟨callB_of 0 hts (good_J jc_length) rfl rfl rfl (hts _ jn_J0) (hts _ l1) (by decide +kernel) ⟨by show 1 + 1 ≤ _; omega, by show 8 + (1 + 11) + 40 ≤ _; omega⟩, hts _ ji_length, hts _ js_length⟩ ⟨prej_blind, vk_recv (i := 0) (adK := fun _ => sa q) (hWF.2.2.2.2.1 q hq) (Nat.zero_lt_one) hC.2.1, sj_pre hWF hC.2.1⟩ rfl rfl hl.1 rfl (lv_room (by rw [rV_sum]; exact hr8)) hd ⟨by omega, by omega⟩) kk
theorem sn_chr {ix : Nat} (X : Cx z sa sv cA D p s m args meth c i R) (hK : KW z sa cA D p l e R s m args below meth c i Q cT sT K) (hC : Cf z sa cA D s H locs h c1) (hl : lv_has ls (mMax i) (rL z sa lv)) (h1 : c1 ≤ cT) (h2 : s1 ≤ sT) (hd : decode (mByt i) pc = .ok (.invokevirtual ix, 3)) (hk : (mOwn i, ix, 0, 1005) ∈ mthL) (hR2 : cT ≤ R.cells ∧ sT ≤ R.slots) {j : Int32} {q : Nat} {r : List Value} (ee : st = .int j :: .retAddr q :: r) (hq : q < 20) (hr8 : (r.map fun v => v.category).sum ≤ 8) (hj : vp_in j (lit q).length) (hc : K (pc + 3) lv (.int ((lit q).getD j.toNatClampNeg 0) :: r) h c1 s1) : W p l e R s m args below meth c H locs c1 s1 Q (F0 m pc ls (st.map (rV z sa))) := by
  obtain ⟨hx, hb, hml, hown, hts, hKs, hWF, hz, hin, hfr, hlo⟩ := X
  obtain ⟨l1, l2⟩ := mth_n hk (by decide)
  rw [l2] at l1
  subst ee
  have kk := hK _ _ _ _ _ _ hc H locs ls hC hl h1 h2
  rw [lit_len q hq] at hj
  exact sj_run (va_runV (As := [.int j]) (rest := r.map (rV z sa)) (C := RJ0) (b := sa q) ⟨hx, hb, hml, hown, hts⟩ (cj_charAt l z sa sv q hq j hj) ⟨callB_of 1 hts (good_J jc_charAt) rfl rfl rfl (hts _ jn_J0) (hts _ l1) (by decide +kernel) ⟨by show 3 + 1 ≤ _; omega, by show 8 + (2 + 11) + 120 ≤ _; omega⟩, hts _ ji_charAt, hts _ js_charAt⟩ ⟨prej_blind, vk_recv (i := 0) (adK := fun _ => sa q) (hWF.2.2.2.2.1 q hq) (Nat.zero_lt_one) hC.2.1, sj_pre hWF hC.2.1⟩ rfl rfl hl.1 rfl (lv_room (by rw [rV_sum]; exact hr8)) hd ⟨by omega, by omega⟩) kk
theorem no_nst0 : ∀ q ∈ nstL, q.2.2.2 < 1000 := by decide +kernel
theorem no_nst (o ix : Nat) : (o, ix, 3, 1000) ∉ nstL := fun h9 => absurd (no_nst0 _ h9) (by simp)
set_option maxHeartbeats 8000000 in
theorem sn_step {C : aC} {d : Nat} {op : Instr} {a b : Nat} {r : Option Value} {h9 : aH} (X : Cx z sa sv cA D p s m args meth c i R) (hK : KW z sa cA D p l e R s m args below meth c i Q cT sT K) (hC : Cf z sa cA D s H locs h c1) (hl : lv_has ls (mMax i) (rL z sa lv)) (h1 : c1 ≤ cT) (h2 : s1 ≤ sT) (hR2 : cT ≤ R.cells ∧ sT ≤ R.slots) (hCal : CalOK z sa sv cA D l d C) (hR : d + 5 ≤ R.frames ∧ 100 * d + 460 ≤ R.locals)
    (hS1 : ∀ (h : aH) (j x : Int32), C 2000 [.int j] h (some (.int x)) h 0 0 → ∃ L xs, va_X (sa 1000) L xs s s.heap ∧ sa 1000 < s.heap.size ∧ sa 1000 < z ∧ vp_in j L ∧ x = xs j.toNatClampNeg)
    (hS2 : ∀ (h : aH) (x : Int32), C 2001 [] h (some (.int x)) h 0 0 → ∃ L xs, va_X (sa 1000) L xs s s.heap ∧ sa 1000 < s.heap.size ∧ sa 1000 < z ∧ x = Int32.ofNat L)
    (hRi : ∀ (H : Heap) (locs : List Loc) (pc : Nat) (ls : Array Slot) (x : Int32), decode (mByt i) pc = .ok (.ireturn, 1) → Cf z sa cA D s H locs h9 cT → r = some (.int x) → (∃ ty, mRet i = some ty ∧ narrow ty (.int x) = .int x) → W p l e R s m args below meth c H locs cT sT Q (F0 m pc ls [.int x]))
    (hRl : ∀ (H : Heap) (locs : List Loc) (pc : Nat) (ls : Array Slot) (x : Int64), decode (mByt i) pc = .ok (.lreturn, 1) → Cf z sa cA D s H locs h9 cT → r = some (.long x) → mRet i = some .long → W p l e R s m args below meth c H locs cT sT Q (F0 m pc ls [.long x]))
    (hRv : ∀ (H : Heap) (locs : List Loc) (pc : Nat) (ls : Array Slot), decode (mByt i) pc = .ok (.return_, 1) → Cf z sa cA D s H locs h9 cT → r = none → mRet i = none → W p l e R s m args below meth c H locs cT sT Q (F0 m pc ls []))
    (hi : ins i pc = some (op, a, b)) (ho : StpOp C i K op a b pc lv st h c1 s1 r h9 cT sT) : W p l e R s m args below meth c H locs c1 s1 Q (F0 m pc ls (st.map (rV z sa))) := by
  have hko := ins_ok hi
  obtain ⟨len, hd0, hd1⟩ := dec_ok hko.1
  have ox := hko.2
  have hd : ¬ lenOf op = 0 → decode (mByt i) pc = .ok (op, lenOf op) := fun q => by rcases hd1 with h9 | h9; rw [h9]; exact hd0; exact absurd h9 q
  cases op
  case iload_n k => exact sn_iload_n X hK hC hl h1 h2 (hd (by simp [lenOf])) ho
  case iload k => exact sn_iload X hK hC hl h1 h2 (hd (by simp [lenOf])) ho
  case lload_n k => exact sn_lload_n X hK hC hl h1 h2 (hd (by simp [lenOf])) ho
  case lload k => exact sn_lload X hK hC hl h1 h2 (hd (by simp [lenOf])) ho
  case aload_n k => exact sn_aload_n X hK hC hl h1 h2 (hd (by simp [lenOf])) ho
  case aload k => exact sn_aload X hK hC hl h1 h2 (hd (by simp [lenOf])) ho
  case istore_n k => exact sn_istore_n X hK hC hl h1 h2 (hd (by simp [lenOf])) ho
  case istore k => exact sn_istore X hK hC hl h1 h2 (hd (by simp [lenOf])) ho
  case lstore_n k => exact sn_lstore_n X hK hC hl h1 h2 (hd (by simp [lenOf])) ho
  case lstore k => exact sn_lstore X hK hC hl h1 h2 (hd (by simp [lenOf])) ho
  case astore_n k => exact sn_astore_n X hK hC hl h1 h2 (hd (by simp [lenOf])) ho
  case astore k => exact sn_astore X hK hC hl h1 h2 (hd (by simp [lenOf])) ho
  case iinc k n => obtain ⟨x, g1, g2, g3⟩ := ho; exact sn_iinc X hK hC hl h1 h2 (hd (by simp [lenOf])) g1 g2 g3
  case goto off => exact sn_goto X hK hC hl h1 h2 (hd (by simp [lenOf])) (by simpa [okX] using ox) ho
  case ifCond cd off => obtain ⟨x, r0, g1, g2, g3⟩ := ho; exact sn_if X hK hC hl h1 h2 (hd (by simp [lenOf])) (by simpa [okX] using ox) g1 g2 g3
  case if_icmp cd off => obtain ⟨x, y, r0, g1, g2, g3⟩ := ho; exact sn_icmp X hK hC hl h1 h2 (hd (by simp [lenOf])) (by simpa [okX] using ox) g1 g2 g3
  case ifnonnull off => exact sn_nonnull X hK hC hl h1 h2 (hd (by simp [lenOf])) (by simpa [okX] using ox) ho
  case tableswitch df lo hi offs => obtain ⟨x, r0, off, g1, g2, g3, g4⟩ := ho; exact sn_tsw X hK hC hl h1 h2 hd0 g1 g2 g3 g4
  case lookupswitch df ps => obtain ⟨x, r0, off, g1, g2, g3, g4, g5⟩ := ho; exact sn_lsw X hK hC hl h1 h2 hd0 g1 g2 g3 g4 g5
  case idiv => obtain ⟨x, y, r0, g1, g2, g3⟩ := ho; exact sn_idiv X hK hC hl h1 h2 (hd (by simp [lenOf])) g1 g2 g3
  case irem => obtain ⟨x, y, r0, g1, g2, g3⟩ := ho; exact sn_irem X hK hC hl h1 h2 (hd (by simp [lenOf])) g1 g2 g3
  case ldiv => obtain ⟨x, y, r0, g1, g2, g3⟩ := ho; exact sn_ldiv X hK hC hl h1 h2 (hd (by simp [lenOf])) g1 g2 g3
  case lrem => obtain ⟨x, y, r0, g1, g2, g3⟩ := ho; exact sn_lrem X hK hC hl h1 h2 (hd (by simp [lenOf])) g1 g2 g3
  case getfield ix => exact sn_get X hK hC hl h1 h2 (hd (by simp [lenOf])) (any_bM ox) ho
  case putfield ix => simp only [okX, Bool.and_eq_true] at ox; exact sn_put X hK hC hl h1 h2 (hd (by simp [lenOf])) (any_bM ox.1) (fun q => by have o2 := ox.2; rw [q] at o2; simp only [Bool.not_true, Bool.false_or, Bool.and_eq_true] at o2; exact ⟨Nat.eq_of_beq_eq_true o2.1, Nat.eq_of_beq_eq_true o2.2⟩) ho
  case iaload => exact sn_iald X hK hC hl h1 h2 (hd (by simp [lenOf])) (hS1 h) ho
  case baload => exact sn_bald X hK hC hl h1 h2 (hd (by simp [lenOf])) ho
  case laload => exact sn_lald X hK hC hl h1 h2 (hd (by simp [lenOf])) ho
  case aaload => exact sn_aald X hK hC hl h1 h2 (hd (by simp [lenOf])) ho
  case iastore => exact sn_iast X hK hC hl h1 h2 (hd (by simp [lenOf])) ho
  case bastore => exact sn_bast X hK hC hl h1 h2 (hd (by simp [lenOf])) ho
  case lastore => exact sn_last X hK hC hl h1 h2 (hd (by simp [lenOf])) ho
  case aastore => exact sn_aast X hK hC hl h1 h2 (hd (by simp [lenOf])) ho
  case arraylength => exact sn_alen X hK hC hl h1 h2 (hd (by simp [lenOf])) (hS2 h) ho
  case new ix => exact sn_new X hK hC hl h1 h2 (hd (by simp [lenOf])) (any_bM3 ox) hR2 ho
  case newarray ty => exact sn_newa X hK hC hl h1 h2 (hd (by simp [lenOf])) hR2 ho
  case anewarray ix => exact sn_anew X hK hC hl h1 h2 (hd (by simp [lenOf])) (any_bM3 ox) hR2 ho
  case ldc ix =>
    match a, ox, ho with
    | 0, ox, ho => exact sn_ldc X hK hC hl h1 h2 (hd (by simp [lenOf])) (any_bM3 ox) ho
    | _ + 1, ox, ho => exact sn_ldcs X hK hC hl h1 h2 (hd (by simp [lenOf])) (any_bM3 ox) ho.2
  case ldc_w ix => simp only [okX, Bool.and_eq_true] at ox; exact sn_ldcw X hK hC hl h1 h2 (hd (by simp [lenOf])) (any_bM3 ox.2) ho
  case ldc2_w ix => exact sn_ldc2 X hK hC hl h1 h2 (hd (by simp [lenOf])) (any_bM3 ox) ho
  case invokevirtual ix =>
    have ho : opVir C cT sT K pc lv st h c1 s1 a := ho
    unfold opVir at ho
    split at ho
    · obtain ⟨q, r0, g1, g2, g3, g4⟩ := ho
      exact sn_len X hK hC hl h1 h2 (hd (by simp [lenOf])) (any_bM ox) hR2 g1 g2 g3 g4
    · obtain ⟨j, q, r0, g1, g2, g3, g4, g5⟩ := ho
      exact sn_chr X hK hC hl h1 h2 (hd (by simp [lenOf])) (any_bM ox) hR2 g1 g2 g3 g4 g5
    · obtain ⟨g0, As, k, r0, fs, g1, g2, g3⟩ := ho
      exact sn_vir X hK hC hl h1 h2 (hd (by simp [lenOf])) (any_bM ox) hCal hR hR2 g0 g1 g2 g3
  case invokestatic ix =>
    have ho : opSta C cT sT K pc lv st h c1 s1 a := ho
    unfold opSta at ho
    split at ho
    · obtain ⟨x, y, r0, g1, g2, g3⟩ := ho
      exact sn_mmin X hK hC hl h1 h2 (hd (by simp [lenOf])) (any_bM ox) hR2 g1 g2 g3
    · obtain ⟨x, y, r0, g1, g2, g3⟩ := ho
      exact sn_mmax X hK hC hl h1 h2 (hd (by simp [lenOf])) (any_bM ox) hR2 g1 g2 g3
    · exact sn_cpy X hK hC hl h1 h2 (hd (by simp [lenOf])) (any_bM ox) ho
    · obtain ⟨g0, As, r0, g1, g2⟩ := ho
      exact sn_sta X hK hC hl h1 h2 (hd (by simp [lenOf])) (any_bM ox) hCal hR hR2 g0 g1 g2
  case invokespecial ix =>
    have ho : opSpe C cT sT K pc lv st h c1 s1 a := ho
    have ox : mthL.any (bM (mOwn i, ix, 2, a)) = true ∨ mthL.any (bM (mOwn i, ix, 3, a)) = true := by simpa only [okX, Bool.or_eq_true] using ox
    unfold opSpe at ho
    split at ho
    · obtain ⟨k, r0, g1, g2, g3⟩ := ho
      rcases ox with ox | ox
      · exact sn_obj X hK hC hl h1 h2 (hd (by simp [lenOf])) (any_bM ox) g1 g2 g3
      · exact absurd (mth_3 (any_bM ox)) (no_nst _ _)
    · obtain ⟨g0, As, k, r0, g1, g2⟩ := ho
      exact sn_spe X hK hC hl h1 h2 (hd (by simp [lenOf])) (ox.imp any_bM any_bM) hCal hR hR2 g0 g1 g2
  case ireturn =>
    obtain ⟨x, ty, rfl, e2, e3, e4, e5⟩ := ho
    subst e3; subst e4
    exact W.widen (Nat.le_refl _) h2 (hRi H locs pc ls x (hd (by simp [lenOf])) hC e2 ⟨ty, e5⟩)
  case lreturn =>
    obtain ⟨x, rfl, e2, e3, e4, e5⟩ := ho
    subst e3; subst e4
    exact W.widen (Nat.le_refl _) h2 (hRl H locs pc ls x (hd (by simp [lenOf])) hC e2 e5)
  case return_ =>
    obtain ⟨rfl, e2, e3, e4, e5⟩ := ho
    subst e3; subst e4
    exact W.widen (Nat.le_refl _) h2 (hRv H locs pc ls (hd (by simp [lenOf])) hC e2 e5)
  all_goals (obtain ⟨st9, hp, hc⟩ := ho; exact sn_pure X hK hC hl h1 h2 (hd (by simp [lenOf])) hp hc)
theorem sn_ev {C : aC} {d : Nat} {r : Option Value} {h9 : aH} (X : Cx z sa sv cA D p s m args meth c i R) (hR2 : cT ≤ R.cells ∧ sT ≤ R.slots) (hCal : CalOK z sa sv cA D l d C) (hR : d + 5 ≤ R.frames ∧ 100 * d + 460 ≤ R.locals)
    (hS1 : ∀ (h : aH) (j x : Int32), C 2000 [.int j] h (some (.int x)) h 0 0 → ∃ L xs, va_X (sa 1000) L xs s s.heap ∧ sa 1000 < s.heap.size ∧ sa 1000 < z ∧ vp_in j L ∧ x = xs j.toNatClampNeg)
    (hS2 : ∀ (h : aH) (x : Int32), C 2001 [] h (some (.int x)) h 0 0 → ∃ L xs, va_X (sa 1000) L xs s s.heap ∧ sa 1000 < s.heap.size ∧ sa 1000 < z ∧ x = Int32.ofNat L)
    (hRi : ∀ (H : Heap) (locs : List Loc) (pc : Nat) (ls : Array Slot) (x : Int32), decode (mByt i) pc = .ok (.ireturn, 1) → Cf z sa cA D s H locs h9 cT → r = some (.int x) → (∃ ty, mRet i = some ty ∧ narrow ty (.int x) = .int x) → W p l e R s m args below meth c H locs cT sT Q (F0 m pc ls [.int x]))
    (hRl : ∀ (H : Heap) (locs : List Loc) (pc : Nat) (ls : Array Slot) (x : Int64), decode (mByt i) pc = .ok (.lreturn, 1) → Cf z sa cA D s H locs h9 cT → r = some (.long x) → mRet i = some .long → W p l e R s m args below meth c H locs cT sT Q (F0 m pc ls [.long x]))
    (hRv : ∀ (H : Heap) (locs : List Loc) (pc : Nat) (ls : Array Slot), decode (mByt i) pc = .ok (.return_, 1) → Cf z sa cA D s H locs h9 cT → r = none → mRet i = none → W p l e R s m args below meth c H locs cT sT Q (F0 m pc ls [])) :
    ∀ n : Nat, KW z sa cA D p l e R s m args below meth c i Q cT sT (fun pc lv st h c1 s1 => Ev C i n pc lv st h c1 s1 r h9 cT sT) := by
  intro n
  induction n with
  | zero => intro pc lv st h c1 s1 hE; exact hE.elim
  | succ n ih =>
    intro pc lv0 st h c1 s1 hE H locs ls hC hl h1 h2
    obtain ⟨lv, op, a, b, hsub, hi, ho⟩ := hE
    have hl' : lv_has ls (mMax i) (rL z sa lv) := ⟨hl.1, hl.2.1, fun q hq => by
      obtain ⟨q0, hq0, rfl⟩ := List.mem_map.mp hq
      exact hl.2.2 _ (List.mem_map.mpr ⟨q0, hsub q0 hq0, rfl⟩)⟩
    exact sn_step X ih hC hl' h1 h2 hR2 hCal hR hS1 hS2 hRi hRl hRv hi ho
end SNS
theorem rL_args (z : Nat) (sa : Nat → Nat) : ∀ (As : List Value) (k : Nat), lv_args k (As.map (rV z sa)) = rL z sa (lv_args k As)
  | [], k => rfl
  | v :: r, k => by
    show (k, rV z sa v) :: lv_args (if (rV z sa v).category = 2 then k + 2 else k + 1) (r.map (rV z sa)) = _
    rw [rV_cat, rL_args z sa r]
    rfl
theorem sl_map (z : Nat) (sa : Nat → Nat) : ∀ (As : List Value), (lg_sl (As.map (rV z sa))).length = (lg_sl As).length
  | [] => rfl
  | v :: r => by
    have ih := sl_map z sa r
    simp only [lg_sl, List.map_cons, List.flatMap_cons, List.length_append, rV_cat] at ih ⊢
    rw [ih]
    congr 1
    split <;> rfl
theorem Rn_big {d a : Nat} {As : List Value} {h : aH} {r : Option Value} {h1 : aH} {cc ss : Nat} (h9 : Rn d a As h r h1 cc ss) : a < 244 := by
  cases d with
  | zero => exact h9.elim
  | succ d => exact h9.1
/-- WHAT THE SMALL MACHINE CALLS TO ITS END, THE JAVA MACHINE DOES -/
theorem Rn_met (l : Launch) (z : Nat) (sa sv : Nat → Nat) (cA : Nat → ClassId) (D : va_G) : ∀ d : Nat, CalOK z sa sv cA D l d (Rn d)
  | 0 => fun _ _ _ _ _ _ _ _ h => h.elim
  | d + 1 => by
    intro a As h rv h1 cc ss ha hR
    obtain ⟨-, hsl, n, hE⟩ := hR
    obtain ⟨m1, m2, m3, m4, m5, m6, m7⟩ := all_mth a ha
    refine Met.ofW (cc := mByt a) (maxL := mMax a) (ret := mRet a) m5 rfl ?_
    intro p e s m args below meth c s₁ B hml hv
    obtain ⟨rfl, ⟨hsz, hP⟩, hKs, hWF⟩ := hv
    have hx := B.exec
    have hb := B.bytes
    have hr := B.returns
    have hts0 := atoms_spec (ws := wsM a) B.pre
    have hts : ∀ w ∈ Tw, w.before _ s = true := fun w h => hts0 w (List.mem_cons_of_mem _ h)
    have hown : s.vm.findClass (oNm (mOwn a)) = some m.cls := by rw [← m1]; exact findClass_of_methodNamed B.named
    have hlocks := B.notSynchronized
    have hnam : meth.name = (mNm a).name := (name_of_methodNamed B.named B.method).1
    have hl := lv_entry (As.map (rV z sa)) (n := mMax a) (by rw [sl_map]; exact hsl)
    rw [lg_entry_eq]
    generalize (lg_sl (As.map (rV z sa)) ++ List.replicate (mMax a - (lg_sl (As.map (rV z sa))).length) Slot.unset).toArray = ls at hl ⊢
    rw [rL_args] at hl
    have X : Cx z sa sv cA D p s m (As.map (rV z sa)).toArray meth c a (rmM (d + 1) cc ss) := by
      refine ⟨hx, hb, hml, hown, hts, hKs, hWF, by omega, fun hk => ?_, by show 4 ≤ d + 1 + 4; omega, by show 200 ≤ 100 * (d + 1) + 400; omega⟩
      rcases all_knd a ha with q | q | q
      · omega
      · omega
      · rw [hnam]; exact q.2.2.1
    have hC : Cf z sa cA D s s.heap [] h 0 := ⟨hP, va_S.rf, by omega⟩
    have fin : ∀ (H : Heap) (locs : List Loc), Cf z sa cA D s H locs h1 cc → H.size = z + h1.length → ∀ t : State, t.heap = H → PostM z sa cA D h rv h1 cc (As.map (rV z sa)).toArray s (.returned (rv.map (rV z sa))) t := by
      intro H locs hC9 hsz9 t ht
      refine ⟨rfl, by rw [ht]; exact ⟨hsz9, hC9.1⟩, ?_, hC9.2.1.F ht⟩
      have := hC9.2.2
      omega
    refine sn_ev (Q := MQ below (PostM z sa cA D h rv h1 cc) (As.map (rV z sa)).toArray s cc ss (fun q => z ≤ q)) X ⟨Nat.le_refl _, Nat.le_refl _⟩ (Rn_met l z sa sv cA D d) ⟨by show d + 5 ≤ d + 1 + 4; omega, by show 100 * d + 460 ≤ 100 * (d + 1) + 400; omega⟩ (fun _ _ _ h9 => absurd (Rn_big h9) (by decide)) (fun _ _ h9 => absurd (Rn_big h9) (by decide)) ?_ ?_ ?_ n 0 (lv_args 0 As) [] h 0 0 hE s.heap [] ls hC hl (Nat.zero_le _) (Nat.zero_le _)
    · intro H locs pc ls x hd hC9 e9 hn9
      subst e9
      obtain ⟨ty, hrt, hn⟩ := hn9
      refine sn_size hC9.1 hC9.2.1 hC9.2.2 (by omega) (fun hsz9 => ?_)
      exact W.zret hx hb (hr.trans hrt) hn (fun t ht hW => fin H locs hC9 hsz9 t ht) hC9.2.1.2.2 hd hlocks
    · intro H locs pc ls x hd hC9 e9 hrt
      subst e9
      refine sn_size hC9.1 hC9.2.1 hC9.2.2 (by omega) (fun hsz9 => ?_)
      exact W.lret hx hb (hr.trans hrt) (fun t ht hW => fin H locs hC9 hsz9 t ht) hC9.2.1.2.2 hd hlocks
    · intro H locs pc ls hd hC9 e9 hrt
      subst e9
      refine sn_size hC9.1 hC9.2.1 hC9.2.2 (by omega) (fun hsz9 => ?_)
      exact W.vret hx hb (hr.trans hrt) (fun t ht hW => fin H locs hC9 hsz9 t ht) hC9.2.1.2.2 hd hlocks
