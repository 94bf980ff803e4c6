/-! the words that the machine gives: where they stand in the tables -/
def pickD : List Nat → List Cond → List Cond
  | [], _ => []
  | d :: ds, l => match l.drop d with
    | [] => []
    | w :: r => w :: pickD ds r
theorem pickD_mem : ∀ (ds : List Nat) (l : List Cond) (w : Cond), w ∈ pickD ds l → w ∈ l
  | [], _, _, h => by simp [pickD] at h
  | d :: ds, l, w, h => by
    unfold pickD at h
    split at h
    · simp at h
    · rename_i x r hd
      rcases List.mem_cons.mp h with h1 | h1
      · subst h1
        exact List.mem_of_mem_drop (hd ▸ List.mem_cons_self)
      · exact List.mem_of_mem_drop (hd ▸ List.mem_cons_of_mem _ (pickD_mem ds r w h1))
theorem pick_ok {α : Type} (f : α → Cond) (L : List α) (ds : List Nat) (h : pickD ds lw_tbl = L.map f) (hg : (L.map f).all goodWord = true) : ∀ e ∈ L, f e ∈ lw_tbl ∧ goodWord (f e) = true := by
  intro e he
  have hm : f e ∈ L.map f := List.mem_map_of_mem he
  exact ⟨pickD_mem ds lw_tbl _ (h ▸ hm), List.all_eq_true.mp hg _ hm⟩
def tR (ci k : Nat) : String × String × String × Bool := (vwCl.getD ci ("", fun _ => ("", "", "", false), 0)).2.1 k
def bNm (j : Nat) : MethodName := match j with
  | 1000 => objectInit
  | 1001 => Lib.Math.min.name
  | 1002 => Lib.Math.max.name
  | 1003 => arraycopyName
  | 1004 => yJ0_length_8abf5
  | 1005 => yJ0_charAt_5068e
  | j => mNm j
def wFld (e : Nat × Nat × Nat × Nat) : Cond := .fieldLink (oNm e.1) e.2.1 (tR e.2.2.1 e.2.2.2).1 (tR e.2.2.1 e.2.2.2).2.1 (tR e.2.2.1 e.2.2.2).2.2.1
def wMth (e : Nat × Nat × Nat × Nat) : Cond := match e.2.2.1 with
  | 3 => .methodLinkNest (oNm e.1) e.2.1 (bNm e.2.2.2) "SaysBath"
  | _ => .methodLink (oNm e.1) e.2.1 (bNm e.2.2.2)
def wNew (e : Nat × Nat × Nat) : Cond := .classLink (oNm e.1) e.2.1 (oNm e.2.2)
def wAnw (e : Nat × Nat × Nat) : Cond := .classLink (oNm e.1) e.2.1 (oNm e.2.2)
def wLdi (e : Nat × Nat × Nat) : Cond := .constant (oNm e.1) e.2.1 (cstI.getD e.2.2 0)
def wLdl (e : Nat × Nat × Nat) : Cond := .constantLong (oNm e.1) e.2.1 (cstL.getD e.2.2 0)
def wCode (j : Nat) : Cond := .code (mNm j) (mByt j) (mMax j) (mRet j)
def wInst (j : Nat) : Cond := .instanceMethod (mNm j)
def wStat (j : Nat) : Cond := .static (mNm j)
def wSel (j : Nat) : Cond := .selects (mNm j).cls (mNm j) (mNm j)
def wIni (o : Nat) : Cond := .initialized (oNm o)
def wIns (o : Nat) : Cond := .instantiable (oNm o) (nfl o)
theorem fld_ok : ∀ e ∈ fldL, wFld e ∈ lw_tbl ∧ goodWord (wFld e) = true := pick_ok wFld fldL [141, 0, 0, 0, 0, 0, 0, 0, 0, 0, 0, 0, 0, 0, 0, 0, 0, 0, 0, 0, 0, 0, 0, 0, 0, 0, 28, 0, 0, 0, 0, 0, 0, 0, 0, 0, 0, 0, 0, 0, 0, 0, 0, 0, 0, 0, 0, 0, 0, 0, 0, 0, 0, 0, 0, 0, 0, 0, 0, 0, 0, 0, 0, 0, 27, 0, 0, 0, 0, 0, 0, 0, 0, 0, 0, 0, 37, 0, 0, 0, 0, 0, 17, 0, 0, 0, 0, 0, 7, 0, 0, 0, 0, 0, 20, 0, 0, 0, 0, 0, 0, 18, 0, 0, 0, 0, 0, 8, 0, 0, 0, 0, 0, 0, 0, 0, 0, 0, 0, 643, 0, 0, 0, 0, 0, 0, 0, 0, 0, 0, 0, 0, 0, 0, 0, 0, 0, 0, 0, 0, 0, 0, 0] (by decide +kernel) (by decide +kernel)
def mtnL : List (Nat × Nat × Nat × Nat) := [(11, 9, 2, 64), (8, 3, 2, 1000), (8, 19, 2, 23), (3, 3, 2, 1000), (0, 3, 2, 1000), (1, 3, 2, 1000), (4, 1, 2, 1000), (4, 18, 2, 60), (7, 3, 2, 1000), (7, 23, 0, 61), (4, 25, 2, 17), (2, 3, 2, 1000), (2, 22, 0, 18), (8, 49, 2, 48), (6, 5, 2, 1000), (6, 34, 0, 49), (5, 3, 2, 1000), (11, 13, 0, 65), (8, 74, 0, 66), (11, 18, 0, 67), (11, 23, 0, 68), (8, 78, 0, 24), (3, 44, 1, 1001), (3, 50, 0, 1), (0, 57, 0, 12), (3, 53, 0, 40), (3, 208, 1, 41), (3, 58, 0, 37), (3, 200, 0, 1004), (3, 204, 0, 1005), (3, 62, 0, 25), (3, 93, 0, 38), (3, 86, 0, 39), (3, 99, 0, 35), (3, 103, 0, 34), (3, 106, 0, 36), (3, 109, 0, 2), (3, 68, 0, 26), (3, 117, 0, 3), (0, 60, 0, 4), (3, 73, 0, 27), (3, 128, 0, 5), (3, 78, 0, 28), (3, 131, 0, 6), (3, 135, 0, 33), (3, 139, 0, 7), (3, 83, 0, 29), (3, 158, 0, 30), (3, 172, 0, 31), (3, 183, 0, 14), (3, 161, 0, 32), (3, 165, 0, 15), (8, 87, 0, 61), (8, 96, 0, 18), (8, 99, 0, 49), (11, 28, 0, 69), (11, 32, 0, 70), (8, 113, 0, 133), (8, 116, 0, 140), (8, 232, 0, 134), (8, 349, 1, 136), (8, 352, 0, 52), (6, 42, 0, 53), (6, 38, 1, 51), (6, 76, 0, 6), (6, 52, 0, 13), (6, 58, 0, 54), (6, 96, 0, 55), (6, 70, 0, 50), (6, 66, 0, 56), (6, 112, 0, 57), (6, 122, 0, 58), (6, 137, 0, 59), (8, 120, 0, 50), (11, 37, 0, 71), (8, 124, 0, 54), (8, 128, 0, 56), (11, 41, 0, 72), (8, 131, 0, 73), (8, 138, 0, 74), (11, 46, 0, 75), (8, 151, 0, 139), (8, 154, 0, 76), (11, 50, 0, 78), (8, 161, 0, 77), (11, 54, 0, 79), (11, 58, 0, 80), (8, 164, 0, 82), (8, 170, 1, 1001), (11, 62, 0, 81), (11, 66, 0, 83), (11, 70, 0, 84), (11, 74, 0, 85), (8, 180, 1, 86), (8, 184, 0, 8), (11, 79, 0, 87), (8, 188, 0, 89), (8, 191, 0, 90), (8, 194, 0, 91), (8, 197, 1, 243), (11, 83, 0, 88), (11, 87, 0, 92), (8, 203, 0, 93), (8, 206, 0, 135), (11, 92, 0, 94), (8, 218, 1, 138), (11, 96, 0, 95), (11, 100, 0, 96), (11, 104, 0, 99), (8, 235, 0, 98), (11, 108, 0, 100), (8, 241, 0, 101), (8, 244, 0, 97), (8, 247, 0, 62), (11, 112, 0, 102), (11, 116, 0, 103), (8, 250, 0, 104), (8, 253, 0, 105), (8, 256, 1, 1002), (11, 120, 0, 106), (11, 124, 0, 107), (8, 259, 0, 108), (11, 128, 0, 109), (8, 262, 1, 19), (11, 133, 0, 110), (11, 137, 0, 111), (8, 271, 0, 21), (2, 25, 1, 19), (11, 141, 0, 112), (11, 145, 0, 113), (8, 276, 0, 114), (8, 280, 0, 115), (8, 287, 0, 20), (8, 283, 1, 116), (11, 150, 0, 117), (8, 293, 0, 119), (8, 296, 1, 120), (11, 154, 0, 118), (11, 158, 0, 121), (11, 162, 0, 122), (8, 303, 1, 137), (8, 306, 0, 123), (11, 166, 0, 124), (11, 170, 0, 125), (8, 313, 0, 9), (11, 174, 0, 126), (8, 323, 0, 127), (11, 178, 0, 128), (8, 326, 0, 43), (4, 30, 0, 10), (0, 64, 1, 1003), (0, 70, 0, 16), (1, 49, 1, 1003), (4, 34, 0, 63), (7, 26, 1, 1003), (4, 37, 0, 22), (2, 29, 1, 1003), (11, 182, 0, 129), (11, 186, 0, 130), (8, 330, 0, 45), (11, 192, 0, 131), (8, 333, 0, 46), (11, 197, 0, 132), (8, 340, 0, 47), (8, 343, 1, 1003), (11, 12, 2, 144), (9, 13, 2, 1000), (11, 181, 0, 145), (9, 9, 1, 141), (11, 185, 0, 146), (11, 17, 0, 155), (11, 22, 0, 156), (11, 31, 0, 165), (11, 27, 0, 173), (9, 135, 0, 158), (9, 88, 0, 157), (9, 109, 1, 1001), (9, 117, 0, 159), (9, 210, 0, 172), (9, 131, 0, 161), (9, 121, 0, 1004), (9, 127, 0, 1005), (9, 141, 0, 160), (9, 138, 0, 162), (9, 152, 0, 163), (9, 145, 0, 164), (9, 198, 0, 166), (9, 201, 0, 167), (9, 204, 0, 168), (9, 207, 0, 171), (9, 179, 0, 170), (9, 165, 0, 169), (11, 36, 0, 182), (9, 254, 0, 151), (9, 71, 0, 152), (9, 257, 1, 143), (9, 260, 0, 181), (9, 251, 0, 180), (9, 219, 1, 174), (9, 245, 1, 1002), (9, 248, 0, 179), (9, 230, 0, 150), (9, 241, 0, 178), (9, 233, 0, 177), (9, 226, 0, 176), (9, 216, 0, 175), (9, 213, 0, 148), (9, 223, 0, 147), (11, 40, 0, 183), (11, 45, 0, 186), (9, 268, 0, 185), (9, 265, 0, 184), (11, 49, 0, 188), (9, 271, 0, 153), (9, 274, 0, 187), (11, 53, 0, 189), (11, 57, 0, 190), (11, 61, 0, 192), (9, 281, 0, 191), (11, 65, 0, 193), (11, 69, 0, 194), (11, 73, 0, 195), (11, 78, 0, 197), (9, 286, 1, 196), (11, 82, 0, 201), (9, 300, 0, 200), (9, 294, 1, 142), (9, 297, 0, 199), (9, 290, 0, 198), (11, 86, 0, 202), (11, 91, 0, 205), (9, 306, 0, 154), (9, 75, 0, 149), (9, 303, 0, 203), (9, 310, 0, 204), (11, 95, 0, 206), (9, 313, 1, 238), (9, 318, 0, 205), (11, 99, 0, 207), (11, 103, 0, 208), (11, 107, 0, 211), (9, 325, 0, 210), (9, 322, 0, 209), (11, 111, 0, 213), (9, 328, 0, 212), (11, 115, 0, 214), (11, 119, 0, 215), (11, 123, 0, 216), (11, 127, 0, 217), (11, 132, 0, 220), (9, 331, 0, 218), (11, 136, 0, 221), (11, 140, 0, 223), (9, 336, 0, 222), (11, 144, 0, 224), (11, 149, 0, 226), (9, 351, 0, 225), (9, 346, 0, 219), (11, 153, 0, 229), (9, 358, 0, 228), (9, 354, 1, 227), (11, 157, 0, 230), (11, 161, 0, 231), (11, 165, 0, 234), (9, 361, 0, 233), (9, 364, 0, 232), (11, 169, 0, 235), (11, 173, 0, 236), (11, 177, 0, 237), (11, 189, 0, 240), (11, 196, 0, 241), (9, 370, 1, 239), (11, 200, 0, 242)]
def nstL : List (Nat × Nat × Nat × Nat) := [(3, 20, 3, 0), (0, 52, 3, 11), (8, 28, 3, 42), (4, 9, 3, 0), (8, 73, 3, 44)]
theorem mth_split : mthL.all (fun e => mtnL.any (bM e) || nstL.any (bM e)) = true := by decide +kernel
theorem mth_ok : ∀ e ∈ mtnL, wMth e ∈ lw_tbl ∧ goodWord (wMth e) = true := pick_ok wMth mtnL [117, 2, 4, 2, 5, 5, 155, 4, 2, 0, 18, 2, 0, 34, 2, 0, 27, 51, 3, 3, 3, 3, 3, 2, 3, 3, 3, 4, 3, 9, 37, 3, 3, 4, 3, 3, 3, 4, 4, 3, 4, 5, 4, 3, 3, 3, 4, 5, 3, 4, 8, 6, 3, 0, 0, 0, 3, 3, 3, 3, 3, 2, 3, 3, 2, 0, 3, 3, 3, 3, 3, 3, 3, 6, 0, 3, 0, 0, 3, 3, 3, 3, 3, 3, 3, 3, 3, 3, 3, 0, 3, 3, 3, 4, 2, 3, 3, 3, 3, 3, 5, 3, 3, 3, 3, 3, 4, 3, 3, 3, 3, 3, 3, 3, 3, 3, 3, 3, 3, 2, 3, 3, 3, 3, 2, 3, 3, 3, 0, 3, 4, 3, 3, 3, 2, 3, 3, 2, 3, 3, 3, 2, 3, 3, 4, 3, 3, 3, 3, 3, 3, 2, 3, 0, 3, 0, 3, 0, 3, 3, 3, 3, 3, 3, 3, 2, 2, 75, 4, 2, 3, 3, 3, 3, 3, 3, 7, 0, 3, 4, 3, 0, 4, 3, 4, 3, 3, 4, 5, 3, 5, 3, 12, 3, 3, 3, 3, 3, 3, 2, 0, 3, 3, 3, 3, 3, 3, 3, 5, 4, 3, 3, 3, 3, 3, 3, 3, 4, 4, 3, 3, 3, 3, 4, 2, 3, 3, 2, 3, 3, 3, 3, 3, 3, 3, 3, 3, 4, 0, 3, 3, 3, 3, 3, 3, 3, 3, 3, 3, 3, 4, 3, 3, 3, 3, 3, 4, 3, 3, 3, 3, 2, 3, 3, 3, 3, 3, 3, 4, 3, 3, 3, 2] (by decide +kernel) (by decide +kernel)
theorem nst_ok : ∀ e ∈ nstL, wMth e ∈ lw_tbl := by
  intro e he
  have h : pickD [131, 5, 155, 4, 93] lw_tbl = nstL.map wMth := by decide +kernel
  exact pickD_mem _ _ _ (h ▸ List.mem_map_of_mem he)
theorem new_ok : ∀ e ∈ newL, wNew e ∈ lw_tbl ∧ goodWord (wNew e) = true := pick_ok wNew newL [115, 7, 5, 5, 155, 5, 1, 22, 36, 1, 697] (by decide +kernel) (by decide +kernel)
theorem anw_ok : ∀ e ∈ anwL, wAnw e ∈ lw_tbl ∧ goodWord (wAnw e) = true := pick_ok wAnw anwL [291, 67] (by decide +kernel) (by decide +kernel)
theorem ldi_ok : ∀ e ∈ ldiL, wLdi e ∈ lw_tbl ∧ goodWord (wLdi e) = true := pick_ok wLdi ldiL [485, 328, 0, 0, 170, 570] (by decide +kernel) (by decide +kernel)
theorem ldl_ok : ∀ e ∈ ldlL, wLdl e ∈ lw_tbl ∧ goodWord (wLdl e) = true := pick_ok wLdl ldlL [716, 0, 0, 68, 52, 0, 91, 210, 31, 0, 0, 0, 90, 44, 0, 4, 32, 4, 20, 53, 0, 49, 24, 67] (by decide +kernel) (by decide +kernel)
set_option maxRecDepth 100000 in
theorem cw_64 : lw_tbl[119]? = some (wCode 64) := by rfl
set_option maxRecDepth 100000 in
theorem cw_23 : lw_tbl[127]? = some (wCode 23) := by rfl
set_option maxRecDepth 100000 in
theorem cw_0 : lw_tbl[133]? = some (wCode 0) := by rfl
set_option maxRecDepth 100000 in
theorem cw_11 : lw_tbl[139]? = some (wCode 11) := by rfl
set_option maxRecDepth 100000 in
theorem cw_42 : lw_tbl[295]? = some (wCode 42) := by rfl
set_option maxRecDepth 100000 in
theorem cw_60 : lw_tbl[303]? = some (wCode 60) := by rfl
set_option maxRecDepth 100000 in
theorem cw_61 : lw_tbl[308]? = some (wCode 61) := by rfl
set_option maxRecDepth 100000 in
theorem cw_17 : lw_tbl[326]? = some (wCode 17) := by rfl
set_option maxRecDepth 100000 in
theorem cw_18 : lw_tbl[331]? = some (wCode 18) := by rfl
set_option maxRecDepth 100000 in
theorem cw_48 : lw_tbl[365]? = some (wCode 48) := by rfl
set_option maxRecDepth 100000 in
theorem cw_49 : lw_tbl[370]? = some (wCode 49) := by rfl
set_option maxRecDepth 100000 in
theorem cw_44 : lw_tbl[394]? = some (wCode 44) := by rfl
set_option maxRecDepth 100000 in
theorem cw_65 : lw_tbl[450]? = some (wCode 65) := by rfl
set_option maxRecDepth 100000 in
theorem cw_66 : lw_tbl[454]? = some (wCode 66) := by rfl
set_option maxRecDepth 100000 in
theorem cw_67 : lw_tbl[458]? = some (wCode 67) := by rfl
set_option maxRecDepth 100000 in
theorem cw_68 : lw_tbl[462]? = some (wCode 68) := by rfl
set_option maxRecDepth 100000 in
theorem cw_24 : lw_tbl[466]? = some (wCode 24) := by rfl
set_option maxRecDepth 100000 in
theorem cw_1 : lw_tbl[473]? = some (wCode 1) := by rfl
set_option maxRecDepth 100000 in
theorem cw_12 : lw_tbl[477]? = some (wCode 12) := by rfl
set_option maxRecDepth 100000 in
theorem cw_40 : lw_tbl[481]? = some (wCode 40) := by rfl
def codL_0 : List Nat := [64, 23, 0, 11, 42, 60, 61, 17, 18, 48, 49, 44, 65, 66, 67, 68, 24, 1, 12, 40]
theorem codm_0 : ∀ e ∈ codL_0, wCode e ∈ lw_tbl := List.forall_mem_cons.mpr ⟨List.mem_of_getElem? cw_64, List.forall_mem_cons.mpr ⟨List.mem_of_getElem? cw_23, List.forall_mem_cons.mpr ⟨List.mem_of_getElem? cw_0, List.forall_mem_cons.mpr ⟨List.mem_of_getElem? cw_11, List.forall_mem_cons.mpr ⟨List.mem_of_getElem? cw_42, List.forall_mem_cons.mpr ⟨List.mem_of_getElem? cw_60, List.forall_mem_cons.mpr ⟨List.mem_of_getElem? cw_61, List.forall_mem_cons.mpr ⟨List.mem_of_getElem? cw_17, List.forall_mem_cons.mpr ⟨List.mem_of_getElem? cw_18, List.forall_mem_cons.mpr ⟨List.mem_of_getElem? cw_48, List.forall_mem_cons.mpr ⟨List.mem_of_getElem? cw_49, List.forall_mem_cons.mpr ⟨List.mem_of_getElem? cw_44, List.forall_mem_cons.mpr ⟨List.mem_of_getElem? cw_65, List.forall_mem_cons.mpr ⟨List.mem_of_getElem? cw_66, List.forall_mem_cons.mpr ⟨List.mem_of_getElem? cw_67, List.forall_mem_cons.mpr ⟨List.mem_of_getElem? cw_68, List.forall_mem_cons.mpr ⟨List.mem_of_getElem? cw_24, List.forall_mem_cons.mpr ⟨List.mem_of_getElem? cw_1, List.forall_mem_cons.mpr ⟨List.mem_of_getElem? cw_12, List.forall_mem_cons.mpr ⟨List.mem_of_getElem? cw_40, fun _ h => absurd h List.not_mem_nil⟩⟩⟩⟩⟩⟩⟩⟩⟩⟩⟩⟩⟩⟩⟩⟩⟩⟩⟩⟩
set_option maxRecDepth 100000 in
theorem cw_41 : lw_tbl[484]? = some (wCode 41) := by rfl
set_option maxRecDepth 100000 in
theorem cw_37 : lw_tbl[490]? = some (wCode 37) := by rfl
set_option maxRecDepth 100000 in
theorem cw_25 : lw_tbl[542]? = some (wCode 25) := by rfl
set_option maxRecDepth 100000 in
theorem cw_38 : lw_tbl[546]? = some (wCode 38) := by rfl
set_option maxRecDepth 100000 in
theorem cw_39 : lw_tbl[550]? = some (wCode 39) := by rfl
set_option maxRecDepth 100000 in
theorem cw_35 : lw_tbl[555]? = some (wCode 35) := by rfl
set_option maxRecDepth 100000 in
theorem cw_34 : lw_tbl[559]? = some (wCode 34) := by rfl
set_option maxRecDepth 100000 in
theorem cw_36 : lw_tbl[563]? = some (wCode 36) := by rfl
set_option maxRecDepth 100000 in
theorem cw_2 : lw_tbl[567]? = some (wCode 2) := by rfl
set_option maxRecDepth 100000 in
theorem cw_26 : lw_tbl[572]? = some (wCode 26) := by rfl
set_option maxRecDepth 100000 in
theorem cw_3 : lw_tbl[577]? = some (wCode 3) := by rfl
set_option maxRecDepth 100000 in
theorem cw_4 : lw_tbl[581]? = some (wCode 4) := by rfl
set_option maxRecDepth 100000 in
theorem cw_27 : lw_tbl[586]? = some (wCode 27) := by rfl
set_option maxRecDepth 100000 in
theorem cw_5 : lw_tbl[592]? = some (wCode 5) := by rfl
set_option maxRecDepth 100000 in
theorem cw_28 : lw_tbl[597]? = some (wCode 28) := by rfl
set_option maxRecDepth 100000 in
theorem cw_6 : lw_tbl[601]? = some (wCode 6) := by rfl
set_option maxRecDepth 100000 in
theorem cw_33 : lw_tbl[605]? = some (wCode 33) := by rfl
set_option maxRecDepth 100000 in
theorem cw_7 : lw_tbl[609]? = some (wCode 7) := by rfl
set_option maxRecDepth 100000 in
theorem cw_29 : lw_tbl[614]? = some (wCode 29) := by rfl
set_option maxRecDepth 100000 in
theorem cw_30 : lw_tbl[620]? = some (wCode 30) := by rfl
def codL_1 : List Nat := [41, 37, 25, 38, 39, 35, 34, 36, 2, 26, 3, 4, 27, 5, 28, 6, 33, 7, 29, 30]
theorem codm_1 : ∀ e ∈ codL_1, wCode e ∈ lw_tbl := List.forall_mem_cons.mpr ⟨List.mem_of_getElem? cw_41, List.forall_mem_cons.mpr ⟨List.mem_of_getElem? cw_37, List.forall_mem_cons.mpr ⟨List.mem_of_getElem? cw_25, List.forall_mem_cons.mpr ⟨List.mem_of_getElem? cw_38, List.forall_mem_cons.mpr ⟨List.mem_of_getElem? cw_39, List.forall_mem_cons.mpr ⟨List.mem_of_getElem? cw_35, List.forall_mem_cons.mpr ⟨List.mem_of_getElem? cw_34, List.forall_mem_cons.mpr ⟨List.mem_of_getElem? cw_36, List.forall_mem_cons.mpr ⟨List.mem_of_getElem? cw_2, List.forall_mem_cons.mpr ⟨List.mem_of_getElem? cw_26, List.forall_mem_cons.mpr ⟨List.mem_of_getElem? cw_3, List.forall_mem_cons.mpr ⟨List.mem_of_getElem? cw_4, List.forall_mem_cons.mpr ⟨List.mem_of_getElem? cw_27, List.forall_mem_cons.mpr ⟨List.mem_of_getElem? cw_5, List.forall_mem_cons.mpr ⟨List.mem_of_getElem? cw_28, List.forall_mem_cons.mpr ⟨List.mem_of_getElem? cw_6, List.forall_mem_cons.mpr ⟨List.mem_of_getElem? cw_33, List.forall_mem_cons.mpr ⟨List.mem_of_getElem? cw_7, List.forall_mem_cons.mpr ⟨List.mem_of_getElem? cw_29, List.forall_mem_cons.mpr ⟨List.mem_of_getElem? cw_30, fun _ h => absurd h List.not_mem_nil⟩⟩⟩⟩⟩⟩⟩⟩⟩⟩⟩⟩⟩⟩⟩⟩⟩⟩⟩⟩
set_option maxRecDepth 100000 in
theorem cw_31 : lw_tbl[624]? = some (wCode 31) := by rfl
set_option maxRecDepth 100000 in
theorem cw_14 : lw_tbl[629]? = some (wCode 14) := by rfl
set_option maxRecDepth 100000 in
theorem cw_32 : lw_tbl[638]? = some (wCode 32) := by rfl
set_option maxRecDepth 100000 in
theorem cw_15 : lw_tbl[645]? = some (wCode 15) := by rfl
set_option maxRecDepth 100000 in
theorem cw_69 : lw_tbl[652]? = some (wCode 69) := by rfl
set_option maxRecDepth 100000 in
theorem cw_70 : lw_tbl[656]? = some (wCode 70) := by rfl
set_option maxRecDepth 100000 in
theorem cw_133 : lw_tbl[660]? = some (wCode 133) := by rfl
set_option maxRecDepth 100000 in
theorem cw_140 : lw_tbl[664]? = some (wCode 140) := by rfl
set_option maxRecDepth 100000 in
theorem cw_134 : lw_tbl[668]? = some (wCode 134) := by rfl
set_option maxRecDepth 100000 in
theorem cw_136 : lw_tbl[671]? = some (wCode 136) := by rfl
set_option maxRecDepth 100000 in
theorem cw_52 : lw_tbl[675]? = some (wCode 52) := by rfl
set_option maxRecDepth 100000 in
theorem cw_53 : lw_tbl[679]? = some (wCode 53) := by rfl
set_option maxRecDepth 100000 in
theorem cw_51 : lw_tbl[682]? = some (wCode 51) := by rfl
set_option maxRecDepth 100000 in
theorem cw_13 : lw_tbl[687]? = some (wCode 13) := by rfl
set_option maxRecDepth 100000 in
theorem cw_54 : lw_tbl[691]? = some (wCode 54) := by rfl
set_option maxRecDepth 100000 in
theorem cw_55 : lw_tbl[695]? = some (wCode 55) := by rfl
set_option maxRecDepth 100000 in
theorem cw_50 : lw_tbl[699]? = some (wCode 50) := by rfl
set_option maxRecDepth 100000 in
theorem cw_56 : lw_tbl[703]? = some (wCode 56) := by rfl
set_option maxRecDepth 100000 in
theorem cw_57 : lw_tbl[707]? = some (wCode 57) := by rfl
set_option maxRecDepth 100000 in
theorem cw_58 : lw_tbl[711]? = some (wCode 58) := by rfl
def codL_2 : List Nat := [31, 14, 32, 15, 69, 70, 133, 140, 134, 136, 52, 53, 51, 13, 54, 55, 50, 56, 57, 58]
theorem codm_2 : ∀ e ∈ codL_2, wCode e ∈ lw_tbl := List.forall_mem_cons.mpr ⟨List.mem_of_getElem? cw_31, List.forall_mem_cons.mpr ⟨List.mem_of_getElem? cw_14, List.forall_mem_cons.mpr ⟨List.mem_of_getElem? cw_32, List.forall_mem_cons.mpr ⟨List.mem_of_getElem? cw_15, List.forall_mem_cons.mpr ⟨List.mem_of_getElem? cw_69, List.forall_mem_cons.mpr ⟨List.mem_of_getElem? cw_70, List.forall_mem_cons.mpr ⟨List.mem_of_getElem? cw_133, List.forall_mem_cons.mpr ⟨List.mem_of_getElem? cw_140, List.forall_mem_cons.mpr ⟨List.mem_of_getElem? cw_134, List.forall_mem_cons.mpr ⟨List.mem_of_getElem? cw_136, List.forall_mem_cons.mpr ⟨List.mem_of_getElem? cw_52, List.forall_mem_cons.mpr ⟨List.mem_of_getElem? cw_53, List.forall_mem_cons.mpr ⟨List.mem_of_getElem? cw_51, List.forall_mem_cons.mpr ⟨List.mem_of_getElem? cw_13, List.forall_mem_cons.mpr ⟨List.mem_of_getElem? cw_54, List.forall_mem_cons.mpr ⟨List.mem_of_getElem? cw_55, List.forall_mem_cons.mpr ⟨List.mem_of_getElem? cw_50, List.forall_mem_cons.mpr ⟨List.mem_of_getElem? cw_56, List.forall_mem_cons.mpr ⟨List.mem_of_getElem? cw_57, List.forall_mem_cons.mpr ⟨List.mem_of_getElem? cw_58, fun _ h => absurd h List.not_mem_nil⟩⟩⟩⟩⟩⟩⟩⟩⟩⟩⟩⟩⟩⟩⟩⟩⟩⟩⟩⟩
set_option maxRecDepth 100000 in
theorem cw_59 : lw_tbl[715]? = some (wCode 59) := by rfl
set_option maxRecDepth 100000 in
theorem cw_71 : lw_tbl[723]? = some (wCode 71) := by rfl
set_option maxRecDepth 100000 in
theorem cw_72 : lw_tbl[729]? = some (wCode 72) := by rfl
set_option maxRecDepth 100000 in
theorem cw_73 : lw_tbl[733]? = some (wCode 73) := by rfl
set_option maxRecDepth 100000 in
theorem cw_74 : lw_tbl[737]? = some (wCode 74) := by rfl
set_option maxRecDepth 100000 in
theorem cw_75 : lw_tbl[741]? = some (wCode 75) := by rfl
set_option maxRecDepth 100000 in
theorem cw_139 : lw_tbl[745]? = some (wCode 139) := by rfl
set_option maxRecDepth 100000 in
theorem cw_76 : lw_tbl[749]? = some (wCode 76) := by rfl
set_option maxRecDepth 100000 in
theorem cw_78 : lw_tbl[753]? = some (wCode 78) := by rfl
set_option maxRecDepth 100000 in
theorem cw_77 : lw_tbl[757]? = some (wCode 77) := by rfl
set_option maxRecDepth 100000 in
theorem cw_79 : lw_tbl[761]? = some (wCode 79) := by rfl
set_option maxRecDepth 100000 in
theorem cw_80 : lw_tbl[765]? = some (wCode 80) := by rfl
set_option maxRecDepth 100000 in
theorem cw_82 : lw_tbl[769]? = some (wCode 82) := by rfl
set_option maxRecDepth 100000 in
theorem cw_81 : lw_tbl[774]? = some (wCode 81) := by rfl
set_option maxRecDepth 100000 in
theorem cw_83 : lw_tbl[778]? = some (wCode 83) := by rfl
set_option maxRecDepth 100000 in
theorem cw_84 : lw_tbl[782]? = some (wCode 84) := by rfl
set_option maxRecDepth 100000 in
theorem cw_85 : lw_tbl[786]? = some (wCode 85) := by rfl
set_option maxRecDepth 100000 in
theorem cw_86 : lw_tbl[790]? = some (wCode 86) := by rfl
set_option maxRecDepth 100000 in
theorem cw_8 : lw_tbl[794]? = some (wCode 8) := by rfl
set_option maxRecDepth 100000 in
theorem cw_87 : lw_tbl[798]? = some (wCode 87) := by rfl
def codL_3 : List Nat := [59, 71, 72, 73, 74, 75, 139, 76, 78, 77, 79, 80, 82, 81, 83, 84, 85, 86, 8, 87]
theorem codm_3 : ∀ e ∈ codL_3, wCode e ∈ lw_tbl := List.forall_mem_cons.mpr ⟨List.mem_of_getElem? cw_59, List.forall_mem_cons.mpr ⟨List.mem_of_getElem? cw_71, List.forall_mem_cons.mpr ⟨List.mem_of_getElem? cw_72, List.forall_mem_cons.mpr ⟨List.mem_of_getElem? cw_73, List.forall_mem_cons.mpr ⟨List.mem_of_getElem? cw_74, List.forall_mem_cons.mpr ⟨List.mem_of_getElem? cw_75, List.forall_mem_cons.mpr ⟨List.mem_of_getElem? cw_139, List.forall_mem_cons.mpr ⟨List.mem_of_getElem? cw_76, List.forall_mem_cons.mpr ⟨List.mem_of_getElem? cw_78, List.forall_mem_cons.mpr ⟨List.mem_of_getElem? cw_77, List.forall_mem_cons.mpr ⟨List.mem_of_getElem? cw_79, List.forall_mem_cons.mpr ⟨List.mem_of_getElem? cw_80, List.forall_mem_cons.mpr ⟨List.mem_of_getElem? cw_82, List.forall_mem_cons.mpr ⟨List.mem_of_getElem? cw_81, List.forall_mem_cons.mpr ⟨List.mem_of_getElem? cw_83, List.forall_mem_cons.mpr ⟨List.mem_of_getElem? cw_84, List.forall_mem_cons.mpr ⟨List.mem_of_getElem? cw_85, List.forall_mem_cons.mpr ⟨List.mem_of_getElem? cw_86, List.forall_mem_cons.mpr ⟨List.mem_of_getElem? cw_8, List.forall_mem_cons.mpr ⟨List.mem_of_getElem? cw_87, fun _ h => absurd h List.not_mem_nil⟩⟩⟩⟩⟩⟩⟩⟩⟩⟩⟩⟩⟩⟩⟩⟩⟩⟩⟩⟩
set_option maxRecDepth 100000 in
theorem cw_89 : lw_tbl[802]? = some (wCode 89) := by rfl
set_option maxRecDepth 100000 in
theorem cw_90 : lw_tbl[806]? = some (wCode 90) := by rfl
set_option maxRecDepth 100000 in
theorem cw_91 : lw_tbl[810]? = some (wCode 91) := by rfl
set_option maxRecDepth 100000 in
theorem cw_243 : lw_tbl[813]? = some (wCode 243) := by rfl
set_option maxRecDepth 100000 in
theorem cw_88 : lw_tbl[820]? = some (wCode 88) := by rfl
set_option maxRecDepth 100000 in
theorem cw_92 : lw_tbl[824]? = some (wCode 92) := by rfl
set_option maxRecDepth 100000 in
theorem cw_93 : lw_tbl[828]? = some (wCode 93) := by rfl
set_option maxRecDepth 100000 in
theorem cw_135 : lw_tbl[832]? = some (wCode 135) := by rfl
set_option maxRecDepth 100000 in
theorem cw_94 : lw_tbl[836]? = some (wCode 94) := by rfl
set_option maxRecDepth 100000 in
theorem cw_138 : lw_tbl[839]? = some (wCode 138) := by rfl
set_option maxRecDepth 100000 in
theorem cw_95 : lw_tbl[845]? = some (wCode 95) := by rfl
set_option maxRecDepth 100000 in
theorem cw_96 : lw_tbl[849]? = some (wCode 96) := by rfl
set_option maxRecDepth 100000 in
theorem cw_99 : lw_tbl[853]? = some (wCode 99) := by rfl
set_option maxRecDepth 100000 in
theorem cw_98 : lw_tbl[857]? = some (wCode 98) := by rfl
set_option maxRecDepth 100000 in
theorem cw_100 : lw_tbl[861]? = some (wCode 100) := by rfl
set_option maxRecDepth 100000 in
theorem cw_101 : lw_tbl[865]? = some (wCode 101) := by rfl
set_option maxRecDepth 100000 in
theorem cw_97 : lw_tbl[869]? = some (wCode 97) := by rfl
set_option maxRecDepth 100000 in
theorem cw_62 : lw_tbl[873]? = some (wCode 62) := by rfl
set_option maxRecDepth 100000 in
theorem cw_102 : lw_tbl[877]? = some (wCode 102) := by rfl
set_option maxRecDepth 100000 in
theorem cw_103 : lw_tbl[881]? = some (wCode 103) := by rfl
def codL_4 : List Nat := [89, 90, 91, 243, 88, 92, 93, 135, 94, 138, 95, 96, 99, 98, 100, 101, 97, 62, 102, 103]
theorem codm_4 : ∀ e ∈ codL_4, wCode e ∈ lw_tbl := List.forall_mem_cons.mpr ⟨List.mem_of_getElem? cw_89, List.forall_mem_cons.mpr ⟨List.mem_of_getElem? cw_90, List.forall_mem_cons.mpr ⟨List.mem_of_getElem? cw_91, List.forall_mem_cons.mpr ⟨List.mem_of_getElem? cw_243, List.forall_mem_cons.mpr ⟨List.mem_of_getElem? cw_88, List.forall_mem_cons.mpr ⟨List.mem_of_getElem? cw_92, List.forall_mem_cons.mpr ⟨List.mem_of_getElem? cw_93, List.forall_mem_cons.mpr ⟨List.mem_of_getElem? cw_135, List.forall_mem_cons.mpr ⟨List.mem_of_getElem? cw_94, List.forall_mem_cons.mpr ⟨List.mem_of_getElem? cw_138, List.forall_mem_cons.mpr ⟨List.mem_of_getElem? cw_95, List.forall_mem_cons.mpr ⟨List.mem_of_getElem? cw_96, List.forall_mem_cons.mpr ⟨List.mem_of_getElem? cw_99, List.forall_mem_cons.mpr ⟨List.mem_of_getElem? cw_98, List.forall_mem_cons.mpr ⟨List.mem_of_getElem? cw_100, List.forall_mem_cons.mpr ⟨List.mem_of_getElem? cw_101, List.forall_mem_cons.mpr ⟨List.mem_of_getElem? cw_97, List.forall_mem_cons.mpr ⟨List.mem_of_getElem? cw_62, List.forall_mem_cons.mpr ⟨List.mem_of_getElem? cw_102, List.forall_mem_cons.mpr ⟨List.mem_of_getElem? cw_103, fun _ h => absurd h List.not_mem_nil⟩⟩⟩⟩⟩⟩⟩⟩⟩⟩⟩⟩⟩⟩⟩⟩⟩⟩⟩⟩
set_option maxRecDepth 100000 in
theorem cw_104 : lw_tbl[885]? = some (wCode 104) := by rfl
set_option maxRecDepth 100000 in
theorem cw_105 : lw_tbl[889]? = some (wCode 105) := by rfl
set_option maxRecDepth 100000 in
theorem cw_106 : lw_tbl[896]? = some (wCode 106) := by rfl
set_option maxRecDepth 100000 in
theorem cw_107 : lw_tbl[900]? = some (wCode 107) := by rfl
set_option maxRecDepth 100000 in
theorem cw_108 : lw_tbl[904]? = some (wCode 108) := by rfl
set_option maxRecDepth 100000 in
theorem cw_109 : lw_tbl[908]? = some (wCode 109) := by rfl
set_option maxRecDepth 100000 in
theorem cw_19 : lw_tbl[911]? = some (wCode 19) := by rfl
set_option maxRecDepth 100000 in
theorem cw_110 : lw_tbl[915]? = some (wCode 110) := by rfl
set_option maxRecDepth 100000 in
theorem cw_111 : lw_tbl[919]? = some (wCode 111) := by rfl
set_option maxRecDepth 100000 in
theorem cw_21 : lw_tbl[923]? = some (wCode 21) := by rfl
set_option maxRecDepth 100000 in
theorem cw_112 : lw_tbl[928]? = some (wCode 112) := by rfl
set_option maxRecDepth 100000 in
theorem cw_113 : lw_tbl[932]? = some (wCode 113) := by rfl
set_option maxRecDepth 100000 in
theorem cw_114 : lw_tbl[937]? = some (wCode 114) := by rfl
set_option maxRecDepth 100000 in
theorem cw_115 : lw_tbl[941]? = some (wCode 115) := by rfl
set_option maxRecDepth 100000 in
theorem cw_20 : lw_tbl[945]? = some (wCode 20) := by rfl
set_option maxRecDepth 100000 in
theorem cw_116 : lw_tbl[948]? = some (wCode 116) := by rfl
set_option maxRecDepth 100000 in
theorem cw_117 : lw_tbl[952]? = some (wCode 117) := by rfl
set_option maxRecDepth 100000 in
theorem cw_119 : lw_tbl[956]? = some (wCode 119) := by rfl
set_option maxRecDepth 100000 in
theorem cw_120 : lw_tbl[959]? = some (wCode 120) := by rfl
set_option maxRecDepth 100000 in
theorem cw_118 : lw_tbl[963]? = some (wCode 118) := by rfl
def codL_5 : List Nat := [104, 105, 106, 107, 108, 109, 19, 110, 111, 21, 112, 113, 114, 115, 20, 116, 117, 119, 120, 118]
theorem codm_5 : ∀ e ∈ codL_5, wCode e ∈ lw_tbl := List.forall_mem_cons.mpr ⟨List.mem_of_getElem? cw_104, List.forall_mem_cons.mpr ⟨List.mem_of_getElem? cw_105, List.forall_mem_cons.mpr ⟨List.mem_of_getElem? cw_106, List.forall_mem_cons.mpr ⟨List.mem_of_getElem? cw_107, List.forall_mem_cons.mpr ⟨List.mem_of_getElem? cw_108, List.forall_mem_cons.mpr ⟨List.mem_of_getElem? cw_109, List.forall_mem_cons.mpr ⟨List.mem_of_getElem? cw_19, List.forall_mem_cons.mpr ⟨List.mem_of_getElem? cw_110, List.forall_mem_cons.mpr ⟨List.mem_of_getElem? cw_111, List.forall_mem_cons.mpr ⟨List.mem_of_getElem? cw_21, List.forall_mem_cons.mpr ⟨List.mem_of_getElem? cw_112, List.forall_mem_cons.mpr ⟨List.mem_of_getElem? cw_113, List.forall_mem_cons.mpr ⟨List.mem_of_getElem? cw_114, List.forall_mem_cons.mpr ⟨List.mem_of_getElem? cw_115, List.forall_mem_cons.mpr ⟨List.mem_of_getElem? cw_20, List.forall_mem_cons.mpr ⟨List.mem_of_getElem? cw_116, List.forall_mem_cons.mpr ⟨List.mem_of_getElem? cw_117, List.forall_mem_cons.mpr ⟨List.mem_of_getElem? cw_119, List.forall_mem_cons.mpr ⟨List.mem_of_getElem? cw_120, List.forall_mem_cons.mpr ⟨List.mem_of_getElem? cw_118, fun _ h => absurd h List.not_mem_nil⟩⟩⟩⟩⟩⟩⟩⟩⟩⟩⟩⟩⟩⟩⟩⟩⟩⟩⟩⟩
set_option maxRecDepth 100000 in
theorem cw_121 : lw_tbl[967]? = some (wCode 121) := by rfl
set_option maxRecDepth 100000 in
theorem cw_122 : lw_tbl[971]? = some (wCode 122) := by rfl
set_option maxRecDepth 100000 in
theorem cw_137 : lw_tbl[974]? = some (wCode 137) := by rfl
set_option maxRecDepth 100000 in
theorem cw_123 : lw_tbl[978]? = some (wCode 123) := by rfl
set_option maxRecDepth 100000 in
theorem cw_124 : lw_tbl[982]? = some (wCode 124) := by rfl
set_option maxRecDepth 100000 in
theorem cw_125 : lw_tbl[986]? = some (wCode 125) := by rfl
set_option maxRecDepth 100000 in
theorem cw_9 : lw_tbl[991]? = some (wCode 9) := by rfl
set_option maxRecDepth 100000 in
theorem cw_126 : lw_tbl[995]? = some (wCode 126) := by rfl
set_option maxRecDepth 100000 in
theorem cw_127 : lw_tbl[999]? = some (wCode 127) := by rfl
set_option maxRecDepth 100000 in
theorem cw_128 : lw_tbl[1003]? = some (wCode 128) := by rfl
set_option maxRecDepth 100000 in
theorem cw_43 : lw_tbl[1007]? = some (wCode 43) := by rfl
set_option maxRecDepth 100000 in
theorem cw_10 : lw_tbl[1011]? = some (wCode 10) := by rfl
set_option maxRecDepth 100000 in
theorem cw_16 : lw_tbl[1018]? = some (wCode 16) := by rfl
set_option maxRecDepth 100000 in
theorem cw_63 : lw_tbl[1023]? = some (wCode 63) := by rfl
set_option maxRecDepth 100000 in
theorem cw_22 : lw_tbl[1028]? = some (wCode 22) := by rfl
set_option maxRecDepth 100000 in
theorem cw_129 : lw_tbl[1033]? = some (wCode 129) := by rfl
set_option maxRecDepth 100000 in
theorem cw_130 : lw_tbl[1037]? = some (wCode 130) := by rfl
set_option maxRecDepth 100000 in
theorem cw_45 : lw_tbl[1041]? = some (wCode 45) := by rfl
set_option maxRecDepth 100000 in
theorem cw_131 : lw_tbl[1045]? = some (wCode 131) := by rfl
set_option maxRecDepth 100000 in
theorem cw_46 : lw_tbl[1049]? = some (wCode 46) := by rfl
def codL_6 : List Nat := [121, 122, 137, 123, 124, 125, 9, 126, 127, 128, 43, 10, 16, 63, 22, 129, 130, 45, 131, 46]
theorem codm_6 : ∀ e ∈ codL_6, wCode e ∈ lw_tbl := List.forall_mem_cons.mpr ⟨List.mem_of_getElem? cw_121, List.forall_mem_cons.mpr ⟨List.mem_of_getElem? cw_122, List.forall_mem_cons.mpr ⟨List.mem_of_getElem? cw_137, List.forall_mem_cons.mpr ⟨List.mem_of_getElem? cw_123, List.forall_mem_cons.mpr ⟨List.mem_of_getElem? cw_124, List.forall_mem_cons.mpr ⟨List.mem_of_getElem? cw_125, List.forall_mem_cons.mpr ⟨List.mem_of_getElem? cw_9, List.forall_mem_cons.mpr ⟨List.mem_of_getElem? cw_126, List.forall_mem_cons.mpr ⟨List.mem_of_getElem? cw_127, List.forall_mem_cons.mpr ⟨List.mem_of_getElem? cw_128, List.forall_mem_cons.mpr ⟨List.mem_of_getElem? cw_43, List.forall_mem_cons.mpr ⟨List.mem_of_getElem? cw_10, List.forall_mem_cons.mpr ⟨List.mem_of_getElem? cw_16, List.forall_mem_cons.mpr ⟨List.mem_of_getElem? cw_63, List.forall_mem_cons.mpr ⟨List.mem_of_getElem? cw_22, List.forall_mem_cons.mpr ⟨List.mem_of_getElem? cw_129, List.forall_mem_cons.mpr ⟨List.mem_of_getElem? cw_130, List.forall_mem_cons.mpr ⟨List.mem_of_getElem? cw_45, List.forall_mem_cons.mpr ⟨List.mem_of_getElem? cw_131, List.forall_mem_cons.mpr ⟨List.mem_of_getElem? cw_46, fun _ h => absurd h List.not_mem_nil⟩⟩⟩⟩⟩⟩⟩⟩⟩⟩⟩⟩⟩⟩⟩⟩⟩⟩⟩⟩
set_option maxRecDepth 100000 in
theorem cw_132 : lw_tbl[1053]? = some (wCode 132) := by rfl
set_option maxRecDepth 100000 in
theorem cw_47 : lw_tbl[1057]? = some (wCode 47) := by rfl
set_option maxRecDepth 100000 in
theorem cw_144 : lw_tbl[1063]? = some (wCode 144) := by rfl
set_option maxRecDepth 100000 in
theorem cw_145 : lw_tbl[1143]? = some (wCode 145) := by rfl
set_option maxRecDepth 100000 in
theorem cw_141 : lw_tbl[1147]? = some (wCode 141) := by rfl
set_option maxRecDepth 100000 in
theorem cw_146 : lw_tbl[1151]? = some (wCode 146) := by rfl
set_option maxRecDepth 100000 in
theorem cw_155 : lw_tbl[1155]? = some (wCode 155) := by rfl
set_option maxRecDepth 100000 in
theorem cw_156 : lw_tbl[1159]? = some (wCode 156) := by rfl
set_option maxRecDepth 100000 in
theorem cw_165 : lw_tbl[1163]? = some (wCode 165) := by rfl
set_option maxRecDepth 100000 in
theorem cw_173 : lw_tbl[1167]? = some (wCode 173) := by rfl
set_option maxRecDepth 100000 in
theorem cw_158 : lw_tbl[1171]? = some (wCode 158) := by rfl
set_option maxRecDepth 100000 in
theorem cw_157 : lw_tbl[1175]? = some (wCode 157) := by rfl
set_option maxRecDepth 100000 in
theorem cw_159 : lw_tbl[1184]? = some (wCode 159) := by rfl
set_option maxRecDepth 100000 in
theorem cw_172 : lw_tbl[1188]? = some (wCode 172) := by rfl
set_option maxRecDepth 100000 in
theorem cw_161 : lw_tbl[1193]? = some (wCode 161) := by rfl
set_option maxRecDepth 100000 in
theorem cw_160 : lw_tbl[1203]? = some (wCode 160) := by rfl
set_option maxRecDepth 100000 in
theorem cw_162 : lw_tbl[1207]? = some (wCode 162) := by rfl
set_option maxRecDepth 100000 in
theorem cw_163 : lw_tbl[1212]? = some (wCode 163) := by rfl
set_option maxRecDepth 100000 in
theorem cw_164 : lw_tbl[1216]? = some (wCode 164) := by rfl
set_option maxRecDepth 100000 in
theorem cw_166 : lw_tbl[1220]? = some (wCode 166) := by rfl
def codL_7 : List Nat := [132, 47, 144, 145, 141, 146, 155, 156, 165, 173, 158, 157, 159, 172, 161, 160, 162, 163, 164, 166]
theorem codm_7 : ∀ e ∈ codL_7, wCode e ∈ lw_tbl := List.forall_mem_cons.mpr ⟨List.mem_of_getElem? cw_132, List.forall_mem_cons.mpr ⟨List.mem_of_getElem? cw_47, List.forall_mem_cons.mpr ⟨List.mem_of_getElem? cw_144, List.forall_mem_cons.mpr ⟨List.mem_of_getElem? cw_145, List.forall_mem_cons.mpr ⟨List.mem_of_getElem? cw_141, List.forall_mem_cons.mpr ⟨List.mem_of_getElem? cw_146, List.forall_mem_cons.mpr ⟨List.mem_of_getElem? cw_155, List.forall_mem_cons.mpr ⟨List.mem_of_getElem? cw_156, List.forall_mem_cons.mpr ⟨List.mem_of_getElem? cw_165, List.forall_mem_cons.mpr ⟨List.mem_of_getElem? cw_173, List.forall_mem_cons.mpr ⟨List.mem_of_getElem? cw_158, List.forall_mem_cons.mpr ⟨List.mem_of_getElem? cw_157, List.forall_mem_cons.mpr ⟨List.mem_of_getElem? cw_159, List.forall_mem_cons.mpr ⟨List.mem_of_getElem? cw_172, List.forall_mem_cons.mpr ⟨List.mem_of_getElem? cw_161, List.forall_mem_cons.mpr ⟨List.mem_of_getElem? cw_160, List.forall_mem_cons.mpr ⟨List.mem_of_getElem? cw_162, List.forall_mem_cons.mpr ⟨List.mem_of_getElem? cw_163, List.forall_mem_cons.mpr ⟨List.mem_of_getElem? cw_164, List.forall_mem_cons.mpr ⟨List.mem_of_getElem? cw_166, fun _ h => absurd h List.not_mem_nil⟩⟩⟩⟩⟩⟩⟩⟩⟩⟩⟩⟩⟩⟩⟩⟩⟩⟩⟩⟩
set_option maxRecDepth 100000 in
theorem cw_167 : lw_tbl[1225]? = some (wCode 167) := by rfl
set_option maxRecDepth 100000 in
theorem cw_168 : lw_tbl[1231]? = some (wCode 168) := by rfl
set_option maxRecDepth 100000 in
theorem cw_171 : lw_tbl[1235]? = some (wCode 171) := by rfl
set_option maxRecDepth 100000 in
theorem cw_170 : lw_tbl[1241]? = some (wCode 170) := by rfl
set_option maxRecDepth 100000 in
theorem cw_169 : lw_tbl[1245]? = some (wCode 169) := by rfl
set_option maxRecDepth 100000 in
theorem cw_182 : lw_tbl[1258]? = some (wCode 182) := by rfl
set_option maxRecDepth 100000 in
theorem cw_151 : lw_tbl[1262]? = some (wCode 151) := by rfl
set_option maxRecDepth 100000 in
theorem cw_152 : lw_tbl[1266]? = some (wCode 152) := by rfl
set_option maxRecDepth 100000 in
theorem cw_143 : lw_tbl[1269]? = some (wCode 143) := by rfl
set_option maxRecDepth 100000 in
theorem cw_181 : lw_tbl[1274]? = some (wCode 181) := by rfl
set_option maxRecDepth 100000 in
theorem cw_180 : lw_tbl[1278]? = some (wCode 180) := by rfl
set_option maxRecDepth 100000 in
theorem cw_174 : lw_tbl[1281]? = some (wCode 174) := by rfl
set_option maxRecDepth 100000 in
theorem cw_179 : lw_tbl[1286]? = some (wCode 179) := by rfl
set_option maxRecDepth 100000 in
theorem cw_150 : lw_tbl[1290]? = some (wCode 150) := by rfl
set_option maxRecDepth 100000 in
theorem cw_178 : lw_tbl[1294]? = some (wCode 178) := by rfl
set_option maxRecDepth 100000 in
theorem cw_177 : lw_tbl[1298]? = some (wCode 177) := by rfl
set_option maxRecDepth 100000 in
theorem cw_176 : lw_tbl[1302]? = some (wCode 176) := by rfl
set_option maxRecDepth 100000 in
theorem cw_175 : lw_tbl[1306]? = some (wCode 175) := by rfl
set_option maxRecDepth 100000 in
theorem cw_148 : lw_tbl[1310]? = some (wCode 148) := by rfl
set_option maxRecDepth 100000 in
theorem cw_147 : lw_tbl[1314]? = some (wCode 147) := by rfl
def codL_8 : List Nat := [167, 168, 171, 170, 169, 182, 151, 152, 143, 181, 180, 174, 179, 150, 178, 177, 176, 175, 148, 147]
theorem codm_8 : ∀ e ∈ codL_8, wCode e ∈ lw_tbl := List.forall_mem_cons.mpr ⟨List.mem_of_getElem? cw_167, List.forall_mem_cons.mpr ⟨List.mem_of_getElem? cw_168, List.forall_mem_cons.mpr ⟨List.mem_of_getElem? cw_171, List.forall_mem_cons.mpr ⟨List.mem_of_getElem? cw_170, List.forall_mem_cons.mpr ⟨List.mem_of_getElem? cw_169, List.forall_mem_cons.mpr ⟨List.mem_of_getElem? cw_182, List.forall_mem_cons.mpr ⟨List.mem_of_getElem? cw_151, List.forall_mem_cons.mpr ⟨List.mem_of_getElem? cw_152, List.forall_mem_cons.mpr ⟨List.mem_of_getElem? cw_143, List.forall_mem_cons.mpr ⟨List.mem_of_getElem? cw_181, List.forall_mem_cons.mpr ⟨List.mem_of_getElem? cw_180, List.forall_mem_cons.mpr ⟨List.mem_of_getElem? cw_174, List.forall_mem_cons.mpr ⟨List.mem_of_getElem? cw_179, List.forall_mem_cons.mpr ⟨List.mem_of_getElem? cw_150, List.forall_mem_cons.mpr ⟨List.mem_of_getElem? cw_178, List.forall_mem_cons.mpr ⟨List.mem_of_getElem? cw_177, List.forall_mem_cons.mpr ⟨List.mem_of_getElem? cw_176, List.forall_mem_cons.mpr ⟨List.mem_of_getElem? cw_175, List.forall_mem_cons.mpr ⟨List.mem_of_getElem? cw_148, List.forall_mem_cons.mpr ⟨List.mem_of_getElem? cw_147, fun _ h => absurd h List.not_mem_nil⟩⟩⟩⟩⟩⟩⟩⟩⟩⟩⟩⟩⟩⟩⟩⟩⟩⟩⟩⟩
set_option maxRecDepth 100000 in
theorem cw_183 : lw_tbl[1320]? = some (wCode 183) := by rfl
set_option maxRecDepth 100000 in
theorem cw_186 : lw_tbl[1325]? = some (wCode 186) := by rfl
set_option maxRecDepth 100000 in
theorem cw_185 : lw_tbl[1329]? = some (wCode 185) := by rfl
set_option maxRecDepth 100000 in
theorem cw_184 : lw_tbl[1333]? = some (wCode 184) := by rfl
set_option maxRecDepth 100000 in
theorem cw_188 : lw_tbl[1337]? = some (wCode 188) := by rfl
set_option maxRecDepth 100000 in
theorem cw_153 : lw_tbl[1341]? = some (wCode 153) := by rfl
set_option maxRecDepth 100000 in
theorem cw_187 : lw_tbl[1345]? = some (wCode 187) := by rfl
set_option maxRecDepth 100000 in
theorem cw_189 : lw_tbl[1349]? = some (wCode 189) := by rfl
set_option maxRecDepth 100000 in
theorem cw_190 : lw_tbl[1353]? = some (wCode 190) := by rfl
set_option maxRecDepth 100000 in
theorem cw_192 : lw_tbl[1358]? = some (wCode 192) := by rfl
set_option maxRecDepth 100000 in
theorem cw_191 : lw_tbl[1363]? = some (wCode 191) := by rfl
set_option maxRecDepth 100000 in
theorem cw_193 : lw_tbl[1367]? = some (wCode 193) := by rfl
set_option maxRecDepth 100000 in
theorem cw_194 : lw_tbl[1371]? = some (wCode 194) := by rfl
set_option maxRecDepth 100000 in
theorem cw_195 : lw_tbl[1375]? = some (wCode 195) := by rfl
set_option maxRecDepth 100000 in
theorem cw_197 : lw_tbl[1379]? = some (wCode 197) := by rfl
set_option maxRecDepth 100000 in
theorem cw_196 : lw_tbl[1383]? = some (wCode 196) := by rfl
set_option maxRecDepth 100000 in
theorem cw_201 : lw_tbl[1387]? = some (wCode 201) := by rfl
set_option maxRecDepth 100000 in
theorem cw_200 : lw_tbl[1391]? = some (wCode 200) := by rfl
set_option maxRecDepth 100000 in
theorem cw_142 : lw_tbl[1394]? = some (wCode 142) := by rfl
set_option maxRecDepth 100000 in
theorem cw_199 : lw_tbl[1398]? = some (wCode 199) := by rfl
def codL_9 : List Nat := [183, 186, 185, 184, 188, 153, 187, 189, 190, 192, 191, 193, 194, 195, 197, 196, 201, 200, 142, 199]
theorem codm_9 : ∀ e ∈ codL_9, wCode e ∈ lw_tbl := List.forall_mem_cons.mpr ⟨List.mem_of_getElem? cw_183, List.forall_mem_cons.mpr ⟨List.mem_of_getElem? cw_186, List.forall_mem_cons.mpr ⟨List.mem_of_getElem? cw_185, List.forall_mem_cons.mpr ⟨List.mem_of_getElem? cw_184, List.forall_mem_cons.mpr ⟨List.mem_of_getElem? cw_188, List.forall_mem_cons.mpr ⟨List.mem_of_getElem? cw_153, List.forall_mem_cons.mpr ⟨List.mem_of_getElem? cw_187, List.forall_mem_cons.mpr ⟨List.mem_of_getElem? cw_189, List.forall_mem_cons.mpr ⟨List.mem_of_getElem? cw_190, List.forall_mem_cons.mpr ⟨List.mem_of_getElem? cw_192, List.forall_mem_cons.mpr ⟨List.mem_of_getElem? cw_191, List.forall_mem_cons.mpr ⟨List.mem_of_getElem? cw_193, List.forall_mem_cons.mpr ⟨List.mem_of_getElem? cw_194, List.forall_mem_cons.mpr ⟨List.mem_of_getElem? cw_195, List.forall_mem_cons.mpr ⟨List.mem_of_getElem? cw_197, List.forall_mem_cons.mpr ⟨List.mem_of_getElem? cw_196, List.forall_mem_cons.mpr ⟨List.mem_of_getElem? cw_201, List.forall_mem_cons.mpr ⟨List.mem_of_getElem? cw_200, List.forall_mem_cons.mpr ⟨List.mem_of_getElem? cw_142, List.forall_mem_cons.mpr ⟨List.mem_of_getElem? cw_199, fun _ h => absurd h List.not_mem_nil⟩⟩⟩⟩⟩⟩⟩⟩⟩⟩⟩⟩⟩⟩⟩⟩⟩⟩⟩⟩
set_option maxRecDepth 100000 in
theorem cw_198 : lw_tbl[1402]? = some (wCode 198) := by rfl
set_option maxRecDepth 100000 in
theorem cw_202 : lw_tbl[1406]? = some (wCode 202) := by rfl
set_option maxRecDepth 100000 in
theorem cw_205 : lw_tbl[1410]? = some (wCode 205) := by rfl
set_option maxRecDepth 100000 in
theorem cw_154 : lw_tbl[1414]? = some (wCode 154) := by rfl
set_option maxRecDepth 100000 in
theorem cw_149 : lw_tbl[1418]? = some (wCode 149) := by rfl
set_option maxRecDepth 100000 in
theorem cw_203 : lw_tbl[1422]? = some (wCode 203) := by rfl
set_option maxRecDepth 100000 in
theorem cw_204 : lw_tbl[1426]? = some (wCode 204) := by rfl
set_option maxRecDepth 100000 in
theorem cw_206 : lw_tbl[1430]? = some (wCode 206) := by rfl
set_option maxRecDepth 100000 in
theorem cw_238 : lw_tbl[1433]? = some (wCode 238) := by rfl
set_option maxRecDepth 100000 in
theorem cw_207 : lw_tbl[1440]? = some (wCode 207) := by rfl
set_option maxRecDepth 100000 in
theorem cw_208 : lw_tbl[1444]? = some (wCode 208) := by rfl
set_option maxRecDepth 100000 in
theorem cw_211 : lw_tbl[1448]? = some (wCode 211) := by rfl
set_option maxRecDepth 100000 in
theorem cw_210 : lw_tbl[1452]? = some (wCode 210) := by rfl
set_option maxRecDepth 100000 in
theorem cw_209 : lw_tbl[1456]? = some (wCode 209) := by rfl
set_option maxRecDepth 100000 in
theorem cw_213 : lw_tbl[1460]? = some (wCode 213) := by rfl
set_option maxRecDepth 100000 in
theorem cw_212 : lw_tbl[1464]? = some (wCode 212) := by rfl
set_option maxRecDepth 100000 in
theorem cw_214 : lw_tbl[1468]? = some (wCode 214) := by rfl
set_option maxRecDepth 100000 in
theorem cw_215 : lw_tbl[1472]? = some (wCode 215) := by rfl
set_option maxRecDepth 100000 in
theorem cw_216 : lw_tbl[1476]? = some (wCode 216) := by rfl
set_option maxRecDepth 100000 in
theorem cw_217 : lw_tbl[1480]? = some (wCode 217) := by rfl
def codL_10 : List Nat := [198, 202, 205, 154, 149, 203, 204, 206, 238, 207, 208, 211, 210, 209, 213, 212, 214, 215, 216, 217]
theorem codm_10 : ∀ e ∈ codL_10, wCode e ∈ lw_tbl := List.forall_mem_cons.mpr ⟨List.mem_of_getElem? cw_198, List.forall_mem_cons.mpr ⟨List.mem_of_getElem? cw_202, List.forall_mem_cons.mpr ⟨List.mem_of_getElem? cw_205, List.forall_mem_cons.mpr ⟨List.mem_of_getElem? cw_154, List.forall_mem_cons.mpr ⟨List.mem_of_getElem? cw_149, List.forall_mem_cons.mpr ⟨List.mem_of_getElem? cw_203, List.forall_mem_cons.mpr ⟨List.mem_of_getElem? cw_204, List.forall_mem_cons.mpr ⟨List.mem_of_getElem? cw_206, List.forall_mem_cons.mpr ⟨List.mem_of_getElem? cw_238, List.forall_mem_cons.mpr ⟨List.mem_of_getElem? cw_207, List.forall_mem_cons.mpr ⟨List.mem_of_getElem? cw_208, List.forall_mem_cons.mpr ⟨List.mem_of_getElem? cw_211, List.forall_mem_cons.mpr ⟨List.mem_of_getElem? cw_210, List.forall_mem_cons.mpr ⟨List.mem_of_getElem? cw_209, List.forall_mem_cons.mpr ⟨List.mem_of_getElem? cw_213, List.forall_mem_cons.mpr ⟨List.mem_of_getElem? cw_212, List.forall_mem_cons.mpr ⟨List.mem_of_getElem? cw_214, List.forall_mem_cons.mpr ⟨List.mem_of_getElem? cw_215, List.forall_mem_cons.mpr ⟨List.mem_of_getElem? cw_216, List.forall_mem_cons.mpr ⟨List.mem_of_getElem? cw_217, fun _ h => absurd h List.not_mem_nil⟩⟩⟩⟩⟩⟩⟩⟩⟩⟩⟩⟩⟩⟩⟩⟩⟩⟩⟩⟩
set_option maxRecDepth 100000 in
theorem cw_220 : lw_tbl[1484]? = some (wCode 220) := by rfl
set_option maxRecDepth 100000 in
theorem cw_218 : lw_tbl[1489]? = some (wCode 218) := by rfl
set_option maxRecDepth 100000 in
theorem cw_221 : lw_tbl[1493]? = some (wCode 221) := by rfl
set_option maxRecDepth 100000 in
theorem cw_223 : lw_tbl[1497]? = some (wCode 223) := by rfl
set_option maxRecDepth 100000 in
theorem cw_222 : lw_tbl[1501]? = some (wCode 222) := by rfl
set_option maxRecDepth 100000 in
theorem cw_224 : lw_tbl[1505]? = some (wCode 224) := by rfl
set_option maxRecDepth 100000 in
theorem cw_226 : lw_tbl[1509]? = some (wCode 226) := by rfl
set_option maxRecDepth 100000 in
theorem cw_225 : lw_tbl[1514]? = some (wCode 225) := by rfl
set_option maxRecDepth 100000 in
theorem cw_219 : lw_tbl[1518]? = some (wCode 219) := by rfl
set_option maxRecDepth 100000 in
theorem cw_229 : lw_tbl[1522]? = some (wCode 229) := by rfl
set_option maxRecDepth 100000 in
theorem cw_228 : lw_tbl[1526]? = some (wCode 228) := by rfl
set_option maxRecDepth 100000 in
theorem cw_227 : lw_tbl[1529]? = some (wCode 227) := by rfl
set_option maxRecDepth 100000 in
theorem cw_230 : lw_tbl[1533]? = some (wCode 230) := by rfl
set_option maxRecDepth 100000 in
theorem cw_231 : lw_tbl[1537]? = some (wCode 231) := by rfl
set_option maxRecDepth 100000 in
theorem cw_234 : lw_tbl[1541]? = some (wCode 234) := by rfl
set_option maxRecDepth 100000 in
theorem cw_233 : lw_tbl[1545]? = some (wCode 233) := by rfl
set_option maxRecDepth 100000 in
theorem cw_232 : lw_tbl[1549]? = some (wCode 232) := by rfl
set_option maxRecDepth 100000 in
theorem cw_235 : lw_tbl[1553]? = some (wCode 235) := by rfl
set_option maxRecDepth 100000 in
theorem cw_236 : lw_tbl[1557]? = some (wCode 236) := by rfl
set_option maxRecDepth 100000 in
theorem cw_237 : lw_tbl[1562]? = some (wCode 237) := by rfl
def codL_11 : List Nat := [220, 218, 221, 223, 222, 224, 226, 225, 219, 229, 228, 227, 230, 231, 234, 233, 232, 235, 236, 237]
theorem codm_11 : ∀ e ∈ codL_11, wCode e ∈ lw_tbl := List.forall_mem_cons.mpr ⟨List.mem_of_getElem? cw_220, List.forall_mem_cons.mpr ⟨List.mem_of_getElem? cw_218, List.forall_mem_cons.mpr ⟨List.mem_of_getElem? cw_221, List.forall_mem_cons.mpr ⟨List.mem_of_getElem? cw_223, List.forall_mem_cons.mpr ⟨List.mem_of_getElem? cw_222, List.forall_mem_cons.mpr ⟨List.mem_of_getElem? cw_224, List.forall_mem_cons.mpr ⟨List.mem_of_getElem? cw_226, List.forall_mem_cons.mpr ⟨List.mem_of_getElem? cw_225, List.forall_mem_cons.mpr ⟨List.mem_of_getElem? cw_219, List.forall_mem_cons.mpr ⟨List.mem_of_getElem? cw_229, List.forall_mem_cons.mpr ⟨List.mem_of_getElem? cw_228, List.forall_mem_cons.mpr ⟨List.mem_of_getElem? cw_227, List.forall_mem_cons.mpr ⟨List.mem_of_getElem? cw_230, List.forall_mem_cons.mpr ⟨List.mem_of_getElem? cw_231, List.forall_mem_cons.mpr ⟨List.mem_of_getElem? cw_234, List.forall_mem_cons.mpr ⟨List.mem_of_getElem? cw_233, List.forall_mem_cons.mpr ⟨List.mem_of_getElem? cw_232, List.forall_mem_cons.mpr ⟨List.mem_of_getElem? cw_235, List.forall_mem_cons.mpr ⟨List.mem_of_getElem? cw_236, List.forall_mem_cons.mpr ⟨List.mem_of_getElem? cw_237, fun _ h => absurd h List.not_mem_nil⟩⟩⟩⟩⟩⟩⟩⟩⟩⟩⟩⟩⟩⟩⟩⟩⟩⟩⟩⟩
set_option maxRecDepth 100000 in
theorem cw_240 : lw_tbl[1566]? = some (wCode 240) := by rfl
set_option maxRecDepth 100000 in
theorem cw_241 : lw_tbl[1570]? = some (wCode 241) := by rfl
set_option maxRecDepth 100000 in
theorem cw_239 : lw_tbl[1573]? = some (wCode 239) := by rfl
set_option maxRecDepth 100000 in
theorem cw_242 : lw_tbl[1577]? = some (wCode 242) := by rfl
def codL_12 : List Nat := [240, 241, 239, 242]
theorem codm_12 : ∀ e ∈ codL_12, wCode e ∈ lw_tbl := List.forall_mem_cons.mpr ⟨List.mem_of_getElem? cw_240, List.forall_mem_cons.mpr ⟨List.mem_of_getElem? cw_241, List.forall_mem_cons.mpr ⟨List.mem_of_getElem? cw_239, List.forall_mem_cons.mpr ⟨List.mem_of_getElem? cw_242, fun _ h => absurd h List.not_mem_nil⟩⟩⟩⟩
def codL : List Nat := codL_0 ++ (codL_1 ++ (codL_2 ++ (codL_3 ++ (codL_4 ++ (codL_5 ++ (codL_6 ++ (codL_7 ++ (codL_8 ++ (codL_9 ++ (codL_10 ++ (codL_11 ++ (codL_12))))))))))))
theorem cod_m : ∀ e ∈ codL, wCode e ∈ lw_tbl := List.forall_mem_append.mpr ⟨codm_0, List.forall_mem_append.mpr ⟨codm_1, List.forall_mem_append.mpr ⟨codm_2, List.forall_mem_append.mpr ⟨codm_3, List.forall_mem_append.mpr ⟨codm_4, List.forall_mem_append.mpr ⟨codm_5, List.forall_mem_append.mpr ⟨codm_6, List.forall_mem_append.mpr ⟨codm_7, List.forall_mem_append.mpr ⟨codm_8, List.forall_mem_append.mpr ⟨codm_9, List.forall_mem_append.mpr ⟨codm_10, List.forall_mem_append.mpr ⟨codm_11, codm_12⟩⟩⟩⟩⟩⟩⟩⟩⟩⟩⟩⟩
theorem cod_ok : ∀ e ∈ codL, wCode e ∈ lw_tbl ∧ goodWord (wCode e) = true := fun e he => ⟨cod_m e he, rfl⟩
def istL : List Nat := [64, 23, 0, 11, 42, 60, 61, 17, 18, 48, 49, 44, 65, 66, 67, 68, 24, 1, 12, 40, 37, 25, 38, 39, 35, 34, 36, 2, 26, 3, 4, 27, 5, 28, 6, 33, 7, 29, 30, 31, 14, 32, 15, 69, 70, 133, 140, 134, 52, 53, 13, 54, 55, 50, 56, 57, 58, 59, 71, 72, 73, 74, 75, 139, 76, 78, 77, 79, 80, 82, 81, 83, 84, 85, 8, 87, 89, 90, 91, 88, 92, 93, 135, 94, 95, 96, 99, 98, 100, 101, 97, 62, 102, 103, 104, 105, 106, 107, 108, 109, 110, 111, 21, 112, 113, 114, 115, 20, 117, 119, 118, 121, 122, 123, 124, 125, 9, 126, 127, 128, 43, 10, 16, 63, 22, 129, 130, 45, 131, 46, 132, 47, 144, 145, 146, 155, 156, 165, 173, 158, 157, 159, 172, 161, 160, 162, 163, 164, 166, 167, 168, 171, 170, 169, 182, 151, 152, 181, 180, 179, 150, 178, 177, 176, 175, 148, 147, 183, 186, 185, 184, 188, 153, 187, 189, 190, 192, 191, 193, 194, 195, 197, 201, 200, 199, 198, 202, 205, 154, 149, 203, 204, 206, 207, 208, 211, 210, 209, 213, 212, 214, 215, 216, 217, 220, 218, 221, 223, 222, 224, 226, 225, 219, 229, 228, 230, 231, 234, 233, 232, 235, 236, 237, 240, 241, 242]
theorem ist_ok : ∀ e ∈ istL, wInst e ∈ lw_tbl ∧ goodWord (wInst e) = true := pick_ok wInst istL [118, 7, 5, 5, 155, 7, 3, 18, 3, 34, 3, 24, 54, 4, 2, 3, 3, 6, 3, 4, 8, 51, 3, 3, 4, 3, 3, 2, 5, 3, 4, 4, 4, 5, 2, 4, 2, 5, 5, 3, 3, 9, 5, 6, 3, 4, 3, 3, 5, 4, 6, 3, 4, 2, 3, 4, 3, 3, 6, 5, 4, 3, 2, 4, 3, 2, 4, 2, 3, 4, 3, 3, 3, 3, 7, 3, 4, 3, 3, 8, 3, 4, 3, 2, 8, 3, 3, 4, 2, 4, 3, 2, 3, 3, 4, 3, 5, 3, 4, 2, 6, 3, 3, 4, 3, 5, 3, 2, 6, 4, 5, 3, 3, 7, 2, 3, 4, 3, 4, 2, 3, 3, 6, 4, 4, 4, 3, 3, 3, 3, 3, 3, 6, 78, 7, 3, 3, 3, 3, 4, 3, 8, 3, 4, 9, 3, 4, 3, 3, 4, 5, 3, 5, 3, 11, 4, 3, 7, 3, 7, 3, 3, 3, 3, 3, 3, 3, 4, 4, 4, 3, 2, 4, 3, 2, 3, 4, 5, 2, 3, 3, 3, 7, 4, 6, 3, 2, 3, 4, 3, 3, 3, 2, 9, 3, 3, 4, 3, 2, 4, 2, 3, 3, 3, 3, 5, 2, 3, 4, 2, 3, 5, 3, 2, 4, 5, 3, 3, 4, 3, 2, 3, 4, 3, 3, 6] (by decide +kernel) (by decide +kernel)
def stcL : List Nat := [41, 136, 51, 86, 243, 138, 19, 116, 120, 137, 141, 143, 174, 196, 142, 238, 227, 239]
theorem stc_ok : ∀ e ∈ stcL, wStat e ∈ lw_tbl ∧ goodWord (wStat e) = true := pick_ok wStat stcL [483, 186, 10, 107, 22, 25, 71, 36, 10, 14, 172, 121, 11, 101, 10, 38, 95, 43] (by decide +kernel) (by decide +kernel)
def selL : List Nat := [66, 40, 37, 25, 38, 39, 35, 34, 36, 26, 4, 27, 28, 33, 29, 30, 31, 32, 133, 140, 134, 53, 55, 57, 58, 59, 73, 74, 139, 76, 77, 82, 89, 90, 91, 93, 135, 98, 101, 97, 104, 105, 108, 114, 115, 119, 123, 127, 158, 157, 159, 172, 161, 160, 162, 163, 164, 166, 167, 168, 171, 170, 169, 151, 152, 181, 180, 179, 150, 178, 177, 176, 175, 148, 147, 185, 184, 153, 187, 191, 200, 199, 198, 154, 149, 203, 204, 210, 209, 212, 218, 222, 225, 219, 228, 233, 232, 61, 18, 49, 65, 67, 68, 24, 1, 12, 2, 3, 5, 6, 7, 14, 15, 69, 70, 52, 13, 54, 50, 56, 71, 72, 75, 78, 79, 80, 81, 83, 84, 85, 8, 87, 88, 92, 94, 95, 96, 99, 100, 62, 102, 103, 106, 107, 109, 110, 111, 21, 112, 113, 20, 117, 118, 121, 122, 124, 125, 9, 126, 128, 43, 10, 16, 63, 22, 129, 130, 45, 131, 46, 132, 47, 145, 146, 155, 156, 165, 173, 182, 183, 186, 188, 189, 190, 192, 193, 194, 195, 197, 201, 202, 205, 206, 207, 208, 211, 213, 214, 215, 216, 217, 220, 221, 223, 224, 226, 229, 230, 231, 234, 235, 236, 237, 240, 241, 242]
theorem sel_ok : ∀ e ∈ selL, wSel e ∈ lw_tbl ∧ goodWord (wSel e) = true := pick_ok wSel selL [0, 0, 0, 0, 0, 0, 0, 0, 0, 0, 0, 0, 0, 0, 0, 0, 0, 0, 0, 0, 0, 0, 0, 0, 0, 0, 0, 0, 0, 0, 0, 0, 0, 0, 0, 0, 0, 0, 0, 0, 0, 0, 0, 0, 0, 0, 0, 0, 0, 0, 0, 0, 0, 0, 0, 0, 0, 0, 0, 0, 0, 0, 0, 0, 0, 0, 0, 0, 0, 0, 0, 0, 0, 0, 0, 0, 0, 0, 0, 0, 0, 0, 0, 0, 0, 0, 0, 0, 0, 0, 0, 0, 0, 0, 0, 0, 0, 210, 22, 38, 79, 7, 3, 3, 6, 3, 89, 9, 14, 8, 7, 19, 15, 6, 3, 18, 11, 3, 7, 3, 19, 5, 11, 11, 7, 3, 8, 3, 3, 3, 7, 3, 21, 3, 11, 8, 3, 3, 7, 11, 3, 3, 14, 3, 7, 6, 3, 3, 4, 3, 12, 6, 10, 3, 3, 10, 3, 4, 3, 7, 3, 3, 6, 4, 4, 4, 3, 3, 3, 3, 3, 3, 85, 7, 3, 3, 3, 3, 90, 61, 4, 11, 11, 3, 4, 8, 3, 3, 3, 7, 18, 3, 19, 9, 3, 3, 11, 7, 3, 3, 3, 3, 8, 3, 7, 3, 12, 10, 3, 3, 11, 3, 4, 3, 3, 6] (by decide +kernel) (by decide +kernel)
def iniL : List Nat := [11, 8, 3, 0, 1, 4, 7, 2, 6, 5, 9, 10]
theorem ini_ok : ∀ e ∈ iniL, wIni e ∈ lw_tbl ∧ goodWord (wIni e) = true := pick_ok wIni iniL [97, 0, 0, 0, 0, 0, 0, 0, 0, 0, 0, 5] (by decide +kernel) (by decide +kernel)
def itbL : List Nat := [8, 3, 0, 1, 4, 7, 2, 6, 5, 9]
theorem itb_ok : ∀ e ∈ itbL, wIns e ∈ lw_tbl ∧ goodWord (wIns e) = true := pick_ok wIns itbL [116, 7, 5, 5, 155, 7, 22, 38, 28, 668] (by decide +kernel) (by decide +kernel)
def mArgL : List Nat := [0, 0, 1, 3, 2, 2, 2, 3, 0, 1, 1, 0, 0, 1, 3, 6, 1, 0, 0, 3, 2, 2, 1, 1, 1, 1, 1, 1, 0, 1, 1, 2, 0, 1, 2, 1, 0, 1, 3, 2, 0, 1, 0, 1, 0, 2, 1, 2, 1, 1, 3, 2, 2, 1, 2, 5, 3, 3, 4, 3, 0, 0, 0, 1, 0, 5, 1, 1, 0, 1, 3, 3, 2, 3, 3, 2, 2, 1, 1, 2, 2, 3, 2, 3, 1, 3, 2, 1, 2, 0, 3, 0, 3, 3, 1, 0, 1, 1, 2, 2, 1, 1, 1, 1, 3, 0, 1, 2, 1, 4, 3, 2, 2, 2, 1, 1, 2, 0, 1, 2, 4, 2, 2, 2, 2, 2, 1, 0, 1, 1, 3, 3, 5, 1, 1, 2, 1, 1, 1, 1, 2, 3, 1, 1, 0, 1, 1, 2, 2, 2, 2, 1, 1, 1, 2, 5, 1, 1, 0, 0, 1, 1, 1, 1, 2, 1, 0, 0, 0, 2, 2, 0, 0, 0, 3, 2, 5, 4, 3, 3, 0, 3, 3, 3, 3, 2, 2, 2, 2, 1, 2, 2, 2, 3, 3, 1, 2, 3, 4, 3, 2, 1, 2, 1, 0, 3, 1, 0, 1, 3, 2, 2, 1, 1, 1, 1, 1, 2, 3, 2, 4, 3, 2, 2, 2, 1, 2, 4, 2, 0, 1, 2, 2, 1, 2, 2, 2, 1, 1, 2, 3, 3, 5, 1]
def mArg (j : Nat) : Nat := mArgL.getD j 0
theorem all_cod : ∀ j, j < 244 → j ∈ codL := by decide +kernel
theorem all_ini : ∀ o, o < 12 → o ∈ iniL := by decide +kernel
theorem all_itb : ∀ o, o < 10 → o ∈ itbL := by decide +kernel
theorem all_knd : ∀ j, j < 244 → (mKd j = 0 ∧ j ∈ istL ∧ j ∈ selL) ∨ (mKd j = 1 ∧ j ∈ stcL) ∨ (mKd j = 2 ∧ j ∈ istL ∧ (mNm j).name = "<init>" ∧ mRet j = none) := by decide +kernel
theorem all_mth : ∀ j, j < 244 → (mNm j).cls = oNm (mOwn j) ∧ mOwn j < 12 ∧ (mNm j).cls ≠ "java/lang/invoke/MethodHandle" ∧ (mNm j).cls ≠ "java/lang/invoke/VarHandle" ∧ plainName (mNm j).cls = true ∧ (parseMethodDescriptor (mNm j).desc).map (fun d => d.parameters.length) = some (mArg j) ∧ mMax j ≤ 20 := by decide +kernel
theorem all_cls : ∀ ci, ci < 10 → (vwCl.getD ci ("", fun _ => ("", "", "", false), 0)).1 = oNm ci ∧ (vwCl.getD ci ("", fun _ => ("", "", "", false), 0)).2.2 = nfl ci := by decide +kernel
def wLay (e : Nat × Nat) : Cond := u_lay (oNm e.1) (vwCl.getD e.1 ("", fun _ => ("", "", "", false), 0)).2.1 e.2
def layL : List (Nat × Nat) := [(1, 0), (1, 1), (1, 2), (1, 3), (1, 4), (1, 5), (1, 6), (1, 7), (1, 8), (1, 9), (1, 10), (1, 11), (0, 0), (0, 1), (0, 2), (0, 3), (0, 4), (0, 5), (0, 6), (0, 7), (0, 8), (0, 9), (0, 10), (0, 11), (0, 12), (3, 0), (3, 1), (3, 2), (3, 3), (3, 4), (3, 5), (3, 6), (3, 7), (3, 8), (7, 0), (7, 1), (7, 2), (2, 0), (2, 1), (2, 2), (4, 0), (4, 1), (4, 2), (6, 0), (6, 1), (6, 2), (6, 3), (6, 4), (6, 5), (5, 0), (5, 1), (5, 2), (8, 0), (8, 1), (8, 2), (8, 3), (8, 4), (8, 5), (8, 6), (8, 7), (8, 8), (8, 9), (8, 10), (8, 11), (9, 0), (9, 1), (9, 2), (9, 3), (9, 4), (9, 5), (9, 6), (9, 7), (9, 8), (9, 9), (9, 10), (9, 11), (9, 12), (9, 13), (9, 14), (9, 15), (9, 16), (9, 17), (9, 18), (9, 19), (9, 20), (9, 21), (9, 22), (9, 23), (9, 24)]
theorem lay_ok : ∀ e ∈ layL, wLay e ∈ lw_tbl ∧ goodWord (wLay e) = true := pick_ok wLay layL [167, 1, 1, 1, 1, 1, 1, 1, 1, 1, 1, 1, 43, 1, 1, 1, 1, 1, 1, 1, 1, 1, 1, 1, 1, 14, 1, 1, 1, 1, 1, 1, 1, 1, 26, 1, 1, 18, 1, 1, 8, 1, 1, 22, 1, 1, 1, 1, 1, 13, 1, 1, 15, 1, 1, 1, 1, 1, 1, 1, 1, 1, 1, 1, 644, 1, 1, 1, 1, 1, 1, 1, 1, 1, 1, 1, 1, 1, 1, 1, 1, 1, 1, 1, 1, 1, 1, 1, 1] (by decide +kernel) (by decide +kernel)
theorem all_lay : ∀ ci, ci < 10 → ∀ k, k < nfl ci → (ci, k) ∈ layL := by decide +kernel
theorem all_ty : ∀ ci, ci < 10 → ∀ k, k < nfl ci → parseFieldDescriptor (tR ci k).2.2.1 = some (fty ci k) := by decide +kernel
theorem all_nm : ∀ ci, ci < 10 → ∀ a, a < nfl ci → ∀ b, b < nfl ci → a ≠ b → (tR ci a).2.1 ≠ (tR ci b).2.1 := by decide +kernel
theorem all_fld : fldL.all (fun e => Nat.blt e.2.2.2 (nfl e.2.2.1) && Nat.blt e.2.2.1 10) = true := by decide +kernel
theorem all_cod2 : mthL.all (fun e => Nat.blt e.2.2.2 244 || (Nat.ble 1000 e.2.2.2)) = true := by decide +kernel
theorem arr_byte : Cond.arrayClass .byte ∈ lw_tbl := List.mem_of_getElem? (i := 192) (by decide +kernel)
theorem arr_int : Cond.arrayClass .int ∈ lw_tbl := List.mem_of_getElem? (i := 193) (by decide +kernel)
theorem arr_boolean : Cond.arrayClass .boolean ∈ lw_tbl := List.mem_of_getElem? (i := 194) (by decide +kernel)
theorem arr_long : Cond.arrayClass .long ∈ lw_tbl := List.mem_of_getElem? (i := 409) (by decide +kernel)
theorem aro_Scene : Cond.arrayOver (.object "SaysBath$Scene") ∈ lw_tbl := List.mem_of_getElem? (i := 358) (by decide +kernel)
theorem aro_Slot : Cond.arrayOver (.object "SaysBath$Slot") ∈ lw_tbl := List.mem_of_getElem? (i := 360) (by decide +kernel)
theorem b_obj1 : Cond.instanceMethod objectInit ∈ lw_tbl := List.mem_of_getElem? (i := 121) (by decide +kernel)
theorem b_obj2 : Cond.code objectInit ⟨#[0xb1]⟩ 1 none ∈ lw_tbl := List.mem_of_getElem? (i := 122) (by decide +kernel)
theorem b_min1 : Cond.static Lib.Math.min.name ∈ lw_tbl := List.mem_of_getElem? (i := 468) (by decide +kernel)
theorem b_min2 : Cond.code Lib.Math.min.name Lib.Math.min.code 2 (some .int) ∈ lw_tbl := List.mem_of_getElem? (i := 469) (by decide +kernel)
theorem b_max1 : Cond.static Lib.Math.max.name ∈ lw_tbl := List.mem_of_getElem? (i := 891) (by decide +kernel)
theorem b_max2 : Cond.code Lib.Math.max.name Lib.Math.max.code 2 (some .int) ∈ lw_tbl := List.mem_of_getElem? (i := 892) (by decide +kernel)
theorem b_mth : Cond.initialized "java/lang/Math" ∈ lw_tbl := List.mem_of_getElem? (i := 108) (by decide +kernel)
theorem b_sys : Cond.initialized "java/lang/System" ∈ lw_tbl := List.mem_of_getElem? (i := 114) (by decide +kernel)
theorem b_cp1 : Cond.native arraycopyName ∈ lw_tbl := List.mem_of_getElem? (i := 1014) (by decide +kernel)
theorem b_cp2 : Cond.static arraycopyName ∈ lw_tbl := List.mem_of_getElem? (i := 1013) (by decide +kernel)
