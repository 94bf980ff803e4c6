/-! THE LAW: its loop out of its 44 cases -/
section WLR
variable {L : Nat} {xs : Nat → Int32} {C0 : aC} {i pc : Nat} {lv : aL} {st : List Value} {h : aH} {c1 s1 sT : Nat} {Q : Option Value → aH → Nat → Prop}
theorem wc_sld {a b pc' j : Nat} (hi : ins i pc = some (.iaload, a, b)) (hn : pc + 1 = pc') (hj : j < L) (hL : L < 2 ^ 31) (k : Wc (CL L xs C0) i pc' lv (.int (xs j) :: st) h c1 s1 sT Q) : Wc (CL L xs C0) i pc lv (.int (nI j) :: .retAddr 1000 :: st) h c1 s1 sT Q := by
  subst hn
  exact wc_go hi (fun K r h1 cT k9 => Or.inr ⟨nI j, st, xs j, rfl, ⟨nI j, rfl, vp_in_nI hj hL, by rw [nI_clamp (by omega)]⟩, k9⟩) k
theorem wc_slen {a b pc' : Nat} (hi : ins i pc = some (.arraylength, a, b)) (hn : pc + 1 = pc') (k : Wc (CL L xs C0) i pc' lv (.int (nI L) :: st) h c1 s1 sT Q) : Wc (CL L xs C0) i pc lv (.retAddr 1000 :: st) h c1 s1 sT Q := by
  subst hn
  exact wc_go hi (fun K r h1 cT k9 => Or.inr ⟨st, nI L, rfl, rfl, k9⟩) k
theorem wc_tsw {df lo up off : Int} {offs : Array Int} {a b pc' : Nat} {x : Int32} (hi : ins i pc = some (.tableswitch df lo up offs, a, b)) (hs : swOff df lo up offs x = some off) (hj : 0 ≤ (pc : Int) + off) (hn : jmp pc off = pc') (k : Wc (CL L xs C0) i pc' lv st h c1 s1 sT Q) : Wc (CL L xs C0) i pc lv (.int x :: st) h c1 s1 sT Q := by
  subst hn
  exact wc_go hi (fun K r h1 cT k9 => ⟨x, st, off, rfl, hs, hj, k9⟩) k
end WLR
def LQ : Option Value → aH → Nat → Prop := fun r _ cT => r = some (.int 1) ∧ cT ≤ 50000
theorem CL_of {L : Nat} {xs : Nat → Int32} {C : aC} {a : Nat} (ha : a < 244) {As : List Value} {h : aH} {r : Option Value} {h1 : aH} {cc ss : Nat} (hc : C a As h r h1 cc ss) : CL L xs C a As h r h1 cc ss := by
  unfold CL
  split
  · omega
  · omega
  · exact hc

-- 0: feed
set_option maxRecDepth 100000 in
theorem law_0 {Rp : aH → Prop} {L : Nat} {xs : Nat → Int32} {h : aH} {k c s : Nat} (hk : 6 * k + 6 ≤ L) (hL : L ≤ 3072) (hR : Rp h) (hs : s + 2582 ≤ 5000000) (hc : ∀ (a : Int32) (b : Int32) (c : Int32) (d : Int32) (e : Int32), CaseI Rp 65 155 [.int a, .int b, .int c, .int d, .int e]) (kk : ∀ (h2 : aH) (c2 s2 : Nat), Rp h2 → c2 ≤ c + 27 → s2 ≤ s + 2582 → Wc (CL L xs (Rn 700)) 244 1700 [(0, .retAddr 1000), (1, .ref (0)), (2, .ref (71)), (3, .int (nI (6 * k)))] [] h2 c2 s2 5000000 LQ) : Wc (CL L xs (Rn 700)) 244 224 [(0, .retAddr 1000), (1, .ref (0)), (2, .ref (71)), (3, .int (nI (6 * k)))] [] h c s 5000000 LQ := by
  refine wc_ld (pc' := 225) (q := 1) (kin := 2) (v := .ref (0)) rfl (fun _ _ _ _ => rfl) rfl rfl ?_
  refine wc_ld (pc' := 226) (q := 0) (kin := 2) (v := .retAddr 1000) rfl (fun _ _ _ _ => rfl) rfl rfl ?_
  refine wc_ld (pc' := 227) (q := 3) (kin := 0) (v := .int (nI (6 * k))) rfl (fun _ _ _ _ => rfl) rfl rfl ?_
  refine wc_ic (pc' := 228) (w := nI 1) rfl rfl (by decide) ?_
  refine wc_addN (pc' := 229) rfl rfl ?_
  refine wc_sld (pc' := 230) (j := (6 * k) + 1) rfl rfl (by omega) (by omega) ?_
  refine wc_ld (pc' := 231) (q := 0) (kin := 2) (v := .retAddr 1000) rfl (fun _ _ _ _ => rfl) rfl rfl ?_
  refine wc_ld (pc' := 232) (q := 3) (kin := 0) (v := .int (nI (6 * k))) rfl (fun _ _ _ _ => rfl) rfl rfl ?_
  refine wc_ic (pc' := 233) (w := nI 2) rfl rfl (by decide) ?_
  refine wc_addN (pc' := 234) rfl rfl ?_
  refine wc_sld (pc' := 235) (j := (6 * k) + 2) rfl rfl (by omega) (by omega) ?_
  refine wc_ld (pc' := 236) (q := 0) (kin := 2) (v := .retAddr 1000) rfl (fun _ _ _ _ => rfl) rfl rfl ?_
  refine wc_ld (pc' := 237) (q := 3) (kin := 0) (v := .int (nI (6 * k))) rfl (fun _ _ _ _ => rfl) rfl rfl ?_
  refine wc_ic (pc' := 238) (w := nI 3) rfl rfl (by decide) ?_
  refine wc_addN (pc' := 239) rfl rfl ?_
  refine wc_sld (pc' := 240) (j := (6 * k) + 3) rfl rfl (by omega) (by omega) ?_
  refine wc_ld (pc' := 241) (q := 0) (kin := 2) (v := .retAddr 1000) rfl (fun _ _ _ _ => rfl) rfl rfl ?_
  refine wc_ld (pc' := 242) (q := 3) (kin := 0) (v := .int (nI (6 * k))) rfl (fun _ _ _ _ => rfl) rfl rfl ?_
  refine wc_ic (pc' := 243) (w := nI 4) rfl rfl (by decide) ?_
  refine wc_addN (pc' := 244) rfl rfl ?_
  refine wc_sld (pc' := 245) (j := (6 * k) + 4) rfl rfl (by omega) (by omega) ?_
  refine wc_ld (pc' := 246) (q := 0) (kin := 2) (v := .retAddr 1000) rfl (fun _ _ _ _ => rfl) rfl rfl ?_
  refine wc_ld (pc' := 247) (q := 3) (kin := 0) (v := .int (nI (6 * k))) rfl (fun _ _ _ _ => rfl) rfl rfl ?_
  refine wc_ic (pc' := 248) (w := nI 5) rfl rfl (by decide) ?_
  refine wc_addN (pc' := 249) rfl rfl ?_
  refine wc_sld (pc' := 250) (j := (6 * k) + 5) rfl rfl (by omega) (by omega) ?_
  obtain ⟨r9, h1, h2, cc, ss, f0, f1, e1, e2, hx, g1, hm, g2, hR2⟩ := hc (xs ((6 * k) + 1)) (xs ((6 * k) + 2)) (xs ((6 * k) + 3)) (xs ((6 * k) + 4)) (xs ((6 * k) + 5)) h hR
  refine wc_vir (pc' := 253) rfl rfl (by decide) rfl rfl hx (Nat.le_of_ble_eq_true rfl) (CL_of (by decide) g1) (by omega) ?_
  show Wc _ _ 253 _ [.int (r9)] _ _ _ _ _
  refine wc_ld (pc' := 254) (q := 2) (kin := 2) (v := .ref (71)) rfl (fun _ _ _ _ => rfl) rfl rfl ?_
  refine wc_ld (pc' := 255) (q := 0) (kin := 2) (v := .retAddr 1000) rfl (fun _ _ _ _ => rfl) rfl rfl ?_
  refine wc_ld (pc' := 256) (q := 3) (kin := 0) (v := .int (nI (6 * k))) rfl (fun _ _ _ _ => rfl) rfl rfl ?_
  refine wc_ic (pc' := 257) (w := nI 1) rfl rfl (by decide) ?_
  refine wc_addN (pc' := 258) rfl rfl ?_
  refine wc_sld (pc' := 259) (j := (6 * k) + 1) rfl rfl (by omega) (by omega) ?_
  refine wc_ld (pc' := 260) (q := 0) (kin := 2) (v := .retAddr 1000) rfl (fun _ _ _ _ => rfl) rfl rfl ?_
  refine wc_ld (pc' := 261) (q := 3) (kin := 0) (v := .int (nI (6 * k))) rfl (fun _ _ _ _ => rfl) rfl rfl ?_
  refine wc_ic (pc' := 262) (w := nI 2) rfl rfl (by decide) ?_
  refine wc_addN (pc' := 263) rfl rfl ?_
  refine wc_sld (pc' := 264) (j := (6 * k) + 2) rfl rfl (by omega) (by omega) ?_
  refine wc_ld (pc' := 265) (q := 0) (kin := 2) (v := .retAddr 1000) rfl (fun _ _ _ _ => rfl) rfl rfl ?_
  refine wc_ld (pc' := 266) (q := 3) (kin := 0) (v := .int (nI (6 * k))) rfl (fun _ _ _ _ => rfl) rfl rfl ?_
  refine wc_ic (pc' := 267) (w := nI 3) rfl rfl (by decide) ?_
  refine wc_addN (pc' := 268) rfl rfl ?_
  refine wc_sld (pc' := 269) (j := (6 * k) + 3) rfl rfl (by omega) (by omega) ?_
  refine wc_ld (pc' := 270) (q := 0) (kin := 2) (v := .retAddr 1000) rfl (fun _ _ _ _ => rfl) rfl rfl ?_
  refine wc_ld (pc' := 271) (q := 3) (kin := 0) (v := .int (nI (6 * k))) rfl (fun _ _ _ _ => rfl) rfl rfl ?_
  refine wc_ic (pc' := 272) (w := nI 4) rfl rfl (by decide) ?_
  refine wc_addN (pc' := 273) rfl rfl ?_
  refine wc_sld (pc' := 274) (j := (6 * k) + 4) rfl rfl (by omega) (by omega) ?_
  refine wc_ld (pc' := 275) (q := 0) (kin := 2) (v := .retAddr 1000) rfl (fun _ _ _ _ => rfl) rfl rfl ?_
  refine wc_ld (pc' := 276) (q := 3) (kin := 0) (v := .int (nI (6 * k))) rfl (fun _ _ _ _ => rfl) rfl rfl ?_
  refine wc_ic (pc' := 277) (w := nI 5) rfl rfl (by decide) ?_
  refine wc_addN (pc' := 278) rfl rfl ?_
  refine wc_sld (pc' := 279) (j := (6 * k) + 5) rfl rfl (by omega) (by omega) ?_
  refine wc_vir (pc' := 282) rfl rfl (by decide) rfl rfl hm (Nat.le_of_ble_eq_true rfl) (CL_of (by decide) g2) (by omega) ?_
  show Wc _ _ 282 _ [.int (r9), .int (r9)] _ _ _ _ _
  refine wc_icmp (t := 1700) (f := 285) rfl rfl rfl (fun c1 => ?_) (fun c1 => ?_)
  · have c1 : ((r9)) = ((r9)) := c1
    exact kk h2 _ _ hR2 (by omega) (by omega)
  · have c1 : ¬ ((r9)) = ((r9)) := c1
    exact absurd rfl (by assumption)
-- 1: end
set_option maxRecDepth 100000 in
theorem law_1 {Rp : aH → Prop} {L : Nat} {xs : Nat → Int32} {h : aH} {k c s : Nat} (hk : 6 * k + 6 ≤ L) (hL : L ≤ 3072) (hR : Rp h) (hs : s + 2582 ≤ 5000000) (hc : ∀ (a : Int32), CaseI Rp 67 156 [.int a]) (kk : ∀ (h2 : aH) (c2 s2 : Nat), Rp h2 → c2 ≤ c + 27 → s2 ≤ s + 2582 → Wc (CL L xs (Rn 700)) 244 1700 [(0, .retAddr 1000), (1, .ref (0)), (2, .ref (71)), (3, .int (nI (6 * k)))] [] h2 c2 s2 5000000 LQ) : Wc (CL L xs (Rn 700)) 244 287 [(0, .retAddr 1000), (1, .ref (0)), (2, .ref (71)), (3, .int (nI (6 * k)))] [] h c s 5000000 LQ := by
  refine wc_ld (pc' := 288) (q := 1) (kin := 2) (v := .ref (0)) rfl (fun _ _ _ _ => rfl) rfl rfl ?_
  refine wc_ld (pc' := 289) (q := 0) (kin := 2) (v := .retAddr 1000) rfl (fun _ _ _ _ => rfl) rfl rfl ?_
  refine wc_ld (pc' := 290) (q := 3) (kin := 0) (v := .int (nI (6 * k))) rfl (fun _ _ _ _ => rfl) rfl rfl ?_
  refine wc_ic (pc' := 291) (w := nI 1) rfl rfl (by decide) ?_
  refine wc_addN (pc' := 292) rfl rfl ?_
  refine wc_sld (pc' := 293) (j := (6 * k) + 1) rfl rfl (by omega) (by omega) ?_
  obtain ⟨r9, h1, h2, cc, ss, f0, f1, e1, e2, hx, g1, hm, g2, hR2⟩ := hc (xs ((6 * k) + 1)) h hR
  refine wc_vir (pc' := 296) rfl rfl (by decide) rfl rfl hx (Nat.le_of_ble_eq_true rfl) (CL_of (by decide) g1) (by omega) ?_
  show Wc _ _ 296 _ [.int (r9)] _ _ _ _ _
  refine wc_ld (pc' := 297) (q := 2) (kin := 2) (v := .ref (71)) rfl (fun _ _ _ _ => rfl) rfl rfl ?_
  refine wc_ld (pc' := 298) (q := 0) (kin := 2) (v := .retAddr 1000) rfl (fun _ _ _ _ => rfl) rfl rfl ?_
  refine wc_ld (pc' := 299) (q := 3) (kin := 0) (v := .int (nI (6 * k))) rfl (fun _ _ _ _ => rfl) rfl rfl ?_
  refine wc_ic (pc' := 300) (w := nI 1) rfl rfl (by decide) ?_
  refine wc_addN (pc' := 301) rfl rfl ?_
  refine wc_sld (pc' := 302) (j := (6 * k) + 1) rfl rfl (by omega) (by omega) ?_
  refine wc_vir (pc' := 305) rfl rfl (by decide) rfl rfl hm (Nat.le_of_ble_eq_true rfl) (CL_of (by decide) g2) (by omega) ?_
  show Wc _ _ 305 _ [.int (r9), .int (r9)] _ _ _ _ _
  refine wc_icmp (t := 1700) (f := 308) rfl rfl rfl (fun c1 => ?_) (fun c1 => ?_)
  · have c1 : ((r9)) = ((r9)) := c1
    exact kk h2 _ _ hR2 (by omega) (by omega)
  · have c1 : ¬ ((r9)) = ((r9)) := c1
    exact absurd rfl (by assumption)
-- 2: land
set_option maxRecDepth 100000 in
theorem law_2 {Rp : aH → Prop} {L : Nat} {xs : Nat → Int32} {h : aH} {k c s : Nat} (hk : 6 * k + 6 ≤ L) (hL : L ≤ 3072) (hR : Rp h) (hs : s + 2582 ≤ 5000000) (hc : CaseI Rp 68 173 []) (kk : ∀ (h2 : aH) (c2 s2 : Nat), Rp h2 → c2 ≤ c + 27 → s2 ≤ s + 2582 → Wc (CL L xs (Rn 700)) 244 1700 [(0, .retAddr 1000), (1, .ref (0)), (2, .ref (71)), (3, .int (nI (6 * k)))] [] h2 c2 s2 5000000 LQ) : Wc (CL L xs (Rn 700)) 244 310 [(0, .retAddr 1000), (1, .ref (0)), (2, .ref (71)), (3, .int (nI (6 * k)))] [] h c s 5000000 LQ := by
  refine wc_ld (pc' := 311) (q := 1) (kin := 2) (v := .ref (0)) rfl (fun _ _ _ _ => rfl) rfl rfl ?_
  obtain ⟨r9, h1, h2, cc, ss, f0, f1, e1, e2, hx, g1, hm, g2, hR2⟩ := hc  h hR
  refine wc_vir (pc' := 314) rfl rfl (by decide) rfl rfl hx (Nat.le_of_ble_eq_true rfl) (CL_of (by decide) g1) (by omega) ?_
  show Wc _ _ 314 _ [.int (r9)] _ _ _ _ _
  refine wc_ld (pc' := 315) (q := 2) (kin := 2) (v := .ref (71)) rfl (fun _ _ _ _ => rfl) rfl rfl ?_
  refine wc_vir (pc' := 318) rfl rfl (by decide) rfl rfl hm (Nat.le_of_ble_eq_true rfl) (CL_of (by decide) g2) (by omega) ?_
  show Wc _ _ 318 _ [.int (r9), .int (r9)] _ _ _ _ _
  refine wc_icmp (t := 1700) (f := 321) rfl rfl rfl (fun c1 => ?_) (fun c1 => ?_)
  · have c1 : ((r9)) = ((r9)) := c1
    exact kk h2 _ _ hR2 (by omega) (by omega)
  · have c1 : ¬ ((r9)) = ((r9)) := c1
    exact absurd rfl (by assumption)
-- 3: fault
set_option maxRecDepth 100000 in
theorem law_3 {Rp : aH → Prop} {L : Nat} {xs : Nat → Int32} {h : aH} {k c s : Nat} (hk : 6 * k + 6 ≤ L) (hL : L ≤ 3072) (hR : Rp h) (hs : s + 2582 ≤ 5000000) (hc : ∀ (a : Int32), CaseI Rp 69 165 [.int a]) (kk : ∀ (h2 : aH) (c2 s2 : Nat), Rp h2 → c2 ≤ c + 27 → s2 ≤ s + 2582 → Wc (CL L xs (Rn 700)) 244 1700 [(0, .retAddr 1000), (1, .ref (0)), (2, .ref (71)), (3, .int (nI (6 * k)))] [] h2 c2 s2 5000000 LQ) : Wc (CL L xs (Rn 700)) 244 323 [(0, .retAddr 1000), (1, .ref (0)), (2, .ref (71)), (3, .int (nI (6 * k)))] [] h c s 5000000 LQ := by
  refine wc_ld (pc' := 324) (q := 1) (kin := 2) (v := .ref (0)) rfl (fun _ _ _ _ => rfl) rfl rfl ?_
  refine wc_ld (pc' := 325) (q := 0) (kin := 2) (v := .retAddr 1000) rfl (fun _ _ _ _ => rfl) rfl rfl ?_
  refine wc_ld (pc' := 326) (q := 3) (kin := 0) (v := .int (nI (6 * k))) rfl (fun _ _ _ _ => rfl) rfl rfl ?_
  refine wc_ic (pc' := 327) (w := nI 1) rfl rfl (by decide) ?_
  refine wc_addN (pc' := 328) rfl rfl ?_
  refine wc_sld (pc' := 329) (j := (6 * k) + 1) rfl rfl (by omega) (by omega) ?_
  obtain ⟨r9, h1, h2, cc, ss, f0, f1, e1, e2, hx, g1, hm, g2, hR2⟩ := hc (xs ((6 * k) + 1)) h hR
  refine wc_vir (pc' := 332) rfl rfl (by decide) rfl rfl hx (Nat.le_of_ble_eq_true rfl) (CL_of (by decide) g1) (by omega) ?_
  show Wc _ _ 332 _ [.int (r9)] _ _ _ _ _
  refine wc_ld (pc' := 333) (q := 2) (kin := 2) (v := .ref (71)) rfl (fun _ _ _ _ => rfl) rfl rfl ?_
  refine wc_ld (pc' := 334) (q := 0) (kin := 2) (v := .retAddr 1000) rfl (fun _ _ _ _ => rfl) rfl rfl ?_
  refine wc_ld (pc' := 335) (q := 3) (kin := 0) (v := .int (nI (6 * k))) rfl (fun _ _ _ _ => rfl) rfl rfl ?_
  refine wc_ic (pc' := 336) (w := nI 1) rfl rfl (by decide) ?_
  refine wc_addN (pc' := 337) rfl rfl ?_
  refine wc_sld (pc' := 338) (j := (6 * k) + 1) rfl rfl (by omega) (by omega) ?_
  refine wc_vir (pc' := 341) rfl rfl (by decide) rfl rfl hm (Nat.le_of_ble_eq_true rfl) (CL_of (by decide) g2) (by omega) ?_
  show Wc _ _ 341 _ [.int (r9), .int (r9)] _ _ _ _ _
  refine wc_icmp (t := 1700) (f := 344) rfl rfl rfl (fun c1 => ?_) (fun c1 => ?_)
  · have c1 : ((r9)) = ((r9)) := c1
    exact kk h2 _ _ hR2 (by omega) (by omega)
  · have c1 : ¬ ((r9)) = ((r9)) := c1
    exact absurd rfl (by assumption)
-- 4: says
set_option maxRecDepth 100000 in
theorem law_4 {Rp : aH → Prop} {L : Nat} {xs : Nat → Int32} {h : aH} {k c s : Nat} (hk : 6 * k + 6 ≤ L) (hL : L ≤ 3072) (hR : Rp h) (hs : s + 2582 ≤ 5000000) (hc : ∀ (a : Int32) (b : Int32) (c : Int32), CaseI Rp 70 182 [.int a, .int b, .int c]) (kk : ∀ (h2 : aH) (c2 s2 : Nat), Rp h2 → c2 ≤ c + 27 → s2 ≤ s + 2582 → Wc (CL L xs (Rn 700)) 244 1700 [(0, .retAddr 1000), (1, .ref (0)), (2, .ref (71)), (3, .int (nI (6 * k)))] [] h2 c2 s2 5000000 LQ) : Wc (CL L xs (Rn 700)) 244 346 [(0, .retAddr 1000), (1, .ref (0)), (2, .ref (71)), (3, .int (nI (6 * k)))] [] h c s 5000000 LQ := by
  refine wc_ld (pc' := 347) (q := 1) (kin := 2) (v := .ref (0)) rfl (fun _ _ _ _ => rfl) rfl rfl ?_
  refine wc_ld (pc' := 348) (q := 0) (kin := 2) (v := .retAddr 1000) rfl (fun _ _ _ _ => rfl) rfl rfl ?_
  refine wc_ld (pc' := 349) (q := 3) (kin := 0) (v := .int (nI (6 * k))) rfl (fun _ _ _ _ => rfl) rfl rfl ?_
  refine wc_ic (pc' := 350) (w := nI 1) rfl rfl (by decide) ?_
  refine wc_addN (pc' := 351) rfl rfl ?_
  refine wc_sld (pc' := 352) (j := (6 * k) + 1) rfl rfl (by omega) (by omega) ?_
  refine wc_ld (pc' := 353) (q := 0) (kin := 2) (v := .retAddr 1000) rfl (fun _ _ _ _ => rfl) rfl rfl ?_
  refine wc_ld (pc' := 354) (q := 3) (kin := 0) (v := .int (nI (6 * k))) rfl (fun _ _ _ _ => rfl) rfl rfl ?_
  refine wc_ic (pc' := 355) (w := nI 2) rfl rfl (by decide) ?_
  refine wc_addN (pc' := 356) rfl rfl ?_
  refine wc_sld (pc' := 357) (j := (6 * k) + 2) rfl rfl (by omega) (by omega) ?_
  refine wc_ld (pc' := 358) (q := 0) (kin := 2) (v := .retAddr 1000) rfl (fun _ _ _ _ => rfl) rfl rfl ?_
  refine wc_ld (pc' := 359) (q := 3) (kin := 0) (v := .int (nI (6 * k))) rfl (fun _ _ _ _ => rfl) rfl rfl ?_
  refine wc_ic (pc' := 360) (w := nI 3) rfl rfl (by decide) ?_
  refine wc_addN (pc' := 361) rfl rfl ?_
  refine wc_sld (pc' := 362) (j := (6 * k) + 3) rfl rfl (by omega) (by omega) ?_
  obtain ⟨r9, h1, h2, cc, ss, f0, f1, e1, e2, hx, g1, hm, g2, hR2⟩ := hc (xs ((6 * k) + 1)) (xs ((6 * k) + 2)) (xs ((6 * k) + 3)) h hR
  refine wc_vir (pc' := 365) rfl rfl (by decide) rfl rfl hx (Nat.le_of_ble_eq_true rfl) (CL_of (by decide) g1) (by omega) ?_
  show Wc _ _ 365 _ [.int (r9)] _ _ _ _ _
  refine wc_ld (pc' := 366) (q := 2) (kin := 2) (v := .ref (71)) rfl (fun _ _ _ _ => rfl) rfl rfl ?_
  refine wc_ld (pc' := 367) (q := 0) (kin := 2) (v := .retAddr 1000) rfl (fun _ _ _ _ => rfl) rfl rfl ?_
  refine wc_ld (pc' := 368) (q := 3) (kin := 0) (v := .int (nI (6 * k))) rfl (fun _ _ _ _ => rfl) rfl rfl ?_
  refine wc_ic (pc' := 369) (w := nI 1) rfl rfl (by decide) ?_
  refine wc_addN (pc' := 370) rfl rfl ?_
  refine wc_sld (pc' := 371) (j := (6 * k) + 1) rfl rfl (by omega) (by omega) ?_
  refine wc_ld (pc' := 372) (q := 0) (kin := 2) (v := .retAddr 1000) rfl (fun _ _ _ _ => rfl) rfl rfl ?_
  refine wc_ld (pc' := 373) (q := 3) (kin := 0) (v := .int (nI (6 * k))) rfl (fun _ _ _ _ => rfl) rfl rfl ?_
  refine wc_ic (pc' := 374) (w := nI 2) rfl rfl (by decide) ?_
  refine wc_addN (pc' := 375) rfl rfl ?_
  refine wc_sld (pc' := 376) (j := (6 * k) + 2) rfl rfl (by omega) (by omega) ?_
  refine wc_ld (pc' := 377) (q := 0) (kin := 2) (v := .retAddr 1000) rfl (fun _ _ _ _ => rfl) rfl rfl ?_
  refine wc_ld (pc' := 378) (q := 3) (kin := 0) (v := .int (nI (6 * k))) rfl (fun _ _ _ _ => rfl) rfl rfl ?_
  refine wc_ic (pc' := 379) (w := nI 3) rfl rfl (by decide) ?_
  refine wc_addN (pc' := 380) rfl rfl ?_
  refine wc_sld (pc' := 381) (j := (6 * k) + 3) rfl rfl (by omega) (by omega) ?_
  refine wc_vir (pc' := 384) rfl rfl (by decide) rfl rfl hm (Nat.le_of_ble_eq_true rfl) (CL_of (by decide) g2) (by omega) ?_
  show Wc _ _ 384 _ [.int (r9), .int (r9)] _ _ _ _ _
  refine wc_icmp (t := 1700) (f := 387) rfl rfl rfl (fun c1 => ?_) (fun c1 => ?_)
  · have c1 : ((r9)) = ((r9)) := c1
    exact kk h2 _ _ hR2 (by omega) (by omega)
  · have c1 : ¬ ((r9)) = ((r9)) := c1
    exact absurd rfl (by assumption)
-- 5: turned
set_option maxRecDepth 100000 in
theorem law_5 {Rp : aH → Prop} {L : Nat} {xs : Nat → Int32} {h : aH} {k c s : Nat} (hk : 6 * k + 6 ≤ L) (hL : L ≤ 3072) (hR : Rp h) (hs : s + 2582 ≤ 5000000) (hc : ∀ (a : Int32) (b : Int32) (c : Int32), CaseI Rp 71 183 [.int a, .int b, .int c]) (kk : ∀ (h2 : aH) (c2 s2 : Nat), Rp h2 → c2 ≤ c + 27 → s2 ≤ s + 2582 → Wc (CL L xs (Rn 700)) 244 1700 [(0, .retAddr 1000), (1, .ref (0)), (2, .ref (71)), (3, .int (nI (6 * k)))] [] h2 c2 s2 5000000 LQ) : Wc (CL L xs (Rn 700)) 244 389 [(0, .retAddr 1000), (1, .ref (0)), (2, .ref (71)), (3, .int (nI (6 * k)))] [] h c s 5000000 LQ := by
  refine wc_ld (pc' := 390) (q := 1) (kin := 2) (v := .ref (0)) rfl (fun _ _ _ _ => rfl) rfl rfl ?_
  refine wc_ld (pc' := 391) (q := 0) (kin := 2) (v := .retAddr 1000) rfl (fun _ _ _ _ => rfl) rfl rfl ?_
  refine wc_ld (pc' := 392) (q := 3) (kin := 0) (v := .int (nI (6 * k))) rfl (fun _ _ _ _ => rfl) rfl rfl ?_
  refine wc_ic (pc' := 393) (w := nI 1) rfl rfl (by decide) ?_
  refine wc_addN (pc' := 394) rfl rfl ?_
  refine wc_sld (pc' := 395) (j := (6 * k) + 1) rfl rfl (by omega) (by omega) ?_
  refine wc_ld (pc' := 396) (q := 0) (kin := 2) (v := .retAddr 1000) rfl (fun _ _ _ _ => rfl) rfl rfl ?_
  refine wc_ld (pc' := 397) (q := 3) (kin := 0) (v := .int (nI (6 * k))) rfl (fun _ _ _ _ => rfl) rfl rfl ?_
  refine wc_ic (pc' := 398) (w := nI 2) rfl rfl (by decide) ?_
  refine wc_addN (pc' := 399) rfl rfl ?_
  refine wc_sld (pc' := 400) (j := (6 * k) + 2) rfl rfl (by omega) (by omega) ?_
  refine wc_ld (pc' := 401) (q := 0) (kin := 2) (v := .retAddr 1000) rfl (fun _ _ _ _ => rfl) rfl rfl ?_
  refine wc_ld (pc' := 402) (q := 3) (kin := 0) (v := .int (nI (6 * k))) rfl (fun _ _ _ _ => rfl) rfl rfl ?_
  refine wc_ic (pc' := 403) (w := nI 3) rfl rfl (by decide) ?_
  refine wc_addN (pc' := 404) rfl rfl ?_
  refine wc_sld (pc' := 405) (j := (6 * k) + 3) rfl rfl (by omega) (by omega) ?_
  obtain ⟨r9, h1, h2, cc, ss, f0, f1, e1, e2, hx, g1, hm, g2, hR2⟩ := hc (xs ((6 * k) + 1)) (xs ((6 * k) + 2)) (xs ((6 * k) + 3)) h hR
  refine wc_vir (pc' := 408) rfl rfl (by decide) rfl rfl hx (Nat.le_of_ble_eq_true rfl) (CL_of (by decide) g1) (by omega) ?_
  show Wc _ _ 408 _ [.int (r9)] _ _ _ _ _
  refine wc_ld (pc' := 409) (q := 2) (kin := 2) (v := .ref (71)) rfl (fun _ _ _ _ => rfl) rfl rfl ?_
  refine wc_ld (pc' := 410) (q := 0) (kin := 2) (v := .retAddr 1000) rfl (fun _ _ _ _ => rfl) rfl rfl ?_
  refine wc_ld (pc' := 411) (q := 3) (kin := 0) (v := .int (nI (6 * k))) rfl (fun _ _ _ _ => rfl) rfl rfl ?_
  refine wc_ic (pc' := 412) (w := nI 1) rfl rfl (by decide) ?_
  refine wc_addN (pc' := 413) rfl rfl ?_
  refine wc_sld (pc' := 414) (j := (6 * k) + 1) rfl rfl (by omega) (by omega) ?_
  refine wc_ld (pc' := 415) (q := 0) (kin := 2) (v := .retAddr 1000) rfl (fun _ _ _ _ => rfl) rfl rfl ?_
  refine wc_ld (pc' := 416) (q := 3) (kin := 0) (v := .int (nI (6 * k))) rfl (fun _ _ _ _ => rfl) rfl rfl ?_
  refine wc_ic (pc' := 417) (w := nI 2) rfl rfl (by decide) ?_
  refine wc_addN (pc' := 418) rfl rfl ?_
  refine wc_sld (pc' := 419) (j := (6 * k) + 2) rfl rfl (by omega) (by omega) ?_
  refine wc_ld (pc' := 420) (q := 0) (kin := 2) (v := .retAddr 1000) rfl (fun _ _ _ _ => rfl) rfl rfl ?_
  refine wc_ld (pc' := 421) (q := 3) (kin := 0) (v := .int (nI (6 * k))) rfl (fun _ _ _ _ => rfl) rfl rfl ?_
  refine wc_ic (pc' := 422) (w := nI 3) rfl rfl (by decide) ?_
  refine wc_addN (pc' := 423) rfl rfl ?_
  refine wc_sld (pc' := 424) (j := (6 * k) + 3) rfl rfl (by omega) (by omega) ?_
  refine wc_vir (pc' := 427) rfl rfl (by decide) rfl rfl hm (Nat.le_of_ble_eq_true rfl) (CL_of (by decide) g2) (by omega) ?_
  show Wc _ _ 427 _ [.int (r9), .int (r9)] _ _ _ _ _
  refine wc_icmp (t := 1700) (f := 430) rfl rfl rfl (fun c1 => ?_) (fun c1 => ?_)
  · have c1 : ((r9)) = ((r9)) := c1
    exact kk h2 _ _ hR2 (by omega) (by omega)
  · have c1 : ¬ ((r9)) = ((r9)) := c1
    exact absurd rfl (by assumption)
-- 6: lines
set_option maxRecDepth 100000 in
theorem law_6 {Rp : aH → Prop} {L : Nat} {xs : Nat → Int32} {h : aH} {k c s : Nat} (hk : 6 * k + 6 ≤ L) (hL : L ≤ 3072) (hR : Rp h) (hs : s + 2582 ≤ 5000000) (hc : ∀ (a : Int32) (b : Int32), CaseI Rp 72 186 [.int a, .int b]) (kk : ∀ (h2 : aH) (c2 s2 : Nat), Rp h2 → c2 ≤ c + 27 → s2 ≤ s + 2582 → Wc (CL L xs (Rn 700)) 244 1700 [(0, .retAddr 1000), (1, .ref (0)), (2, .ref (71)), (3, .int (nI (6 * k)))] [] h2 c2 s2 5000000 LQ) : Wc (CL L xs (Rn 700)) 244 432 [(0, .retAddr 1000), (1, .ref (0)), (2, .ref (71)), (3, .int (nI (6 * k)))] [] h c s 5000000 LQ := by
  refine wc_ld (pc' := 433) (q := 1) (kin := 2) (v := .ref (0)) rfl (fun _ _ _ _ => rfl) rfl rfl ?_
  refine wc_ld (pc' := 434) (q := 0) (kin := 2) (v := .retAddr 1000) rfl (fun _ _ _ _ => rfl) rfl rfl ?_
  refine wc_ld (pc' := 435) (q := 3) (kin := 0) (v := .int (nI (6 * k))) rfl (fun _ _ _ _ => rfl) rfl rfl ?_
  refine wc_ic (pc' := 436) (w := nI 1) rfl rfl (by decide) ?_
  refine wc_addN (pc' := 437) rfl rfl ?_
  refine wc_sld (pc' := 438) (j := (6 * k) + 1) rfl rfl (by omega) (by omega) ?_
  refine wc_ld (pc' := 439) (q := 0) (kin := 2) (v := .retAddr 1000) rfl (fun _ _ _ _ => rfl) rfl rfl ?_
  refine wc_ld (pc' := 440) (q := 3) (kin := 0) (v := .int (nI (6 * k))) rfl (fun _ _ _ _ => rfl) rfl rfl ?_
  refine wc_ic (pc' := 441) (w := nI 2) rfl rfl (by decide) ?_
  refine wc_addN (pc' := 442) rfl rfl ?_
  refine wc_sld (pc' := 443) (j := (6 * k) + 2) rfl rfl (by omega) (by omega) ?_
  obtain ⟨r9, h1, h2, cc, ss, f0, f1, e1, e2, hx, g1, hm, g2, hR2⟩ := hc (xs ((6 * k) + 1)) (xs ((6 * k) + 2)) h hR
  refine wc_vir (pc' := 446) rfl rfl (by decide) rfl rfl hx (Nat.le_of_ble_eq_true rfl) (CL_of (by decide) g1) (by omega) ?_
  show Wc _ _ 446 _ [.int (r9)] _ _ _ _ _
  refine wc_ld (pc' := 447) (q := 2) (kin := 2) (v := .ref (71)) rfl (fun _ _ _ _ => rfl) rfl rfl ?_
  refine wc_ld (pc' := 448) (q := 0) (kin := 2) (v := .retAddr 1000) rfl (fun _ _ _ _ => rfl) rfl rfl ?_
  refine wc_ld (pc' := 449) (q := 3) (kin := 0) (v := .int (nI (6 * k))) rfl (fun _ _ _ _ => rfl) rfl rfl ?_
  refine wc_ic (pc' := 450) (w := nI 1) rfl rfl (by decide) ?_
  refine wc_addN (pc' := 451) rfl rfl ?_
  refine wc_sld (pc' := 452) (j := (6 * k) + 1) rfl rfl (by omega) (by omega) ?_
  refine wc_ld (pc' := 453) (q := 0) (kin := 2) (v := .retAddr 1000) rfl (fun _ _ _ _ => rfl) rfl rfl ?_
  refine wc_ld (pc' := 454) (q := 3) (kin := 0) (v := .int (nI (6 * k))) rfl (fun _ _ _ _ => rfl) rfl rfl ?_
  refine wc_ic (pc' := 455) (w := nI 2) rfl rfl (by decide) ?_
  refine wc_addN (pc' := 456) rfl rfl ?_
  refine wc_sld (pc' := 457) (j := (6 * k) + 2) rfl rfl (by omega) (by omega) ?_
  refine wc_vir (pc' := 460) rfl rfl (by decide) rfl rfl hm (Nat.le_of_ble_eq_true rfl) (CL_of (by decide) g2) (by omega) ?_
  show Wc _ _ 460 _ [.int (r9), .int (r9)] _ _ _ _ _
  refine wc_icmp (t := 1700) (f := 463) rfl rfl rfl (fun c1 => ?_) (fun c1 => ?_)
  · have c1 : ((r9)) = ((r9)) := c1
    exact kk h2 _ _ hR2 (by omega) (by omega)
  · have c1 : ¬ ((r9)) = ((r9)) := c1
    exact absurd rfl (by assumption)
-- 7: bundle
set_option maxRecDepth 100000 in
theorem law_7 {Rp : aH → Prop} {L : Nat} {xs : Nat → Int32} {h : aH} {k c s : Nat} (hk : 6 * k + 6 ≤ L) (hL : L ≤ 3072) (hR : Rp h) (hs : s + 2582 ≤ 5000000) (hc : ∀ (a : Int32) (b : Int32), CaseI Rp 75 188 [.int a, .int b]) (kk : ∀ (h2 : aH) (c2 s2 : Nat), Rp h2 → c2 ≤ c + 27 → s2 ≤ s + 2582 → Wc (CL L xs (Rn 700)) 244 1700 [(0, .retAddr 1000), (1, .ref (0)), (2, .ref (71)), (3, .int (nI (6 * k)))] [] h2 c2 s2 5000000 LQ) : Wc (CL L xs (Rn 700)) 244 465 [(0, .retAddr 1000), (1, .ref (0)), (2, .ref (71)), (3, .int (nI (6 * k)))] [] h c s 5000000 LQ := by
  refine wc_ld (pc' := 466) (q := 1) (kin := 2) (v := .ref (0)) rfl (fun _ _ _ _ => rfl) rfl rfl ?_
  refine wc_ld (pc' := 467) (q := 0) (kin := 2) (v := .retAddr 1000) rfl (fun _ _ _ _ => rfl) rfl rfl ?_
  refine wc_ld (pc' := 468) (q := 3) (kin := 0) (v := .int (nI (6 * k))) rfl (fun _ _ _ _ => rfl) rfl rfl ?_
  refine wc_ic (pc' := 469) (w := nI 1) rfl rfl (by decide) ?_
  refine wc_addN (pc' := 470) rfl rfl ?_
  refine wc_sld (pc' := 471) (j := (6 * k) + 1) rfl rfl (by omega) (by omega) ?_
  refine wc_ld (pc' := 472) (q := 0) (kin := 2) (v := .retAddr 1000) rfl (fun _ _ _ _ => rfl) rfl rfl ?_
  refine wc_ld (pc' := 473) (q := 3) (kin := 0) (v := .int (nI (6 * k))) rfl (fun _ _ _ _ => rfl) rfl rfl ?_
  refine wc_ic (pc' := 474) (w := nI 2) rfl rfl (by decide) ?_
  refine wc_addN (pc' := 475) rfl rfl ?_
  refine wc_sld (pc' := 476) (j := (6 * k) + 2) rfl rfl (by omega) (by omega) ?_
  obtain ⟨r9, h1, h2, cc, ss, f0, f1, e1, e2, hx, g1, hm, g2, hR2⟩ := hc (xs ((6 * k) + 1)) (xs ((6 * k) + 2)) h hR
  refine wc_vir (pc' := 479) rfl rfl (by decide) rfl rfl hx (Nat.le_of_ble_eq_true rfl) (CL_of (by decide) g1) (by omega) ?_
  show Wc _ _ 479 _ [.int (r9)] _ _ _ _ _
  refine wc_ld (pc' := 480) (q := 2) (kin := 2) (v := .ref (71)) rfl (fun _ _ _ _ => rfl) rfl rfl ?_
  refine wc_ld (pc' := 481) (q := 0) (kin := 2) (v := .retAddr 1000) rfl (fun _ _ _ _ => rfl) rfl rfl ?_
  refine wc_ld (pc' := 482) (q := 3) (kin := 0) (v := .int (nI (6 * k))) rfl (fun _ _ _ _ => rfl) rfl rfl ?_
  refine wc_ic (pc' := 483) (w := nI 1) rfl rfl (by decide) ?_
  refine wc_addN (pc' := 484) rfl rfl ?_
  refine wc_sld (pc' := 485) (j := (6 * k) + 1) rfl rfl (by omega) (by omega) ?_
  refine wc_ld (pc' := 486) (q := 0) (kin := 2) (v := .retAddr 1000) rfl (fun _ _ _ _ => rfl) rfl rfl ?_
  refine wc_ld (pc' := 487) (q := 3) (kin := 0) (v := .int (nI (6 * k))) rfl (fun _ _ _ _ => rfl) rfl rfl ?_
  refine wc_ic (pc' := 488) (w := nI 2) rfl rfl (by decide) ?_
  refine wc_addN (pc' := 489) rfl rfl ?_
  refine wc_sld (pc' := 490) (j := (6 * k) + 2) rfl rfl (by omega) (by omega) ?_
  refine wc_vir (pc' := 493) rfl rfl (by decide) rfl rfl hm (Nat.le_of_ble_eq_true rfl) (CL_of (by decide) g2) (by omega) ?_
  show Wc _ _ 493 _ [.int (r9), .int (r9)] _ _ _ _ _
  refine wc_icmp (t := 1700) (f := 496) rfl rfl rfl (fun c1 => ?_) (fun c1 => ?_)
  · have c1 : ((r9)) = ((r9)) := c1
    exact kk h2 _ _ hR2 (by omega) (by omega)
  · have c1 : ¬ ((r9)) = ((r9)) := c1
    exact absurd rfl (by assumption)
-- 8: thick
set_option maxRecDepth 100000 in
theorem law_8 {Rp : aH → Prop} {L : Nat} {xs : Nat → Int32} {h : aH} {k c s : Nat} (hk : 6 * k + 6 ≤ L) (hL : L ≤ 3072) (hR : Rp h) (hs : s + 2582 ≤ 5000000) (hc : ∀ (a : Int32), CaseI Rp 78 189 [.int a]) (kk : ∀ (h2 : aH) (c2 s2 : Nat), Rp h2 → c2 ≤ c + 27 → s2 ≤ s + 2582 → Wc (CL L xs (Rn 700)) 244 1700 [(0, .retAddr 1000), (1, .ref (0)), (2, .ref (71)), (3, .int (nI (6 * k)))] [] h2 c2 s2 5000000 LQ) : Wc (CL L xs (Rn 700)) 244 498 [(0, .retAddr 1000), (1, .ref (0)), (2, .ref (71)), (3, .int (nI (6 * k)))] [] h c s 5000000 LQ := by
  refine wc_ld (pc' := 499) (q := 1) (kin := 2) (v := .ref (0)) rfl (fun _ _ _ _ => rfl) rfl rfl ?_
  refine wc_ld (pc' := 500) (q := 0) (kin := 2) (v := .retAddr 1000) rfl (fun _ _ _ _ => rfl) rfl rfl ?_
  refine wc_ld (pc' := 501) (q := 3) (kin := 0) (v := .int (nI (6 * k))) rfl (fun _ _ _ _ => rfl) rfl rfl ?_
  refine wc_ic (pc' := 502) (w := nI 1) rfl rfl (by decide) ?_
  refine wc_addN (pc' := 503) rfl rfl ?_
  refine wc_sld (pc' := 504) (j := (6 * k) + 1) rfl rfl (by omega) (by omega) ?_
  obtain ⟨r9, h1, h2, cc, ss, f0, f1, e1, e2, hx, g1, hm, g2, hR2⟩ := hc (xs ((6 * k) + 1)) h hR
  refine wc_vir (pc' := 507) rfl rfl (by decide) rfl rfl hx (Nat.le_of_ble_eq_true rfl) (CL_of (by decide) g1) (by omega) ?_
  show Wc _ _ 507 _ [.int (r9)] _ _ _ _ _
  refine wc_ld (pc' := 508) (q := 2) (kin := 2) (v := .ref (71)) rfl (fun _ _ _ _ => rfl) rfl rfl ?_
  refine wc_ld (pc' := 509) (q := 0) (kin := 2) (v := .retAddr 1000) rfl (fun _ _ _ _ => rfl) rfl rfl ?_
  refine wc_ld (pc' := 510) (q := 3) (kin := 0) (v := .int (nI (6 * k))) rfl (fun _ _ _ _ => rfl) rfl rfl ?_
  refine wc_ic (pc' := 511) (w := nI 1) rfl rfl (by decide) ?_
  refine wc_addN (pc' := 512) rfl rfl ?_
  refine wc_sld (pc' := 513) (j := (6 * k) + 1) rfl rfl (by omega) (by omega) ?_
  refine wc_vir (pc' := 516) rfl rfl (by decide) rfl rfl hm (Nat.le_of_ble_eq_true rfl) (CL_of (by decide) g2) (by omega) ?_
  show Wc _ _ 516 _ [.int (r9), .int (r9)] _ _ _ _ _
  refine wc_icmp (t := 1700) (f := 519) rfl rfl rfl (fun c1 => ?_) (fun c1 => ?_)
  · have c1 : ((r9)) = ((r9)) := c1
    exact kk h2 _ _ hR2 (by omega) (by omega)
  · have c1 : ¬ ((r9)) = ((r9)) := c1
    exact absurd rfl (by assumption)
-- 9: crossed
set_option maxRecDepth 100000 in
theorem law_9 {Rp : aH → Prop} {L : Nat} {xs : Nat → Int32} {h : aH} {k c s : Nat} (hk : 6 * k + 6 ≤ L) (hL : L ≤ 3072) (hR : Rp h) (hs : s + 2582 ≤ 5000000) (hc : ∀ (a : Int32) (b : Int32), CaseI Rp 79 190 [.int a, .int b]) (kk : ∀ (h2 : aH) (c2 s2 : Nat), Rp h2 → c2 ≤ c + 27 → s2 ≤ s + 2582 → Wc (CL L xs (Rn 700)) 244 1700 [(0, .retAddr 1000), (1, .ref (0)), (2, .ref (71)), (3, .int (nI (6 * k)))] [] h2 c2 s2 5000000 LQ) : Wc (CL L xs (Rn 700)) 244 521 [(0, .retAddr 1000), (1, .ref (0)), (2, .ref (71)), (3, .int (nI (6 * k)))] [] h c s 5000000 LQ := by
  refine wc_ld (pc' := 522) (q := 1) (kin := 2) (v := .ref (0)) rfl (fun _ _ _ _ => rfl) rfl rfl ?_
  refine wc_ld (pc' := 523) (q := 0) (kin := 2) (v := .retAddr 1000) rfl (fun _ _ _ _ => rfl) rfl rfl ?_
  refine wc_ld (pc' := 524) (q := 3) (kin := 0) (v := .int (nI (6 * k))) rfl (fun _ _ _ _ => rfl) rfl rfl ?_
  refine wc_ic (pc' := 525) (w := nI 1) rfl rfl (by decide) ?_
  refine wc_addN (pc' := 526) rfl rfl ?_
  refine wc_sld (pc' := 527) (j := (6 * k) + 1) rfl rfl (by omega) (by omega) ?_
  refine wc_ld (pc' := 528) (q := 0) (kin := 2) (v := .retAddr 1000) rfl (fun _ _ _ _ => rfl) rfl rfl ?_
  refine wc_ld (pc' := 529) (q := 3) (kin := 0) (v := .int (nI (6 * k))) rfl (fun _ _ _ _ => rfl) rfl rfl ?_
  refine wc_ic (pc' := 530) (w := nI 2) rfl rfl (by decide) ?_
  refine wc_addN (pc' := 531) rfl rfl ?_
  refine wc_sld (pc' := 532) (j := (6 * k) + 2) rfl rfl (by omega) (by omega) ?_
  obtain ⟨r9, h1, h2, cc, ss, f0, f1, e1, e2, hx, g1, hm, g2, hR2⟩ := hc (xs ((6 * k) + 1)) (xs ((6 * k) + 2)) h hR
  refine wc_vir (pc' := 535) rfl rfl (by decide) rfl rfl hx (Nat.le_of_ble_eq_true rfl) (CL_of (by decide) g1) (by omega) ?_
  show Wc _ _ 535 _ [.int (r9)] _ _ _ _ _
  refine wc_ld (pc' := 536) (q := 2) (kin := 2) (v := .ref (71)) rfl (fun _ _ _ _ => rfl) rfl rfl ?_
  refine wc_ld (pc' := 537) (q := 0) (kin := 2) (v := .retAddr 1000) rfl (fun _ _ _ _ => rfl) rfl rfl ?_
  refine wc_ld (pc' := 538) (q := 3) (kin := 0) (v := .int (nI (6 * k))) rfl (fun _ _ _ _ => rfl) rfl rfl ?_
  refine wc_ic (pc' := 539) (w := nI 1) rfl rfl (by decide) ?_
  refine wc_addN (pc' := 540) rfl rfl ?_
  refine wc_sld (pc' := 541) (j := (6 * k) + 1) rfl rfl (by omega) (by omega) ?_
  refine wc_ld (pc' := 542) (q := 0) (kin := 2) (v := .retAddr 1000) rfl (fun _ _ _ _ => rfl) rfl rfl ?_
  refine wc_ld (pc' := 543) (q := 3) (kin := 0) (v := .int (nI (6 * k))) rfl (fun _ _ _ _ => rfl) rfl rfl ?_
  refine wc_ic (pc' := 544) (w := nI 2) rfl rfl (by decide) ?_
  refine wc_addN (pc' := 545) rfl rfl ?_
  refine wc_sld (pc' := 546) (j := (6 * k) + 2) rfl rfl (by omega) (by omega) ?_
  refine wc_vir (pc' := 549) rfl rfl (by decide) rfl rfl hm (Nat.le_of_ble_eq_true rfl) (CL_of (by decide) g2) (by omega) ?_
  show Wc _ _ 549 _ [.int (r9), .int (r9)] _ _ _ _ _
  refine wc_icmp (t := 1700) (f := 552) rfl rfl rfl (fun c1 => ?_) (fun c1 => ?_)
  · have c1 : ((r9)) = ((r9)) := c1
    exact kk h2 _ _ hR2 (by omega) (by omega)
  · have c1 : ¬ ((r9)) = ((r9)) := c1
    exact absurd rfl (by assumption)
-- 10: areas
set_option maxRecDepth 100000 in
theorem law_10 {Rp : aH → Prop} {L : Nat} {xs : Nat → Int32} {h : aH} {k c s : Nat} (hk : 6 * k + 6 ≤ L) (hL : L ≤ 3072) (hR : Rp h) (hs : s + 2582 ≤ 5000000) (hc : ∀ (a : Int32) (b : Int32), CaseI Rp 80 192 [.int a, .int b]) (kk : ∀ (h2 : aH) (c2 s2 : Nat), Rp h2 → c2 ≤ c + 27 → s2 ≤ s + 2582 → Wc (CL L xs (Rn 700)) 244 1700 [(0, .retAddr 1000), (1, .ref (0)), (2, .ref (71)), (3, .int (nI (6 * k)))] [] h2 c2 s2 5000000 LQ) : Wc (CL L xs (Rn 700)) 244 554 [(0, .retAddr 1000), (1, .ref (0)), (2, .ref (71)), (3, .int (nI (6 * k)))] [] h c s 5000000 LQ := by
  refine wc_ld (pc' := 555) (q := 1) (kin := 2) (v := .ref (0)) rfl (fun _ _ _ _ => rfl) rfl rfl ?_
  refine wc_ld (pc' := 556) (q := 0) (kin := 2) (v := .retAddr 1000) rfl (fun _ _ _ _ => rfl) rfl rfl ?_
  refine wc_ld (pc' := 557) (q := 3) (kin := 0) (v := .int (nI (6 * k))) rfl (fun _ _ _ _ => rfl) rfl rfl ?_
  refine wc_ic (pc' := 558) (w := nI 1) rfl rfl (by decide) ?_
  refine wc_addN (pc' := 559) rfl rfl ?_
  refine wc_sld (pc' := 560) (j := (6 * k) + 1) rfl rfl (by omega) (by omega) ?_
  refine wc_ld (pc' := 561) (q := 0) (kin := 2) (v := .retAddr 1000) rfl (fun _ _ _ _ => rfl) rfl rfl ?_
  refine wc_ld (pc' := 562) (q := 3) (kin := 0) (v := .int (nI (6 * k))) rfl (fun _ _ _ _ => rfl) rfl rfl ?_
  refine wc_ic (pc' := 563) (w := nI 2) rfl rfl (by decide) ?_
  refine wc_addN (pc' := 564) rfl rfl ?_
  refine wc_sld (pc' := 565) (j := (6 * k) + 2) rfl rfl (by omega) (by omega) ?_
  obtain ⟨r9, h1, h2, cc, ss, f0, f1, e1, e2, hx, g1, hm, g2, hR2⟩ := hc (xs ((6 * k) + 1)) (xs ((6 * k) + 2)) h hR
  refine wc_vir (pc' := 568) rfl rfl (by decide) rfl rfl hx (Nat.le_of_ble_eq_true rfl) (CL_of (by decide) g1) (by omega) ?_
  show Wc _ _ 568 _ [.int (r9)] _ _ _ _ _
  refine wc_ld (pc' := 569) (q := 2) (kin := 2) (v := .ref (71)) rfl (fun _ _ _ _ => rfl) rfl rfl ?_
  refine wc_ld (pc' := 570) (q := 0) (kin := 2) (v := .retAddr 1000) rfl (fun _ _ _ _ => rfl) rfl rfl ?_
  refine wc_ld (pc' := 571) (q := 3) (kin := 0) (v := .int (nI (6 * k))) rfl (fun _ _ _ _ => rfl) rfl rfl ?_
  refine wc_ic (pc' := 572) (w := nI 1) rfl rfl (by decide) ?_
  refine wc_addN (pc' := 573) rfl rfl ?_
  refine wc_sld (pc' := 574) (j := (6 * k) + 1) rfl rfl (by omega) (by omega) ?_
  refine wc_ld (pc' := 575) (q := 0) (kin := 2) (v := .retAddr 1000) rfl (fun _ _ _ _ => rfl) rfl rfl ?_
  refine wc_ld (pc' := 576) (q := 3) (kin := 0) (v := .int (nI (6 * k))) rfl (fun _ _ _ _ => rfl) rfl rfl ?_
  refine wc_ic (pc' := 577) (w := nI 2) rfl rfl (by decide) ?_
  refine wc_addN (pc' := 578) rfl rfl ?_
  refine wc_sld (pc' := 579) (j := (6 * k) + 2) rfl rfl (by omega) (by omega) ?_
  refine wc_vir (pc' := 582) rfl rfl (by decide) rfl rfl hm (Nat.le_of_ble_eq_true rfl) (CL_of (by decide) g2) (by omega) ?_
  show Wc _ _ 582 _ [.int (r9), .int (r9)] _ _ _ _ _
  refine wc_icmp (t := 1700) (f := 585) rfl rfl rfl (fun c1 => ?_) (fun c1 => ?_)
  · have c1 : ((r9)) = ((r9)) := c1
    exact kk h2 _ _ hR2 (by omega) (by omega)
  · have c1 : ¬ ((r9)) = ((r9)) := c1
    exact absurd rfl (by assumption)
-- 11: area
set_option maxRecDepth 100000 in
theorem law_11 {Rp : aH → Prop} {L : Nat} {xs : Nat → Int32} {h : aH} {k c s : Nat} (hk : 6 * k + 6 ≤ L) (hL : L ≤ 3072) (hR : Rp h) (hs : s + 2582 ≤ 5000000) (hc : ∀ (a : Int32) (b : Int32) (c : Int32), CaseI Rp 81 193 [.int a, .int b, .int c]) (kk : ∀ (h2 : aH) (c2 s2 : Nat), Rp h2 → c2 ≤ c + 27 → s2 ≤ s + 2582 → Wc (CL L xs (Rn 700)) 244 1700 [(0, .retAddr 1000), (1, .ref (0)), (2, .ref (71)), (3, .int (nI (6 * k)))] [] h2 c2 s2 5000000 LQ) : Wc (CL L xs (Rn 700)) 244 587 [(0, .retAddr 1000), (1, .ref (0)), (2, .ref (71)), (3, .int (nI (6 * k)))] [] h c s 5000000 LQ := by
  refine wc_ld (pc' := 588) (q := 1) (kin := 2) (v := .ref (0)) rfl (fun _ _ _ _ => rfl) rfl rfl ?_
  refine wc_ld (pc' := 589) (q := 0) (kin := 2) (v := .retAddr 1000) rfl (fun _ _ _ _ => rfl) rfl rfl ?_
  refine wc_ld (pc' := 590) (q := 3) (kin := 0) (v := .int (nI (6 * k))) rfl (fun _ _ _ _ => rfl) rfl rfl ?_
  refine wc_ic (pc' := 591) (w := nI 1) rfl rfl (by decide) ?_
  refine wc_addN (pc' := 592) rfl rfl ?_
  refine wc_sld (pc' := 593) (j := (6 * k) + 1) rfl rfl (by omega) (by omega) ?_
  refine wc_ld (pc' := 594) (q := 0) (kin := 2) (v := .retAddr 1000) rfl (fun _ _ _ _ => rfl) rfl rfl ?_
  refine wc_ld (pc' := 595) (q := 3) (kin := 0) (v := .int (nI (6 * k))) rfl (fun _ _ _ _ => rfl) rfl rfl ?_
  refine wc_ic (pc' := 596) (w := nI 2) rfl rfl (by decide) ?_
  refine wc_addN (pc' := 597) rfl rfl ?_
  refine wc_sld (pc' := 598) (j := (6 * k) + 2) rfl rfl (by omega) (by omega) ?_
  refine wc_ld (pc' := 599) (q := 0) (kin := 2) (v := .retAddr 1000) rfl (fun _ _ _ _ => rfl) rfl rfl ?_
  refine wc_ld (pc' := 600) (q := 3) (kin := 0) (v := .int (nI (6 * k))) rfl (fun _ _ _ _ => rfl) rfl rfl ?_
  refine wc_ic (pc' := 601) (w := nI 3) rfl rfl (by decide) ?_
  refine wc_addN (pc' := 602) rfl rfl ?_
  refine wc_sld (pc' := 603) (j := (6 * k) + 3) rfl rfl (by omega) (by omega) ?_
  obtain ⟨r9, h1, h2, cc, ss, f0, f1, e1, e2, hx, g1, hm, g2, hR2⟩ := hc (xs ((6 * k) + 1)) (xs ((6 * k) + 2)) (xs ((6 * k) + 3)) h hR
  refine wc_vir (pc' := 606) rfl rfl (by decide) rfl rfl hx (Nat.le_of_ble_eq_true rfl) (CL_of (by decide) g1) (by omega) ?_
  show Wc _ _ 606 _ [.int (r9)] _ _ _ _ _
  refine wc_ld (pc' := 607) (q := 2) (kin := 2) (v := .ref (71)) rfl (fun _ _ _ _ => rfl) rfl rfl ?_
  refine wc_ld (pc' := 608) (q := 0) (kin := 2) (v := .retAddr 1000) rfl (fun _ _ _ _ => rfl) rfl rfl ?_
  refine wc_ld (pc' := 609) (q := 3) (kin := 0) (v := .int (nI (6 * k))) rfl (fun _ _ _ _ => rfl) rfl rfl ?_
  refine wc_ic (pc' := 610) (w := nI 1) rfl rfl (by decide) ?_
  refine wc_addN (pc' := 611) rfl rfl ?_
  refine wc_sld (pc' := 612) (j := (6 * k) + 1) rfl rfl (by omega) (by omega) ?_
  refine wc_ld (pc' := 613) (q := 0) (kin := 2) (v := .retAddr 1000) rfl (fun _ _ _ _ => rfl) rfl rfl ?_
  refine wc_ld (pc' := 614) (q := 3) (kin := 0) (v := .int (nI (6 * k))) rfl (fun _ _ _ _ => rfl) rfl rfl ?_
  refine wc_ic (pc' := 615) (w := nI 2) rfl rfl (by decide) ?_
  refine wc_addN (pc' := 616) rfl rfl ?_
  refine wc_sld (pc' := 617) (j := (6 * k) + 2) rfl rfl (by omega) (by omega) ?_
  refine wc_ld (pc' := 618) (q := 0) (kin := 2) (v := .retAddr 1000) rfl (fun _ _ _ _ => rfl) rfl rfl ?_
  refine wc_ld (pc' := 619) (q := 3) (kin := 0) (v := .int (nI (6 * k))) rfl (fun _ _ _ _ => rfl) rfl rfl ?_
  refine wc_ic (pc' := 620) (w := nI 3) rfl rfl (by decide) ?_
  refine wc_addN (pc' := 621) rfl rfl ?_
  refine wc_sld (pc' := 622) (j := (6 * k) + 3) rfl rfl (by omega) (by omega) ?_
  refine wc_vir (pc' := 625) rfl rfl (by decide) rfl rfl hm (Nat.le_of_ble_eq_true rfl) (CL_of (by decide) g2) (by omega) ?_
  show Wc _ _ 625 _ [.int (r9), .int (r9)] _ _ _ _ _
  refine wc_icmp (t := 1700) (f := 628) rfl rfl rfl (fun c1 => ?_) (fun c1 => ?_)
  · have c1 : ((r9)) = ((r9)) := c1
    exact kk h2 _ _ hR2 (by omega) (by omega)
  · have c1 : ¬ ((r9)) = ((r9)) := c1
    exact absurd rfl (by assumption)
-- 12: moved
set_option maxRecDepth 100000 in
theorem law_12 {Rp : aH → Prop} {L : Nat} {xs : Nat → Int32} {h : aH} {k c s : Nat} (hk : 6 * k + 6 ≤ L) (hL : L ≤ 3072) (hR : Rp h) (hs : s + 2582 ≤ 5000000) (hc : ∀ (a : Int32) (b : Int32) (c : Int32), CaseI Rp 83 194 [.int a, .int b, .int c]) (kk : ∀ (h2 : aH) (c2 s2 : Nat), Rp h2 → c2 ≤ c + 27 → s2 ≤ s + 2582 → Wc (CL L xs (Rn 700)) 244 1700 [(0, .retAddr 1000), (1, .ref (0)), (2, .ref (71)), (3, .int (nI (6 * k)))] [] h2 c2 s2 5000000 LQ) : Wc (CL L xs (Rn 700)) 244 630 [(0, .retAddr 1000), (1, .ref (0)), (2, .ref (71)), (3, .int (nI (6 * k)))] [] h c s 5000000 LQ := by
  refine wc_ld (pc' := 631) (q := 1) (kin := 2) (v := .ref (0)) rfl (fun _ _ _ _ => rfl) rfl rfl ?_
  refine wc_ld (pc' := 632) (q := 0) (kin := 2) (v := .retAddr 1000) rfl (fun _ _ _ _ => rfl) rfl rfl ?_
  refine wc_ld (pc' := 633) (q := 3) (kin := 0) (v := .int (nI (6 * k))) rfl (fun _ _ _ _ => rfl) rfl rfl ?_
  refine wc_ic (pc' := 634) (w := nI 1) rfl rfl (by decide) ?_
  refine wc_addN (pc' := 635) rfl rfl ?_
  refine wc_sld (pc' := 636) (j := (6 * k) + 1) rfl rfl (by omega) (by omega) ?_
  refine wc_ld (pc' := 637) (q := 0) (kin := 2) (v := .retAddr 1000) rfl (fun _ _ _ _ => rfl) rfl rfl ?_
  refine wc_ld (pc' := 638) (q := 3) (kin := 0) (v := .int (nI (6 * k))) rfl (fun _ _ _ _ => rfl) rfl rfl ?_
  refine wc_ic (pc' := 639) (w := nI 2) rfl rfl (by decide) ?_
  refine wc_addN (pc' := 640) rfl rfl ?_
  refine wc_sld (pc' := 641) (j := (6 * k) + 2) rfl rfl (by omega) (by omega) ?_
  refine wc_ld (pc' := 642) (q := 0) (kin := 2) (v := .retAddr 1000) rfl (fun _ _ _ _ => rfl) rfl rfl ?_
  refine wc_ld (pc' := 643) (q := 3) (kin := 0) (v := .int (nI (6 * k))) rfl (fun _ _ _ _ => rfl) rfl rfl ?_
  refine wc_ic (pc' := 644) (w := nI 3) rfl rfl (by decide) ?_
  refine wc_addN (pc' := 645) rfl rfl ?_
  refine wc_sld (pc' := 646) (j := (6 * k) + 3) rfl rfl (by omega) (by omega) ?_
  obtain ⟨r9, h1, h2, cc, ss, f0, f1, e1, e2, hx, g1, hm, g2, hR2⟩ := hc (xs ((6 * k) + 1)) (xs ((6 * k) + 2)) (xs ((6 * k) + 3)) h hR
  refine wc_vir (pc' := 649) rfl rfl (by decide) rfl rfl hx (Nat.le_of_ble_eq_true rfl) (CL_of (by decide) g1) (by omega) ?_
  show Wc _ _ 649 _ [.int (r9)] _ _ _ _ _
  refine wc_ld (pc' := 650) (q := 2) (kin := 2) (v := .ref (71)) rfl (fun _ _ _ _ => rfl) rfl rfl ?_
  refine wc_ld (pc' := 651) (q := 0) (kin := 2) (v := .retAddr 1000) rfl (fun _ _ _ _ => rfl) rfl rfl ?_
  refine wc_ld (pc' := 652) (q := 3) (kin := 0) (v := .int (nI (6 * k))) rfl (fun _ _ _ _ => rfl) rfl rfl ?_
  refine wc_ic (pc' := 653) (w := nI 1) rfl rfl (by decide) ?_
  refine wc_addN (pc' := 654) rfl rfl ?_
  refine wc_sld (pc' := 655) (j := (6 * k) + 1) rfl rfl (by omega) (by omega) ?_
  refine wc_ld (pc' := 656) (q := 0) (kin := 2) (v := .retAddr 1000) rfl (fun _ _ _ _ => rfl) rfl rfl ?_
  refine wc_ld (pc' := 657) (q := 3) (kin := 0) (v := .int (nI (6 * k))) rfl (fun _ _ _ _ => rfl) rfl rfl ?_
  refine wc_ic (pc' := 658) (w := nI 2) rfl rfl (by decide) ?_
  refine wc_addN (pc' := 659) rfl rfl ?_
  refine wc_sld (pc' := 660) (j := (6 * k) + 2) rfl rfl (by omega) (by omega) ?_
  refine wc_ld (pc' := 661) (q := 0) (kin := 2) (v := .retAddr 1000) rfl (fun _ _ _ _ => rfl) rfl rfl ?_
  refine wc_ld (pc' := 662) (q := 3) (kin := 0) (v := .int (nI (6 * k))) rfl (fun _ _ _ _ => rfl) rfl rfl ?_
  refine wc_ic (pc' := 663) (w := nI 3) rfl rfl (by decide) ?_
  refine wc_addN (pc' := 664) rfl rfl ?_
  refine wc_sld (pc' := 665) (j := (6 * k) + 3) rfl rfl (by omega) (by omega) ?_
  refine wc_vir (pc' := 668) rfl rfl (by decide) rfl rfl hm (Nat.le_of_ble_eq_true rfl) (CL_of (by decide) g2) (by omega) ?_
  show Wc _ _ 668 _ [.int (r9), .int (r9)] _ _ _ _ _
  refine wc_icmp (t := 1700) (f := 671) rfl rfl rfl (fun c1 => ?_) (fun c1 => ?_)
  · have c1 : ((r9)) = ((r9)) := c1
    exact kk h2 _ _ hR2 (by omega) (by omega)
  · have c1 : ¬ ((r9)) = ((r9)) := c1
    exact absurd rfl (by assumption)
-- 13: still
set_option maxRecDepth 100000 in
theorem law_13 {Rp : aH → Prop} {L : Nat} {xs : Nat → Int32} {h : aH} {k c s : Nat} (hk : 6 * k + 6 ≤ L) (hL : L ≤ 3072) (hR : Rp h) (hs : s + 2582 ≤ 5000000) (hc : ∀ (a : Int32), CaseI Rp 84 195 [.int a]) (kk : ∀ (h2 : aH) (c2 s2 : Nat), Rp h2 → c2 ≤ c + 27 → s2 ≤ s + 2582 → Wc (CL L xs (Rn 700)) 244 1700 [(0, .retAddr 1000), (1, .ref (0)), (2, .ref (71)), (3, .int (nI (6 * k)))] [] h2 c2 s2 5000000 LQ) : Wc (CL L xs (Rn 700)) 244 673 [(0, .retAddr 1000), (1, .ref (0)), (2, .ref (71)), (3, .int (nI (6 * k)))] [] h c s 5000000 LQ := by
  refine wc_ld (pc' := 674) (q := 1) (kin := 2) (v := .ref (0)) rfl (fun _ _ _ _ => rfl) rfl rfl ?_
  refine wc_ld (pc' := 675) (q := 0) (kin := 2) (v := .retAddr 1000) rfl (fun _ _ _ _ => rfl) rfl rfl ?_
  refine wc_ld (pc' := 676) (q := 3) (kin := 0) (v := .int (nI (6 * k))) rfl (fun _ _ _ _ => rfl) rfl rfl ?_
  refine wc_ic (pc' := 677) (w := nI 1) rfl rfl (by decide) ?_
  refine wc_addN (pc' := 678) rfl rfl ?_
  refine wc_sld (pc' := 679) (j := (6 * k) + 1) rfl rfl (by omega) (by omega) ?_
  obtain ⟨r9, h1, h2, cc, ss, f0, f1, e1, e2, hx, g1, hm, g2, hR2⟩ := hc (xs ((6 * k) + 1)) h hR
  refine wc_vir (pc' := 682) rfl rfl (by decide) rfl rfl hx (Nat.le_of_ble_eq_true rfl) (CL_of (by decide) g1) (by omega) ?_
  show Wc _ _ 682 _ [.int (r9)] _ _ _ _ _
  refine wc_ld (pc' := 683) (q := 2) (kin := 2) (v := .ref (71)) rfl (fun _ _ _ _ => rfl) rfl rfl ?_
  refine wc_ld (pc' := 684) (q := 0) (kin := 2) (v := .retAddr 1000) rfl (fun _ _ _ _ => rfl) rfl rfl ?_
  refine wc_ld (pc' := 685) (q := 3) (kin := 0) (v := .int (nI (6 * k))) rfl (fun _ _ _ _ => rfl) rfl rfl ?_
  refine wc_ic (pc' := 686) (w := nI 1) rfl rfl (by decide) ?_
  refine wc_addN (pc' := 687) rfl rfl ?_
  refine wc_sld (pc' := 688) (j := (6 * k) + 1) rfl rfl (by omega) (by omega) ?_
  refine wc_vir (pc' := 691) rfl rfl (by decide) rfl rfl hm (Nat.le_of_ble_eq_true rfl) (CL_of (by decide) g2) (by omega) ?_
  show Wc _ _ 691 _ [.int (r9), .int (r9)] _ _ _ _ _
  refine wc_icmp (t := 1700) (f := 694) rfl rfl rfl (fun c1 => ?_) (fun c1 => ?_)
  · have c1 : ((r9)) = ((r9)) := c1
    exact kk h2 _ _ hR2 (by omega) (by omega)
  · have c1 : ¬ ((r9)) = ((r9)) := c1
    exact absurd rfl (by assumption)
-- 14: river
set_option maxRecDepth 100000 in
theorem law_14 {Rp : aH → Prop} {L : Nat} {xs : Nat → Int32} {h : aH} {k c s : Nat} (hk : 6 * k + 6 ≤ L) (hL : L ≤ 3072) (hR : Rp h) (hs : s + 2582 ≤ 5000000) (hc : ∀ (a : Int32) (b : Int32) (c : Int32), CaseL Rp 85 197 [.int a, .int b, .int c]) (kk : ∀ (h2 : aH) (c2 s2 : Nat), Rp h2 → c2 ≤ c + 27 → s2 ≤ s + 2582 → Wc (CL L xs (Rn 700)) 244 1700 [(0, .retAddr 1000), (1, .ref (0)), (2, .ref (71)), (3, .int (nI (6 * k)))] [] h2 c2 s2 5000000 LQ) : Wc (CL L xs (Rn 700)) 244 696 [(0, .retAddr 1000), (1, .ref (0)), (2, .ref (71)), (3, .int (nI (6 * k)))] [] h c s 5000000 LQ := by
  refine wc_ld (pc' := 697) (q := 1) (kin := 2) (v := .ref (0)) rfl (fun _ _ _ _ => rfl) rfl rfl ?_
  refine wc_ld (pc' := 698) (q := 0) (kin := 2) (v := .retAddr 1000) rfl (fun _ _ _ _ => rfl) rfl rfl ?_
  refine wc_ld (pc' := 699) (q := 3) (kin := 0) (v := .int (nI (6 * k))) rfl (fun _ _ _ _ => rfl) rfl rfl ?_
  refine wc_ic (pc' := 700) (w := nI 1) rfl rfl (by decide) ?_
  refine wc_addN (pc' := 701) rfl rfl ?_
  refine wc_sld (pc' := 702) (j := (6 * k) + 1) rfl rfl (by omega) (by omega) ?_
  refine wc_ld (pc' := 703) (q := 0) (kin := 2) (v := .retAddr 1000) rfl (fun _ _ _ _ => rfl) rfl rfl ?_
  refine wc_ld (pc' := 704) (q := 3) (kin := 0) (v := .int (nI (6 * k))) rfl (fun _ _ _ _ => rfl) rfl rfl ?_
  refine wc_ic (pc' := 705) (w := nI 2) rfl rfl (by decide) ?_
  refine wc_addN (pc' := 706) rfl rfl ?_
  refine wc_sld (pc' := 707) (j := (6 * k) + 2) rfl rfl (by omega) (by omega) ?_
  refine wc_ld (pc' := 708) (q := 0) (kin := 2) (v := .retAddr 1000) rfl (fun _ _ _ _ => rfl) rfl rfl ?_
  refine wc_ld (pc' := 709) (q := 3) (kin := 0) (v := .int (nI (6 * k))) rfl (fun _ _ _ _ => rfl) rfl rfl ?_
  refine wc_ic (pc' := 710) (w := nI 3) rfl rfl (by decide) ?_
  refine wc_addN (pc' := 711) rfl rfl ?_
  refine wc_sld (pc' := 712) (j := (6 * k) + 3) rfl rfl (by omega) (by omega) ?_
  obtain ⟨r9, h1, h2, cc, ss, f0, f1, e1, e2, hx, g1, hm, g2, hR2⟩ := hc (xs ((6 * k) + 1)) (xs ((6 * k) + 2)) (xs ((6 * k) + 3)) h hR
  refine wc_vir (pc' := 715) rfl rfl (by decide) rfl rfl hx (Nat.le_of_ble_eq_true rfl) (CL_of (by decide) g1) (by omega) ?_
  show Wc _ _ 715 _ [.long (r9)] _ _ _ _ _
  refine wc_ld (pc' := 716) (q := 2) (kin := 2) (v := .ref (71)) rfl (fun _ _ _ _ => rfl) rfl rfl ?_
  refine wc_ld (pc' := 717) (q := 0) (kin := 2) (v := .retAddr 1000) rfl (fun _ _ _ _ => rfl) rfl rfl ?_
  refine wc_ld (pc' := 718) (q := 3) (kin := 0) (v := .int (nI (6 * k))) rfl (fun _ _ _ _ => rfl) rfl rfl ?_
  refine wc_ic (pc' := 719) (w := nI 1) rfl rfl (by decide) ?_
  refine wc_addN (pc' := 720) rfl rfl ?_
  refine wc_sld (pc' := 721) (j := (6 * k) + 1) rfl rfl (by omega) (by omega) ?_
  refine wc_ld (pc' := 722) (q := 0) (kin := 2) (v := .retAddr 1000) rfl (fun _ _ _ _ => rfl) rfl rfl ?_
  refine wc_ld (pc' := 723) (q := 3) (kin := 0) (v := .int (nI (6 * k))) rfl (fun _ _ _ _ => rfl) rfl rfl ?_
  refine wc_ic (pc' := 724) (w := nI 2) rfl rfl (by decide) ?_
  refine wc_addN (pc' := 725) rfl rfl ?_
  refine wc_sld (pc' := 726) (j := (6 * k) + 2) rfl rfl (by omega) (by omega) ?_
  refine wc_ld (pc' := 727) (q := 0) (kin := 2) (v := .retAddr 1000) rfl (fun _ _ _ _ => rfl) rfl rfl ?_
  refine wc_ld (pc' := 728) (q := 3) (kin := 0) (v := .int (nI (6 * k))) rfl (fun _ _ _ _ => rfl) rfl rfl ?_
  refine wc_ic (pc' := 729) (w := nI 3) rfl rfl (by decide) ?_
  refine wc_addN (pc' := 730) rfl rfl ?_
  refine wc_sld (pc' := 731) (j := (6 * k) + 3) rfl rfl (by omega) (by omega) ?_
  refine wc_vir (pc' := 734) rfl rfl (by decide) rfl rfl hm (Nat.le_of_ble_eq_true rfl) (CL_of (by decide) g2) (by omega) ?_
  show Wc _ _ 734 _ [.long (r9), .long (r9)] _ _ _ _ _
  refine wc_pu (pc' := 735) (st' := [.int (lg_cmp (r9) (r9))]) rfl (fun _ _ _ _ => rfl) rfl rfl ?_
  refine wc_lc (t := 1700) (f := 738) rfl rfl rfl (fun c1 => ?_) (fun c1 => ?_)
  · have c1 : (r9).toInt = (r9).toInt := c1
    exact kk h2 _ _ hR2 (by omega) (by omega)
  · have c1 : ¬ ((r9).toInt = (r9).toInt) := c1
    exact absurd rfl (by assumption)
-- 15: tells
set_option maxRecDepth 100000 in
theorem law_15 {Rp : aH → Prop} {L : Nat} {xs : Nat → Int32} {h : aH} {k c s : Nat} (hk : 6 * k + 6 ≤ L) (hL : L ≤ 3072) (hR : Rp h) (hs : s + 2582 ≤ 5000000) (hc : ∀ (a : Int32), CaseI Rp 87 201 [.int a]) (kk : ∀ (h2 : aH) (c2 s2 : Nat), Rp h2 → c2 ≤ c + 27 → s2 ≤ s + 2582 → Wc (CL L xs (Rn 700)) 244 1700 [(0, .retAddr 1000), (1, .ref (0)), (2, .ref (71)), (3, .int (nI (6 * k)))] [] h2 c2 s2 5000000 LQ) : Wc (CL L xs (Rn 700)) 244 740 [(0, .retAddr 1000), (1, .ref (0)), (2, .ref (71)), (3, .int (nI (6 * k)))] [] h c s 5000000 LQ := by
  refine wc_ld (pc' := 741) (q := 1) (kin := 2) (v := .ref (0)) rfl (fun _ _ _ _ => rfl) rfl rfl ?_
  refine wc_ld (pc' := 742) (q := 0) (kin := 2) (v := .retAddr 1000) rfl (fun _ _ _ _ => rfl) rfl rfl ?_
  refine wc_ld (pc' := 743) (q := 3) (kin := 0) (v := .int (nI (6 * k))) rfl (fun _ _ _ _ => rfl) rfl rfl ?_
  refine wc_ic (pc' := 744) (w := nI 1) rfl rfl (by decide) ?_
  refine wc_addN (pc' := 745) rfl rfl ?_
  refine wc_sld (pc' := 746) (j := (6 * k) + 1) rfl rfl (by omega) (by omega) ?_
  obtain ⟨r9, h1, h2, cc, ss, f0, f1, e1, e2, hx, g1, hm, g2, hR2⟩ := hc (xs ((6 * k) + 1)) h hR
  refine wc_vir (pc' := 749) rfl rfl (by decide) rfl rfl hx (Nat.le_of_ble_eq_true rfl) (CL_of (by decide) g1) (by omega) ?_
  show Wc _ _ 749 _ [.int (r9)] _ _ _ _ _
  refine wc_ld (pc' := 750) (q := 2) (kin := 2) (v := .ref (71)) rfl (fun _ _ _ _ => rfl) rfl rfl ?_
  refine wc_ld (pc' := 751) (q := 0) (kin := 2) (v := .retAddr 1000) rfl (fun _ _ _ _ => rfl) rfl rfl ?_
  refine wc_ld (pc' := 752) (q := 3) (kin := 0) (v := .int (nI (6 * k))) rfl (fun _ _ _ _ => rfl) rfl rfl ?_
  refine wc_ic (pc' := 753) (w := nI 1) rfl rfl (by decide) ?_
  refine wc_addN (pc' := 754) rfl rfl ?_
  refine wc_sld (pc' := 755) (j := (6 * k) + 1) rfl rfl (by omega) (by omega) ?_
  refine wc_vir (pc' := 758) rfl rfl (by decide) rfl rfl hm (Nat.le_of_ble_eq_true rfl) (CL_of (by decide) g2) (by omega) ?_
  show Wc _ _ 758 _ [.int (r9), .int (r9)] _ _ _ _ _
  refine wc_icmp (t := 1700) (f := 761) rfl rfl rfl (fun c1 => ?_) (fun c1 => ?_)
  · have c1 : ((r9)) = ((r9)) := c1
    exact kk h2 _ _ hR2 (by omega) (by omega)
  · have c1 : ¬ ((r9)) = ((r9)) := c1
    exact absurd rfl (by assumption)
-- 16: alone
set_option maxRecDepth 100000 in
theorem law_16 {Rp : aH → Prop} {L : Nat} {xs : Nat → Int32} {h : aH} {k c s : Nat} (hk : 6 * k + 6 ≤ L) (hL : L ≤ 3072) (hR : Rp h) (hs : s + 2582 ≤ 5000000) (hc : ∀ (a : Int32) (b : Int32), CaseI Rp 88 202 [.int a, .int b]) (kk : ∀ (h2 : aH) (c2 s2 : Nat), Rp h2 → c2 ≤ c + 27 → s2 ≤ s + 2582 → Wc (CL L xs (Rn 700)) 244 1700 [(0, .retAddr 1000), (1, .ref (0)), (2, .ref (71)), (3, .int (nI (6 * k)))] [] h2 c2 s2 5000000 LQ) : Wc (CL L xs (Rn 700)) 244 763 [(0, .retAddr 1000), (1, .ref (0)), (2, .ref (71)), (3, .int (nI (6 * k)))] [] h c s 5000000 LQ := by
  refine wc_ld (pc' := 764) (q := 1) (kin := 2) (v := .ref (0)) rfl (fun _ _ _ _ => rfl) rfl rfl ?_
  refine wc_ld (pc' := 765) (q := 0) (kin := 2) (v := .retAddr 1000) rfl (fun _ _ _ _ => rfl) rfl rfl ?_
  refine wc_ld (pc' := 766) (q := 3) (kin := 0) (v := .int (nI (6 * k))) rfl (fun _ _ _ _ => rfl) rfl rfl ?_
  refine wc_ic (pc' := 767) (w := nI 1) rfl rfl (by decide) ?_
  refine wc_addN (pc' := 768) rfl rfl ?_
  refine wc_sld (pc' := 769) (j := (6 * k) + 1) rfl rfl (by omega) (by omega) ?_
  refine wc_ld (pc' := 770) (q := 0) (kin := 2) (v := .retAddr 1000) rfl (fun _ _ _ _ => rfl) rfl rfl ?_
  refine wc_ld (pc' := 771) (q := 3) (kin := 0) (v := .int (nI (6 * k))) rfl (fun _ _ _ _ => rfl) rfl rfl ?_
  refine wc_ic (pc' := 772) (w := nI 2) rfl rfl (by decide) ?_
  refine wc_addN (pc' := 773) rfl rfl ?_
  refine wc_sld (pc' := 774) (j := (6 * k) + 2) rfl rfl (by omega) (by omega) ?_
  obtain ⟨r9, h1, h2, cc, ss, f0, f1, e1, e2, hx, g1, hm, g2, hR2⟩ := hc (xs ((6 * k) + 1)) (xs ((6 * k) + 2)) h hR
  refine wc_vir (pc' := 777) rfl rfl (by decide) rfl rfl hx (Nat.le_of_ble_eq_true rfl) (CL_of (by decide) g1) (by omega) ?_
  show Wc _ _ 777 _ [.int (r9)] _ _ _ _ _
  refine wc_ld (pc' := 778) (q := 2) (kin := 2) (v := .ref (71)) rfl (fun _ _ _ _ => rfl) rfl rfl ?_
  refine wc_ld (pc' := 779) (q := 0) (kin := 2) (v := .retAddr 1000) rfl (fun _ _ _ _ => rfl) rfl rfl ?_
  refine wc_ld (pc' := 780) (q := 3) (kin := 0) (v := .int (nI (6 * k))) rfl (fun _ _ _ _ => rfl) rfl rfl ?_
  refine wc_ic (pc' := 781) (w := nI 1) rfl rfl (by decide) ?_
  refine wc_addN (pc' := 782) rfl rfl ?_
  refine wc_sld (pc' := 783) (j := (6 * k) + 1) rfl rfl (by omega) (by omega) ?_
  refine wc_ld (pc' := 784) (q := 0) (kin := 2) (v := .retAddr 1000) rfl (fun _ _ _ _ => rfl) rfl rfl ?_
  refine wc_ld (pc' := 785) (q := 3) (kin := 0) (v := .int (nI (6 * k))) rfl (fun _ _ _ _ => rfl) rfl rfl ?_
  refine wc_ic (pc' := 786) (w := nI 2) rfl rfl (by decide) ?_
  refine wc_addN (pc' := 787) rfl rfl ?_
  refine wc_sld (pc' := 788) (j := (6 * k) + 2) rfl rfl (by omega) (by omega) ?_
  refine wc_vir (pc' := 791) rfl rfl (by decide) rfl rfl hm (Nat.le_of_ble_eq_true rfl) (CL_of (by decide) g2) (by omega) ?_
  show Wc _ _ 791 _ [.int (r9), .int (r9)] _ _ _ _ _
  refine wc_icmp (t := 1700) (f := 794) rfl rfl rfl (fun c1 => ?_) (fun c1 => ?_)
  · have c1 : ((r9)) = ((r9)) := c1
    exact kk h2 _ _ hR2 (by omega) (by omega)
  · have c1 : ¬ ((r9)) = ((r9)) := c1
    exact absurd rfl (by assumption)
-- 17: hear
set_option maxRecDepth 100000 in
theorem law_17 {Rp : aH → Prop} {L : Nat} {xs : Nat → Int32} {h : aH} {k c s : Nat} (hk : 6 * k + 6 ≤ L) (hL : L ≤ 3072) (hR : Rp h) (hs : s + 2582 ≤ 5000000) (hc : ∀ (a : Int32) (b : Int32) (c : Prop), CaseI Rp 92 205 [.int a, .int b, .int (bI c)]) (kk : ∀ (h2 : aH) (c2 s2 : Nat), Rp h2 → c2 ≤ c + 27 → s2 ≤ s + 2582 → Wc (CL L xs (Rn 700)) 244 1700 [(0, .retAddr 1000), (1, .ref (0)), (2, .ref (71)), (3, .int (nI (6 * k)))] [] h2 c2 s2 5000000 LQ) : Wc (CL L xs (Rn 700)) 244 796 [(0, .retAddr 1000), (1, .ref (0)), (2, .ref (71)), (3, .int (nI (6 * k)))] [] h c s 5000000 LQ := by
  refine wc_ld (pc' := 797) (q := 1) (kin := 2) (v := .ref (0)) rfl (fun _ _ _ _ => rfl) rfl rfl ?_
  refine wc_ld (pc' := 798) (q := 0) (kin := 2) (v := .retAddr 1000) rfl (fun _ _ _ _ => rfl) rfl rfl ?_
  refine wc_ld (pc' := 799) (q := 3) (kin := 0) (v := .int (nI (6 * k))) rfl (fun _ _ _ _ => rfl) rfl rfl ?_
  refine wc_ic (pc' := 800) (w := nI 1) rfl rfl (by decide) ?_
  refine wc_addN (pc' := 801) rfl rfl ?_
  refine wc_sld (pc' := 802) (j := (6 * k) + 1) rfl rfl (by omega) (by omega) ?_
  refine wc_ld (pc' := 803) (q := 0) (kin := 2) (v := .retAddr 1000) rfl (fun _ _ _ _ => rfl) rfl rfl ?_
  refine wc_ld (pc' := 804) (q := 3) (kin := 0) (v := .int (nI (6 * k))) rfl (fun _ _ _ _ => rfl) rfl rfl ?_
  refine wc_ic (pc' := 805) (w := nI 2) rfl rfl (by decide) ?_
  refine wc_addN (pc' := 806) rfl rfl ?_
  refine wc_sld (pc' := 807) (j := (6 * k) + 2) rfl rfl (by omega) (by omega) ?_
  refine wc_ld (pc' := 808) (q := 0) (kin := 2) (v := .retAddr 1000) rfl (fun _ _ _ _ => rfl) rfl rfl ?_
  refine wc_ld (pc' := 809) (q := 3) (kin := 0) (v := .int (nI (6 * k))) rfl (fun _ _ _ _ => rfl) rfl rfl ?_
  refine wc_ic (pc' := 810) (w := nI 3) rfl rfl (by decide) ?_
  refine wc_addN (pc' := 811) rfl rfl ?_
  refine wc_sld (pc' := 812) (j := (6 * k) + 3) rfl rfl (by omega) (by omega) ?_
  refine wc_ifc (t := 819) (f := 815) rfl rfl rfl (fun c1 => ?_) (fun c1 => ?_)
  · have c1 : ((xs ((6 * k) + 3))) = 0 := c1
    refine wc_ic (pc' := 820) (w := nI 0) rfl rfl (by decide) ?_
    obtain ⟨r9, h1, h2, cc, ss, f0, f1, e1, e2, hx, g1, hm, g2, hR2⟩ := hc (xs ((6 * k) + 1)) (xs ((6 * k) + 2)) False h hR
    rw [show bI False = nI 0 from bI_f (fun q => q)] at g1 g2
    refine wc_vir (pc' := 823) rfl rfl (by decide) rfl rfl hx (Nat.le_of_ble_eq_true rfl) (CL_of (by decide) g1) (by omega) ?_
    show Wc _ _ 823 _ [.int (r9)] _ _ _ _ _
    refine wc_ld (pc' := 824) (q := 2) (kin := 2) (v := .ref (71)) rfl (fun _ _ _ _ => rfl) rfl rfl ?_
    refine wc_ld (pc' := 825) (q := 0) (kin := 2) (v := .retAddr 1000) rfl (fun _ _ _ _ => rfl) rfl rfl ?_
    refine wc_ld (pc' := 826) (q := 3) (kin := 0) (v := .int (nI (6 * k))) rfl (fun _ _ _ _ => rfl) rfl rfl ?_
    refine wc_ic (pc' := 827) (w := nI 1) rfl rfl (by decide) ?_
    refine wc_addN (pc' := 828) rfl rfl ?_
    refine wc_sld (pc' := 829) (j := (6 * k) + 1) rfl rfl (by omega) (by omega) ?_
    refine wc_ld (pc' := 830) (q := 0) (kin := 2) (v := .retAddr 1000) rfl (fun _ _ _ _ => rfl) rfl rfl ?_
    refine wc_ld (pc' := 831) (q := 3) (kin := 0) (v := .int (nI (6 * k))) rfl (fun _ _ _ _ => rfl) rfl rfl ?_
    refine wc_ic (pc' := 832) (w := nI 2) rfl rfl (by decide) ?_
    refine wc_addN (pc' := 833) rfl rfl ?_
    refine wc_sld (pc' := 834) (j := (6 * k) + 2) rfl rfl (by omega) (by omega) ?_
    refine wc_ld (pc' := 835) (q := 0) (kin := 2) (v := .retAddr 1000) rfl (fun _ _ _ _ => rfl) rfl rfl ?_
    refine wc_ld (pc' := 836) (q := 3) (kin := 0) (v := .int (nI (6 * k))) rfl (fun _ _ _ _ => rfl) rfl rfl ?_
    refine wc_ic (pc' := 837) (w := nI 3) rfl rfl (by decide) ?_
    refine wc_addN (pc' := 838) rfl rfl ?_
    refine wc_sld (pc' := 839) (j := (6 * k) + 3) rfl rfl (by omega) (by omega) ?_
    refine wc_ifc (t := 846) (f := 842) rfl rfl rfl (fun c2 => ?_) (fun c2 => ?_)
    · have c2 : ((xs ((6 * k) + 3))) = 0 := c2
      refine wc_ic (pc' := 847) (w := nI 0) rfl rfl (by decide) ?_
      refine wc_vir (pc' := 850) rfl rfl (by decide) rfl rfl hm (Nat.le_of_ble_eq_true rfl) (CL_of (by decide) g2) (by omega) ?_
      show Wc _ _ 850 _ [.int (r9), .int (r9)] _ _ _ _ _
      refine wc_icmp (t := 1700) (f := 853) rfl rfl rfl (fun c3 => ?_) (fun c3 => ?_)
      · have c3 : ((r9)) = ((r9)) := c3
        exact kk h2 _ _ hR2 (by omega) (by omega)
      · have c3 : ¬ ((r9)) = ((r9)) := c3
        exact absurd rfl (by assumption)
    · have c2 : ¬ ((xs ((6 * k) + 3))) = 0 := c2
      exact absurd c1 c2
  · have c1 : ¬ ((xs ((6 * k) + 3))) = 0 := c1
    refine wc_ic (pc' := 816) (w := nI 1) rfl rfl (by decide) ?_
    refine wc_jp (pc' := 820) rfl rfl ?_
    obtain ⟨r9, h1, h2, cc, ss, f0, f1, e1, e2, hx, g1, hm, g2, hR2⟩ := hc (xs ((6 * k) + 1)) (xs ((6 * k) + 2)) True h hR
    rw [show bI True = nI 1 from bI_t trivial] at g1 g2
    refine wc_vir (pc' := 823) rfl rfl (by decide) rfl rfl hx (Nat.le_of_ble_eq_true rfl) (CL_of (by decide) g1) (by omega) ?_
    show Wc _ _ 823 _ [.int (r9)] _ _ _ _ _
    refine wc_ld (pc' := 824) (q := 2) (kin := 2) (v := .ref (71)) rfl (fun _ _ _ _ => rfl) rfl rfl ?_
    refine wc_ld (pc' := 825) (q := 0) (kin := 2) (v := .retAddr 1000) rfl (fun _ _ _ _ => rfl) rfl rfl ?_
    refine wc_ld (pc' := 826) (q := 3) (kin := 0) (v := .int (nI (6 * k))) rfl (fun _ _ _ _ => rfl) rfl rfl ?_
    refine wc_ic (pc' := 827) (w := nI 1) rfl rfl (by decide) ?_
    refine wc_addN (pc' := 828) rfl rfl ?_
    refine wc_sld (pc' := 829) (j := (6 * k) + 1) rfl rfl (by omega) (by omega) ?_
    refine wc_ld (pc' := 830) (q := 0) (kin := 2) (v := .retAddr 1000) rfl (fun _ _ _ _ => rfl) rfl rfl ?_
    refine wc_ld (pc' := 831) (q := 3) (kin := 0) (v := .int (nI (6 * k))) rfl (fun _ _ _ _ => rfl) rfl rfl ?_
    refine wc_ic (pc' := 832) (w := nI 2) rfl rfl (by decide) ?_
    refine wc_addN (pc' := 833) rfl rfl ?_
    refine wc_sld (pc' := 834) (j := (6 * k) + 2) rfl rfl (by omega) (by omega) ?_
    refine wc_ld (pc' := 835) (q := 0) (kin := 2) (v := .retAddr 1000) rfl (fun _ _ _ _ => rfl) rfl rfl ?_
    refine wc_ld (pc' := 836) (q := 3) (kin := 0) (v := .int (nI (6 * k))) rfl (fun _ _ _ _ => rfl) rfl rfl ?_
    refine wc_ic (pc' := 837) (w := nI 3) rfl rfl (by decide) ?_
    refine wc_addN (pc' := 838) rfl rfl ?_
    refine wc_sld (pc' := 839) (j := (6 * k) + 3) rfl rfl (by omega) (by omega) ?_
    refine wc_ifc (t := 846) (f := 842) rfl rfl rfl (fun c4 => ?_) (fun c4 => ?_)
    · have c4 : ((xs ((6 * k) + 3))) = 0 := c4
      exact absurd c4 c1
    · have c4 : ¬ ((xs ((6 * k) + 3))) = 0 := c4
      refine wc_ic (pc' := 843) (w := nI 1) rfl rfl (by decide) ?_
      refine wc_jp (pc' := 847) rfl rfl ?_
      refine wc_vir (pc' := 850) rfl rfl (by decide) rfl rfl hm (Nat.le_of_ble_eq_true rfl) (CL_of (by decide) g2) (by omega) ?_
      show Wc _ _ 850 _ [.int (r9), .int (r9)] _ _ _ _ _
      refine wc_icmp (t := 1700) (f := 853) rfl rfl rfl (fun c5 => ?_) (fun c5 => ?_)
      · have c5 : ((r9)) = ((r9)) := c5
        exact kk h2 _ _ hR2 (by omega) (by omega)
      · have c5 : ¬ ((r9)) = ((r9)) := c5
        exact absurd rfl (by assumption)
-- 18: hears
set_option maxRecDepth 100000 in
theorem law_18 {Rp : aH → Prop} {L : Nat} {xs : Nat → Int32} {h : aH} {k c s : Nat} (hk : 6 * k + 6 ≤ L) (hL : L ≤ 3072) (hR : Rp h) (hs : s + 2582 ≤ 5000000) (hc : ∀ (a : Int32), CaseI Rp 94 206 [.int a]) (kk : ∀ (h2 : aH) (c2 s2 : Nat), Rp h2 → c2 ≤ c + 27 → s2 ≤ s + 2582 → Wc (CL L xs (Rn 700)) 244 1700 [(0, .retAddr 1000), (1, .ref (0)), (2, .ref (71)), (3, .int (nI (6 * k)))] [] h2 c2 s2 5000000 LQ) : Wc (CL L xs (Rn 700)) 244 855 [(0, .retAddr 1000), (1, .ref (0)), (2, .ref (71)), (3, .int (nI (6 * k)))] [] h c s 5000000 LQ := by
  refine wc_ld (pc' := 856) (q := 1) (kin := 2) (v := .ref (0)) rfl (fun _ _ _ _ => rfl) rfl rfl ?_
  refine wc_ld (pc' := 857) (q := 0) (kin := 2) (v := .retAddr 1000) rfl (fun _ _ _ _ => rfl) rfl rfl ?_
  refine wc_ld (pc' := 858) (q := 3) (kin := 0) (v := .int (nI (6 * k))) rfl (fun _ _ _ _ => rfl) rfl rfl ?_
  refine wc_ic (pc' := 859) (w := nI 1) rfl rfl (by decide) ?_
  refine wc_addN (pc' := 860) rfl rfl ?_
  refine wc_sld (pc' := 861) (j := (6 * k) + 1) rfl rfl (by omega) (by omega) ?_
  obtain ⟨r9, h1, h2, cc, ss, f0, f1, e1, e2, hx, g1, hm, g2, hR2⟩ := hc (xs ((6 * k) + 1)) h hR
  refine wc_vir (pc' := 864) rfl rfl (by decide) rfl rfl hx (Nat.le_of_ble_eq_true rfl) (CL_of (by decide) g1) (by omega) ?_
  show Wc _ _ 864 _ [.int (r9)] _ _ _ _ _
  refine wc_ld (pc' := 865) (q := 2) (kin := 2) (v := .ref (71)) rfl (fun _ _ _ _ => rfl) rfl rfl ?_
  refine wc_ld (pc' := 866) (q := 0) (kin := 2) (v := .retAddr 1000) rfl (fun _ _ _ _ => rfl) rfl rfl ?_
  refine wc_ld (pc' := 867) (q := 3) (kin := 0) (v := .int (nI (6 * k))) rfl (fun _ _ _ _ => rfl) rfl rfl ?_
  refine wc_ic (pc' := 868) (w := nI 1) rfl rfl (by decide) ?_
  refine wc_addN (pc' := 869) rfl rfl ?_
  refine wc_sld (pc' := 870) (j := (6 * k) + 1) rfl rfl (by omega) (by omega) ?_
  refine wc_vir (pc' := 873) rfl rfl (by decide) rfl rfl hm (Nat.le_of_ble_eq_true rfl) (CL_of (by decide) g2) (by omega) ?_
  show Wc _ _ 873 _ [.int (r9), .int (r9)] _ _ _ _ _
  refine wc_icmp (t := 1700) (f := 876) rfl rfl rfl (fun c1 => ?_) (fun c1 => ?_)
  · have c1 : ((r9)) = ((r9)) := c1
    exact kk h2 _ _ hR2 (by omega) (by omega)
  · have c1 : ¬ ((r9)) = ((r9)) := c1
    exact absurd rfl (by assumption)
-- 19: mute
set_option maxRecDepth 100000 in
theorem law_19 {Rp : aH → Prop} {L : Nat} {xs : Nat → Int32} {h : aH} {k c s : Nat} (hk : 6 * k + 6 ≤ L) (hL : L ≤ 3072) (hR : Rp h) (hs : s + 2582 ≤ 5000000) (hc : CaseI Rp 95 207 []) (kk : ∀ (h2 : aH) (c2 s2 : Nat), Rp h2 → c2 ≤ c + 27 → s2 ≤ s + 2582 → Wc (CL L xs (Rn 700)) 244 1700 [(0, .retAddr 1000), (1, .ref (0)), (2, .ref (71)), (3, .int (nI (6 * k)))] [] h2 c2 s2 5000000 LQ) : Wc (CL L xs (Rn 700)) 244 878 [(0, .retAddr 1000), (1, .ref (0)), (2, .ref (71)), (3, .int (nI (6 * k)))] [] h c s 5000000 LQ := by
  refine wc_ld (pc' := 879) (q := 1) (kin := 2) (v := .ref (0)) rfl (fun _ _ _ _ => rfl) rfl rfl ?_
  obtain ⟨r9, h1, h2, cc, ss, f0, f1, e1, e2, hx, g1, hm, g2, hR2⟩ := hc  h hR
  refine wc_vir (pc' := 882) rfl rfl (by decide) rfl rfl hx (Nat.le_of_ble_eq_true rfl) (CL_of (by decide) g1) (by omega) ?_
  show Wc _ _ 882 _ [.int (r9)] _ _ _ _ _
  refine wc_ld (pc' := 883) (q := 2) (kin := 2) (v := .ref (71)) rfl (fun _ _ _ _ => rfl) rfl rfl ?_
  refine wc_vir (pc' := 886) rfl rfl (by decide) rfl rfl hm (Nat.le_of_ble_eq_true rfl) (CL_of (by decide) g2) (by omega) ?_
  show Wc _ _ 886 _ [.int (r9), .int (r9)] _ _ _ _ _
  refine wc_icmp (t := 1700) (f := 889) rfl rfl rfl (fun c1 => ?_) (fun c1 => ?_)
  · have c1 : ((r9)) = ((r9)) := c1
    exact kk h2 _ _ hR2 (by omega) (by omega)
  · have c1 : ¬ ((r9)) = ((r9)) := c1
    exact absurd rfl (by assumption)
-- 20: heard
set_option maxRecDepth 100000 in
theorem law_20 {Rp : aH → Prop} {L : Nat} {xs : Nat → Int32} {h : aH} {k c s : Nat} (hk : 6 * k + 6 ≤ L) (hL : L ≤ 3072) (hR : Rp h) (hs : s + 2582 ≤ 5000000) (hc : ∀ (a : Int32), CaseI Rp 96 208 [.int a]) (kk : ∀ (h2 : aH) (c2 s2 : Nat), Rp h2 → c2 ≤ c + 27 → s2 ≤ s + 2582 → Wc (CL L xs (Rn 700)) 244 1700 [(0, .retAddr 1000), (1, .ref (0)), (2, .ref (71)), (3, .int (nI (6 * k)))] [] h2 c2 s2 5000000 LQ) : Wc (CL L xs (Rn 700)) 244 891 [(0, .retAddr 1000), (1, .ref (0)), (2, .ref (71)), (3, .int (nI (6 * k)))] [] h c s 5000000 LQ := by
  refine wc_ld (pc' := 892) (q := 1) (kin := 2) (v := .ref (0)) rfl (fun _ _ _ _ => rfl) rfl rfl ?_
  refine wc_ld (pc' := 893) (q := 0) (kin := 2) (v := .retAddr 1000) rfl (fun _ _ _ _ => rfl) rfl rfl ?_
  refine wc_ld (pc' := 894) (q := 3) (kin := 0) (v := .int (nI (6 * k))) rfl (fun _ _ _ _ => rfl) rfl rfl ?_
  refine wc_ic (pc' := 895) (w := nI 1) rfl rfl (by decide) ?_
  refine wc_addN (pc' := 896) rfl rfl ?_
  refine wc_sld (pc' := 897) (j := (6 * k) + 1) rfl rfl (by omega) (by omega) ?_
  obtain ⟨r9, h1, h2, cc, ss, f0, f1, e1, e2, hx, g1, hm, g2, hR2⟩ := hc (xs ((6 * k) + 1)) h hR
  refine wc_vir (pc' := 900) rfl rfl (by decide) rfl rfl hx (Nat.le_of_ble_eq_true rfl) (CL_of (by decide) g1) (by omega) ?_
  show Wc _ _ 900 _ [.int (r9)] _ _ _ _ _
  refine wc_ld (pc' := 901) (q := 2) (kin := 2) (v := .ref (71)) rfl (fun _ _ _ _ => rfl) rfl rfl ?_
  refine wc_ld (pc' := 902) (q := 0) (kin := 2) (v := .retAddr 1000) rfl (fun _ _ _ _ => rfl) rfl rfl ?_
  refine wc_ld (pc' := 903) (q := 3) (kin := 0) (v := .int (nI (6 * k))) rfl (fun _ _ _ _ => rfl) rfl rfl ?_
  refine wc_ic (pc' := 904) (w := nI 1) rfl rfl (by decide) ?_
  refine wc_addN (pc' := 905) rfl rfl ?_
  refine wc_sld (pc' := 906) (j := (6 * k) + 1) rfl rfl (by omega) (by omega) ?_
  refine wc_vir (pc' := 909) rfl rfl (by decide) rfl rfl hm (Nat.le_of_ble_eq_true rfl) (CL_of (by decide) g2) (by omega) ?_
  show Wc _ _ 909 _ [.int (r9), .int (r9)] _ _ _ _ _
  refine wc_icmp (t := 1700) (f := 912) rfl rfl rfl (fun c1 => ?_) (fun c1 => ?_)
  · have c1 : ((r9)) = ((r9)) := c1
    exact kk h2 _ _ hR2 (by omega) (by omega)
  · have c1 : ¬ ((r9)) = ((r9)) := c1
    exact absurd rfl (by assumption)
-- 21: fits
set_option maxRecDepth 100000 in
theorem law_21 {Rp : aH → Prop} {L : Nat} {xs : Nat → Int32} {h : aH} {k c s : Nat} (hk : 6 * k + 6 ≤ L) (hL : L ≤ 3072) (hR : Rp h) (hs : s + 2582 ≤ 5000000) (hc : ∀ (a : Int32) (b : Int32), CaseI Rp 99 211 [.int a, .int b]) (kk : ∀ (h2 : aH) (c2 s2 : Nat), Rp h2 → c2 ≤ c + 27 → s2 ≤ s + 2582 → Wc (CL L xs (Rn 700)) 244 1700 [(0, .retAddr 1000), (1, .ref (0)), (2, .ref (71)), (3, .int (nI (6 * k)))] [] h2 c2 s2 5000000 LQ) : Wc (CL L xs (Rn 700)) 244 914 [(0, .retAddr 1000), (1, .ref (0)), (2, .ref (71)), (3, .int (nI (6 * k)))] [] h c s 5000000 LQ := by
  refine wc_ld (pc' := 915) (q := 1) (kin := 2) (v := .ref (0)) rfl (fun _ _ _ _ => rfl) rfl rfl ?_
  refine wc_ld (pc' := 916) (q := 0) (kin := 2) (v := .retAddr 1000) rfl (fun _ _ _ _ => rfl) rfl rfl ?_
  refine wc_ld (pc' := 917) (q := 3) (kin := 0) (v := .int (nI (6 * k))) rfl (fun _ _ _ _ => rfl) rfl rfl ?_
  refine wc_ic (pc' := 918) (w := nI 1) rfl rfl (by decide) ?_
  refine wc_addN (pc' := 919) rfl rfl ?_
  refine wc_sld (pc' := 920) (j := (6 * k) + 1) rfl rfl (by omega) (by omega) ?_
  refine wc_ld (pc' := 921) (q := 0) (kin := 2) (v := .retAddr 1000) rfl (fun _ _ _ _ => rfl) rfl rfl ?_
  refine wc_ld (pc' := 922) (q := 3) (kin := 0) (v := .int (nI (6 * k))) rfl (fun _ _ _ _ => rfl) rfl rfl ?_
  refine wc_ic (pc' := 923) (w := nI 2) rfl rfl (by decide) ?_
  refine wc_addN (pc' := 924) rfl rfl ?_
  refine wc_sld (pc' := 925) (j := (6 * k) + 2) rfl rfl (by omega) (by omega) ?_
  obtain ⟨r9, h1, h2, cc, ss, f0, f1, e1, e2, hx, g1, hm, g2, hR2⟩ := hc (xs ((6 * k) + 1)) (xs ((6 * k) + 2)) h hR
  refine wc_vir (pc' := 928) rfl rfl (by decide) rfl rfl hx (Nat.le_of_ble_eq_true rfl) (CL_of (by decide) g1) (by omega) ?_
  show Wc _ _ 928 _ [.int (r9)] _ _ _ _ _
  refine wc_ld (pc' := 929) (q := 2) (kin := 2) (v := .ref (71)) rfl (fun _ _ _ _ => rfl) rfl rfl ?_
  refine wc_ld (pc' := 930) (q := 0) (kin := 2) (v := .retAddr 1000) rfl (fun _ _ _ _ => rfl) rfl rfl ?_
  refine wc_ld (pc' := 931) (q := 3) (kin := 0) (v := .int (nI (6 * k))) rfl (fun _ _ _ _ => rfl) rfl rfl ?_
  refine wc_ic (pc' := 932) (w := nI 1) rfl rfl (by decide) ?_
  refine wc_addN (pc' := 933) rfl rfl ?_
  refine wc_sld (pc' := 934) (j := (6 * k) + 1) rfl rfl (by omega) (by omega) ?_
  refine wc_ld (pc' := 935) (q := 0) (kin := 2) (v := .retAddr 1000) rfl (fun _ _ _ _ => rfl) rfl rfl ?_
  refine wc_ld (pc' := 936) (q := 3) (kin := 0) (v := .int (nI (6 * k))) rfl (fun _ _ _ _ => rfl) rfl rfl ?_
  refine wc_ic (pc' := 937) (w := nI 2) rfl rfl (by decide) ?_
  refine wc_addN (pc' := 938) rfl rfl ?_
  refine wc_sld (pc' := 939) (j := (6 * k) + 2) rfl rfl (by omega) (by omega) ?_
  refine wc_vir (pc' := 942) rfl rfl (by decide) rfl rfl hm (Nat.le_of_ble_eq_true rfl) (CL_of (by decide) g2) (by omega) ?_
  show Wc _ _ 942 _ [.int (r9), .int (r9)] _ _ _ _ _
  refine wc_icmp (t := 1700) (f := 945) rfl rfl rfl (fun c1 => ?_) (fun c1 => ?_)
  · have c1 : ((r9)) = ((r9)) := c1
    exact kk h2 _ _ hR2 (by omega) (by omega)
  · have c1 : ¬ ((r9)) = ((r9)) := c1
    exact absurd rfl (by assumption)
-- 22: whole
set_option maxRecDepth 100000 in
theorem law_22 {Rp : aH → Prop} {L : Nat} {xs : Nat → Int32} {h : aH} {k c s : Nat} (hk : 6 * k + 6 ≤ L) (hL : L ≤ 3072) (hR : Rp h) (hs : s + 2582 ≤ 5000000) (hc : ∀ (a : Int32), CaseI Rp 100 213 [.int a]) (kk : ∀ (h2 : aH) (c2 s2 : Nat), Rp h2 → c2 ≤ c + 27 → s2 ≤ s + 2582 → Wc (CL L xs (Rn 700)) 244 1700 [(0, .retAddr 1000), (1, .ref (0)), (2, .ref (71)), (3, .int (nI (6 * k)))] [] h2 c2 s2 5000000 LQ) : Wc (CL L xs (Rn 700)) 244 947 [(0, .retAddr 1000), (1, .ref (0)), (2, .ref (71)), (3, .int (nI (6 * k)))] [] h c s 5000000 LQ := by
  refine wc_ld (pc' := 948) (q := 1) (kin := 2) (v := .ref (0)) rfl (fun _ _ _ _ => rfl) rfl rfl ?_
  refine wc_ld (pc' := 949) (q := 0) (kin := 2) (v := .retAddr 1000) rfl (fun _ _ _ _ => rfl) rfl rfl ?_
  refine wc_ld (pc' := 950) (q := 3) (kin := 0) (v := .int (nI (6 * k))) rfl (fun _ _ _ _ => rfl) rfl rfl ?_
  refine wc_ic (pc' := 951) (w := nI 1) rfl rfl (by decide) ?_
  refine wc_addN (pc' := 952) rfl rfl ?_
  refine wc_sld (pc' := 953) (j := (6 * k) + 1) rfl rfl (by omega) (by omega) ?_
  obtain ⟨r9, h1, h2, cc, ss, f0, f1, e1, e2, hx, g1, hm, g2, hR2⟩ := hc (xs ((6 * k) + 1)) h hR
  refine wc_vir (pc' := 956) rfl rfl (by decide) rfl rfl hx (Nat.le_of_ble_eq_true rfl) (CL_of (by decide) g1) (by omega) ?_
  show Wc _ _ 956 _ [.int (r9)] _ _ _ _ _
  refine wc_ld (pc' := 957) (q := 2) (kin := 2) (v := .ref (71)) rfl (fun _ _ _ _ => rfl) rfl rfl ?_
  refine wc_ld (pc' := 958) (q := 0) (kin := 2) (v := .retAddr 1000) rfl (fun _ _ _ _ => rfl) rfl rfl ?_
  refine wc_ld (pc' := 959) (q := 3) (kin := 0) (v := .int (nI (6 * k))) rfl (fun _ _ _ _ => rfl) rfl rfl ?_
  refine wc_ic (pc' := 960) (w := nI 1) rfl rfl (by decide) ?_
  refine wc_addN (pc' := 961) rfl rfl ?_
  refine wc_sld (pc' := 962) (j := (6 * k) + 1) rfl rfl (by omega) (by omega) ?_
  refine wc_vir (pc' := 965) rfl rfl (by decide) rfl rfl hm (Nat.le_of_ble_eq_true rfl) (CL_of (by decide) g2) (by omega) ?_
  show Wc _ _ 965 _ [.int (r9), .int (r9)] _ _ _ _ _
  refine wc_icmp (t := 1700) (f := 968) rfl rfl rfl (fun c1 => ?_) (fun c1 => ?_)
  · have c1 : ((r9)) = ((r9)) := c1
    exact kk h2 _ _ hR2 (by omega) (by omega)
  · have c1 : ¬ ((r9)) = ((r9)) := c1
    exact absurd rfl (by assumption)
-- 23: from
set_option maxRecDepth 100000 in
theorem law_23 {Rp : aH → Prop} {L : Nat} {xs : Nat → Int32} {h : aH} {k c s : Nat} (hk : 6 * k + 6 ≤ L) (hL : L ≤ 3072) (hR : Rp h) (hs : s + 2582 ≤ 5000000) (hc : ∀ (a : Int32), CaseI Rp 102 214 [.int a]) (kk : ∀ (h2 : aH) (c2 s2 : Nat), Rp h2 → c2 ≤ c + 27 → s2 ≤ s + 2582 → Wc (CL L xs (Rn 700)) 244 1700 [(0, .retAddr 1000), (1, .ref (0)), (2, .ref (71)), (3, .int (nI (6 * k)))] [] h2 c2 s2 5000000 LQ) : Wc (CL L xs (Rn 700)) 244 970 [(0, .retAddr 1000), (1, .ref (0)), (2, .ref (71)), (3, .int (nI (6 * k)))] [] h c s 5000000 LQ := by
  refine wc_ld (pc' := 971) (q := 1) (kin := 2) (v := .ref (0)) rfl (fun _ _ _ _ => rfl) rfl rfl ?_
  refine wc_ld (pc' := 972) (q := 0) (kin := 2) (v := .retAddr 1000) rfl (fun _ _ _ _ => rfl) rfl rfl ?_
  refine wc_ld (pc' := 973) (q := 3) (kin := 0) (v := .int (nI (6 * k))) rfl (fun _ _ _ _ => rfl) rfl rfl ?_
  refine wc_ic (pc' := 974) (w := nI 1) rfl rfl (by decide) ?_
  refine wc_addN (pc' := 975) rfl rfl ?_
  refine wc_sld (pc' := 976) (j := (6 * k) + 1) rfl rfl (by omega) (by omega) ?_
  obtain ⟨r9, h1, h2, cc, ss, f0, f1, e1, e2, hx, g1, hm, g2, hR2⟩ := hc (xs ((6 * k) + 1)) h hR
  refine wc_vir (pc' := 979) rfl rfl (by decide) rfl rfl hx (Nat.le_of_ble_eq_true rfl) (CL_of (by decide) g1) (by omega) ?_
  show Wc _ _ 979 _ [.int (r9)] _ _ _ _ _
  refine wc_ld (pc' := 980) (q := 2) (kin := 2) (v := .ref (71)) rfl (fun _ _ _ _ => rfl) rfl rfl ?_
  refine wc_ld (pc' := 981) (q := 0) (kin := 2) (v := .retAddr 1000) rfl (fun _ _ _ _ => rfl) rfl rfl ?_
  refine wc_ld (pc' := 982) (q := 3) (kin := 0) (v := .int (nI (6 * k))) rfl (fun _ _ _ _ => rfl) rfl rfl ?_
  refine wc_ic (pc' := 983) (w := nI 1) rfl rfl (by decide) ?_
  refine wc_addN (pc' := 984) rfl rfl ?_
  refine wc_sld (pc' := 985) (j := (6 * k) + 1) rfl rfl (by omega) (by omega) ?_
  refine wc_vir (pc' := 988) rfl rfl (by decide) rfl rfl hm (Nat.le_of_ble_eq_true rfl) (CL_of (by decide) g2) (by omega) ?_
  show Wc _ _ 988 _ [.int (r9), .int (r9)] _ _ _ _ _
  refine wc_icmp (t := 1700) (f := 991) rfl rfl rfl (fun c1 => ?_) (fun c1 => ?_)
  · have c1 : ((r9)) = ((r9)) := c1
    exact kk h2 _ _ hR2 (by omega) (by omega)
  · have c1 : ¬ ((r9)) = ((r9)) := c1
    exact absurd rfl (by assumption)
-- 24: next
set_option maxRecDepth 100000 in
theorem law_24 {Rp : aH → Prop} {L : Nat} {xs : Nat → Int32} {h : aH} {k c s : Nat} (hk : 6 * k + 6 ≤ L) (hL : L ≤ 3072) (hR : Rp h) (hs : s + 2582 ≤ 5000000) (hc : ∀ (a : Int32), CaseI Rp 103 215 [.int a]) (kk : ∀ (h2 : aH) (c2 s2 : Nat), Rp h2 → c2 ≤ c + 27 → s2 ≤ s + 2582 → Wc (CL L xs (Rn 700)) 244 1700 [(0, .retAddr 1000), (1, .ref (0)), (2, .ref (71)), (3, .int (nI (6 * k)))] [] h2 c2 s2 5000000 LQ) : Wc (CL L xs (Rn 700)) 244 993 [(0, .retAddr 1000), (1, .ref (0)), (2, .ref (71)), (3, .int (nI (6 * k)))] [] h c s 5000000 LQ := by
  refine wc_ld (pc' := 994) (q := 1) (kin := 2) (v := .ref (0)) rfl (fun _ _ _ _ => rfl) rfl rfl ?_
  refine wc_ld (pc' := 995) (q := 0) (kin := 2) (v := .retAddr 1000) rfl (fun _ _ _ _ => rfl) rfl rfl ?_
  refine wc_ld (pc' := 996) (q := 3) (kin := 0) (v := .int (nI (6 * k))) rfl (fun _ _ _ _ => rfl) rfl rfl ?_
  refine wc_ic (pc' := 997) (w := nI 1) rfl rfl (by decide) ?_
  refine wc_addN (pc' := 998) rfl rfl ?_
  refine wc_sld (pc' := 999) (j := (6 * k) + 1) rfl rfl (by omega) (by omega) ?_
  obtain ⟨r9, h1, h2, cc, ss, f0, f1, e1, e2, hx, g1, hm, g2, hR2⟩ := hc (xs ((6 * k) + 1)) h hR
  refine wc_vir (pc' := 1002) rfl rfl (by decide) rfl rfl hx (Nat.le_of_ble_eq_true rfl) (CL_of (by decide) g1) (by omega) ?_
  show Wc _ _ 1002 _ [.int (r9)] _ _ _ _ _
  refine wc_ld (pc' := 1003) (q := 2) (kin := 2) (v := .ref (71)) rfl (fun _ _ _ _ => rfl) rfl rfl ?_
  refine wc_ld (pc' := 1004) (q := 0) (kin := 2) (v := .retAddr 1000) rfl (fun _ _ _ _ => rfl) rfl rfl ?_
  refine wc_ld (pc' := 1005) (q := 3) (kin := 0) (v := .int (nI (6 * k))) rfl (fun _ _ _ _ => rfl) rfl rfl ?_
  refine wc_ic (pc' := 1006) (w := nI 1) rfl rfl (by decide) ?_
  refine wc_addN (pc' := 1007) rfl rfl ?_
  refine wc_sld (pc' := 1008) (j := (6 * k) + 1) rfl rfl (by omega) (by omega) ?_
  refine wc_vir (pc' := 1011) rfl rfl (by decide) rfl rfl hm (Nat.le_of_ble_eq_true rfl) (CL_of (by decide) g2) (by omega) ?_
  show Wc _ _ 1011 _ [.int (r9), .int (r9)] _ _ _ _ _
  refine wc_icmp (t := 1700) (f := 1014) rfl rfl rfl (fun c1 => ?_) (fun c1 => ?_)
  · have c1 : ((r9)) = ((r9)) := c1
    exact kk h2 _ _ hR2 (by omega) (by omega)
  · have c1 : ¬ ((r9)) = ((r9)) := c1
    exact absurd rfl (by assumption)
-- 25: two
set_option maxRecDepth 100000 in
theorem law_25 {Rp : aH → Prop} {L : Nat} {xs : Nat → Int32} {h : aH} {k c s : Nat} (hk : 6 * k + 6 ≤ L) (hL : L ≤ 3072) (hR : Rp h) (hs : s + 2582 ≤ 5000000) (hc : ∀ (a : Int32), CaseI Rp 106 216 [.int a]) (kk : ∀ (h2 : aH) (c2 s2 : Nat), Rp h2 → c2 ≤ c + 27 → s2 ≤ s + 2582 → Wc (CL L xs (Rn 700)) 244 1700 [(0, .retAddr 1000), (1, .ref (0)), (2, .ref (71)), (3, .int (nI (6 * k)))] [] h2 c2 s2 5000000 LQ) : Wc (CL L xs (Rn 700)) 244 1016 [(0, .retAddr 1000), (1, .ref (0)), (2, .ref (71)), (3, .int (nI (6 * k)))] [] h c s 5000000 LQ := by
  refine wc_ld (pc' := 1017) (q := 1) (kin := 2) (v := .ref (0)) rfl (fun _ _ _ _ => rfl) rfl rfl ?_
  refine wc_ld (pc' := 1018) (q := 0) (kin := 2) (v := .retAddr 1000) rfl (fun _ _ _ _ => rfl) rfl rfl ?_
  refine wc_ld (pc' := 1019) (q := 3) (kin := 0) (v := .int (nI (6 * k))) rfl (fun _ _ _ _ => rfl) rfl rfl ?_
  refine wc_ic (pc' := 1020) (w := nI 1) rfl rfl (by decide) ?_
  refine wc_addN (pc' := 1021) rfl rfl ?_
  refine wc_sld (pc' := 1022) (j := (6 * k) + 1) rfl rfl (by omega) (by omega) ?_
  obtain ⟨r9, h1, h2, cc, ss, f0, f1, e1, e2, hx, g1, hm, g2, hR2⟩ := hc (xs ((6 * k) + 1)) h hR
  refine wc_vir (pc' := 1025) rfl rfl (by decide) rfl rfl hx (Nat.le_of_ble_eq_true rfl) (CL_of (by decide) g1) (by omega) ?_
  show Wc _ _ 1025 _ [.int (r9)] _ _ _ _ _
  refine wc_ld (pc' := 1026) (q := 2) (kin := 2) (v := .ref (71)) rfl (fun _ _ _ _ => rfl) rfl rfl ?_
  refine wc_ld (pc' := 1027) (q := 0) (kin := 2) (v := .retAddr 1000) rfl (fun _ _ _ _ => rfl) rfl rfl ?_
  refine wc_ld (pc' := 1028) (q := 3) (kin := 0) (v := .int (nI (6 * k))) rfl (fun _ _ _ _ => rfl) rfl rfl ?_
  refine wc_ic (pc' := 1029) (w := nI 1) rfl rfl (by decide) ?_
  refine wc_addN (pc' := 1030) rfl rfl ?_
  refine wc_sld (pc' := 1031) (j := (6 * k) + 1) rfl rfl (by omega) (by omega) ?_
  refine wc_vir (pc' := 1034) rfl rfl (by decide) rfl rfl hm (Nat.le_of_ble_eq_true rfl) (CL_of (by decide) g2) (by omega) ?_
  show Wc _ _ 1034 _ [.int (r9), .int (r9)] _ _ _ _ _
  refine wc_icmp (t := 1700) (f := 1037) rfl rfl rfl (fun c1 => ?_) (fun c1 => ?_)
  · have c1 : ((r9)) = ((r9)) := c1
    exact kk h2 _ _ hR2 (by omega) (by omega)
  · have c1 : ¬ ((r9)) = ((r9)) := c1
    exact absurd rfl (by assumption)
-- 26: nowhere
set_option maxRecDepth 100000 in
theorem law_26 {Rp : aH → Prop} {L : Nat} {xs : Nat → Int32} {h : aH} {k c s : Nat} (hk : 6 * k + 6 ≤ L) (hL : L ≤ 3072) (hR : Rp h) (hs : s + 2582 ≤ 5000000) (hc : ∀ (a : Int32) (b : Int32), CaseI Rp 107 217 [.int a, .int b]) (kk : ∀ (h2 : aH) (c2 s2 : Nat), Rp h2 → c2 ≤ c + 27 → s2 ≤ s + 2582 → Wc (CL L xs (Rn 700)) 244 1700 [(0, .retAddr 1000), (1, .ref (0)), (2, .ref (71)), (3, .int (nI (6 * k)))] [] h2 c2 s2 5000000 LQ) : Wc (CL L xs (Rn 700)) 244 1039 [(0, .retAddr 1000), (1, .ref (0)), (2, .ref (71)), (3, .int (nI (6 * k)))] [] h c s 5000000 LQ := by
  refine wc_ld (pc' := 1040) (q := 1) (kin := 2) (v := .ref (0)) rfl (fun _ _ _ _ => rfl) rfl rfl ?_
  refine wc_ld (pc' := 1041) (q := 0) (kin := 2) (v := .retAddr 1000) rfl (fun _ _ _ _ => rfl) rfl rfl ?_
  refine wc_ld (pc' := 1042) (q := 3) (kin := 0) (v := .int (nI (6 * k))) rfl (fun _ _ _ _ => rfl) rfl rfl ?_
  refine wc_ic (pc' := 1043) (w := nI 1) rfl rfl (by decide) ?_
  refine wc_addN (pc' := 1044) rfl rfl ?_
  refine wc_sld (pc' := 1045) (j := (6 * k) + 1) rfl rfl (by omega) (by omega) ?_
  refine wc_ld (pc' := 1046) (q := 0) (kin := 2) (v := .retAddr 1000) rfl (fun _ _ _ _ => rfl) rfl rfl ?_
  refine wc_ld (pc' := 1047) (q := 3) (kin := 0) (v := .int (nI (6 * k))) rfl (fun _ _ _ _ => rfl) rfl rfl ?_
  refine wc_ic (pc' := 1048) (w := nI 2) rfl rfl (by decide) ?_
  refine wc_addN (pc' := 1049) rfl rfl ?_
  refine wc_sld (pc' := 1050) (j := (6 * k) + 2) rfl rfl (by omega) (by omega) ?_
  obtain ⟨r9, h1, h2, cc, ss, f0, f1, e1, e2, hx, g1, hm, g2, hR2⟩ := hc (xs ((6 * k) + 1)) (xs ((6 * k) + 2)) h hR
  refine wc_vir (pc' := 1053) rfl rfl (by decide) rfl rfl hx (Nat.le_of_ble_eq_true rfl) (CL_of (by decide) g1) (by omega) ?_
  show Wc _ _ 1053 _ [.int (r9)] _ _ _ _ _
  refine wc_ld (pc' := 1054) (q := 2) (kin := 2) (v := .ref (71)) rfl (fun _ _ _ _ => rfl) rfl rfl ?_
  refine wc_ld (pc' := 1055) (q := 0) (kin := 2) (v := .retAddr 1000) rfl (fun _ _ _ _ => rfl) rfl rfl ?_
  refine wc_ld (pc' := 1056) (q := 3) (kin := 0) (v := .int (nI (6 * k))) rfl (fun _ _ _ _ => rfl) rfl rfl ?_
  refine wc_ic (pc' := 1057) (w := nI 1) rfl rfl (by decide) ?_
  refine wc_addN (pc' := 1058) rfl rfl ?_
  refine wc_sld (pc' := 1059) (j := (6 * k) + 1) rfl rfl (by omega) (by omega) ?_
  refine wc_ld (pc' := 1060) (q := 0) (kin := 2) (v := .retAddr 1000) rfl (fun _ _ _ _ => rfl) rfl rfl ?_
  refine wc_ld (pc' := 1061) (q := 3) (kin := 0) (v := .int (nI (6 * k))) rfl (fun _ _ _ _ => rfl) rfl rfl ?_
  refine wc_ic (pc' := 1062) (w := nI 2) rfl rfl (by decide) ?_
  refine wc_addN (pc' := 1063) rfl rfl ?_
  refine wc_sld (pc' := 1064) (j := (6 * k) + 2) rfl rfl (by omega) (by omega) ?_
  refine wc_vir (pc' := 1067) rfl rfl (by decide) rfl rfl hm (Nat.le_of_ble_eq_true rfl) (CL_of (by decide) g2) (by omega) ?_
  show Wc _ _ 1067 _ [.int (r9), .int (r9)] _ _ _ _ _
  refine wc_icmp (t := 1700) (f := 1070) rfl rfl rfl (fun c1 => ?_) (fun c1 => ?_)
  · have c1 : ((r9)) = ((r9)) := c1
    exact kk h2 _ _ hR2 (by omega) (by omega)
  · have c1 : ¬ ((r9)) = ((r9)) := c1
    exact absurd rfl (by assumption)
-- 27: note
set_option maxRecDepth 100000 in
theorem law_27 {Rp : aH → Prop} {L : Nat} {xs : Nat → Int32} {h : aH} {k c s : Nat} (hk : 6 * k + 6 ≤ L) (hL : L ≤ 3072) (hR : Rp h) (hs : s + 2582 ≤ 5000000) (hc : ∀ (a : Int32) (b : Int32) (c : Int32) (d : Int32), CaseI Rp 109 220 [.int a, .int b, .int c, .int d]) (kk : ∀ (h2 : aH) (c2 s2 : Nat), Rp h2 → c2 ≤ c + 27 → s2 ≤ s + 2582 → Wc (CL L xs (Rn 700)) 244 1700 [(0, .retAddr 1000), (1, .ref (0)), (2, .ref (71)), (3, .int (nI (6 * k)))] [] h2 c2 s2 5000000 LQ) : Wc (CL L xs (Rn 700)) 244 1072 [(0, .retAddr 1000), (1, .ref (0)), (2, .ref (71)), (3, .int (nI (6 * k)))] [] h c s 5000000 LQ := by
  refine wc_ld (pc' := 1073) (q := 1) (kin := 2) (v := .ref (0)) rfl (fun _ _ _ _ => rfl) rfl rfl ?_
  refine wc_ld (pc' := 1074) (q := 0) (kin := 2) (v := .retAddr 1000) rfl (fun _ _ _ _ => rfl) rfl rfl ?_
  refine wc_ld (pc' := 1075) (q := 3) (kin := 0) (v := .int (nI (6 * k))) rfl (fun _ _ _ _ => rfl) rfl rfl ?_
  refine wc_ic (pc' := 1076) (w := nI 1) rfl rfl (by decide) ?_
  refine wc_addN (pc' := 1077) rfl rfl ?_
  refine wc_sld (pc' := 1078) (j := (6 * k) + 1) rfl rfl (by omega) (by omega) ?_
  refine wc_ld (pc' := 1079) (q := 0) (kin := 2) (v := .retAddr 1000) rfl (fun _ _ _ _ => rfl) rfl rfl ?_
  refine wc_ld (pc' := 1080) (q := 3) (kin := 0) (v := .int (nI (6 * k))) rfl (fun _ _ _ _ => rfl) rfl rfl ?_
  refine wc_ic (pc' := 1081) (w := nI 2) rfl rfl (by decide) ?_
  refine wc_addN (pc' := 1082) rfl rfl ?_
  refine wc_sld (pc' := 1083) (j := (6 * k) + 2) rfl rfl (by omega) (by omega) ?_
  refine wc_ld (pc' := 1084) (q := 0) (kin := 2) (v := .retAddr 1000) rfl (fun _ _ _ _ => rfl) rfl rfl ?_
  refine wc_ld (pc' := 1085) (q := 3) (kin := 0) (v := .int (nI (6 * k))) rfl (fun _ _ _ _ => rfl) rfl rfl ?_
  refine wc_ic (pc' := 1086) (w := nI 3) rfl rfl (by decide) ?_
  refine wc_addN (pc' := 1087) rfl rfl ?_
  refine wc_sld (pc' := 1088) (j := (6 * k) + 3) rfl rfl (by omega) (by omega) ?_
  refine wc_ld (pc' := 1089) (q := 0) (kin := 2) (v := .retAddr 1000) rfl (fun _ _ _ _ => rfl) rfl rfl ?_
  refine wc_ld (pc' := 1090) (q := 3) (kin := 0) (v := .int (nI (6 * k))) rfl (fun _ _ _ _ => rfl) rfl rfl ?_
  refine wc_ic (pc' := 1091) (w := nI 4) rfl rfl (by decide) ?_
  refine wc_addN (pc' := 1092) rfl rfl ?_
  refine wc_sld (pc' := 1093) (j := (6 * k) + 4) rfl rfl (by omega) (by omega) ?_
  obtain ⟨r9, h1, h2, cc, ss, f0, f1, e1, e2, hx, g1, hm, g2, hR2⟩ := hc (xs ((6 * k) + 1)) (xs ((6 * k) + 2)) (xs ((6 * k) + 3)) (xs ((6 * k) + 4)) h hR
  refine wc_vir (pc' := 1096) rfl rfl (by decide) rfl rfl hx (Nat.le_of_ble_eq_true rfl) (CL_of (by decide) g1) (by omega) ?_
  show Wc _ _ 1096 _ [.int (r9)] _ _ _ _ _
  refine wc_ld (pc' := 1097) (q := 2) (kin := 2) (v := .ref (71)) rfl (fun _ _ _ _ => rfl) rfl rfl ?_
  refine wc_ld (pc' := 1098) (q := 0) (kin := 2) (v := .retAddr 1000) rfl (fun _ _ _ _ => rfl) rfl rfl ?_
  refine wc_ld (pc' := 1099) (q := 3) (kin := 0) (v := .int (nI (6 * k))) rfl (fun _ _ _ _ => rfl) rfl rfl ?_
  refine wc_ic (pc' := 1100) (w := nI 1) rfl rfl (by decide) ?_
  refine wc_addN (pc' := 1101) rfl rfl ?_
  refine wc_sld (pc' := 1102) (j := (6 * k) + 1) rfl rfl (by omega) (by omega) ?_
  refine wc_ld (pc' := 1103) (q := 0) (kin := 2) (v := .retAddr 1000) rfl (fun _ _ _ _ => rfl) rfl rfl ?_
  refine wc_ld (pc' := 1104) (q := 3) (kin := 0) (v := .int (nI (6 * k))) rfl (fun _ _ _ _ => rfl) rfl rfl ?_
  refine wc_ic (pc' := 1105) (w := nI 2) rfl rfl (by decide) ?_
  refine wc_addN (pc' := 1106) rfl rfl ?_
  refine wc_sld (pc' := 1107) (j := (6 * k) + 2) rfl rfl (by omega) (by omega) ?_
  refine wc_ld (pc' := 1108) (q := 0) (kin := 2) (v := .retAddr 1000) rfl (fun _ _ _ _ => rfl) rfl rfl ?_
  refine wc_ld (pc' := 1109) (q := 3) (kin := 0) (v := .int (nI (6 * k))) rfl (fun _ _ _ _ => rfl) rfl rfl ?_
  refine wc_ic (pc' := 1110) (w := nI 3) rfl rfl (by decide) ?_
  refine wc_addN (pc' := 1111) rfl rfl ?_
  refine wc_sld (pc' := 1112) (j := (6 * k) + 3) rfl rfl (by omega) (by omega) ?_
  refine wc_ld (pc' := 1113) (q := 0) (kin := 2) (v := .retAddr 1000) rfl (fun _ _ _ _ => rfl) rfl rfl ?_
  refine wc_ld (pc' := 1114) (q := 3) (kin := 0) (v := .int (nI (6 * k))) rfl (fun _ _ _ _ => rfl) rfl rfl ?_
  refine wc_ic (pc' := 1115) (w := nI 4) rfl rfl (by decide) ?_
  refine wc_addN (pc' := 1116) rfl rfl ?_
  refine wc_sld (pc' := 1117) (j := (6 * k) + 4) rfl rfl (by omega) (by omega) ?_
  refine wc_vir (pc' := 1120) rfl rfl (by decide) rfl rfl hm (Nat.le_of_ble_eq_true rfl) (CL_of (by decide) g2) (by omega) ?_
  show Wc _ _ 1120 _ [.int (r9), .int (r9)] _ _ _ _ _
  refine wc_icmp (t := 1700) (f := 1123) rfl rfl rfl (fun c1 => ?_) (fun c1 => ?_)
  · have c1 : ((r9)) = ((r9)) := c1
    exact kk h2 _ _ hR2 (by omega) (by omega)
  · have c1 : ¬ ((r9)) = ((r9)) := c1
    exact absurd rfl (by assumption)
-- 28: noted
set_option maxRecDepth 100000 in
theorem law_28 {Rp : aH → Prop} {L : Nat} {xs : Nat → Int32} {h : aH} {k c s : Nat} (hk : 6 * k + 6 ≤ L) (hL : L ≤ 3072) (hR : Rp h) (hs : s + 2582 ≤ 5000000) (hc : ∀ (a : Int32) (b : Int32) (c : Int32), CaseI Rp 110 221 [.int a, .int b, .int c]) (kk : ∀ (h2 : aH) (c2 s2 : Nat), Rp h2 → c2 ≤ c + 27 → s2 ≤ s + 2582 → Wc (CL L xs (Rn 700)) 244 1700 [(0, .retAddr 1000), (1, .ref (0)), (2, .ref (71)), (3, .int (nI (6 * k)))] [] h2 c2 s2 5000000 LQ) : Wc (CL L xs (Rn 700)) 244 1125 [(0, .retAddr 1000), (1, .ref (0)), (2, .ref (71)), (3, .int (nI (6 * k)))] [] h c s 5000000 LQ := by
  refine wc_ld (pc' := 1126) (q := 1) (kin := 2) (v := .ref (0)) rfl (fun _ _ _ _ => rfl) rfl rfl ?_
  refine wc_ld (pc' := 1127) (q := 0) (kin := 2) (v := .retAddr 1000) rfl (fun _ _ _ _ => rfl) rfl rfl ?_
  refine wc_ld (pc' := 1128) (q := 3) (kin := 0) (v := .int (nI (6 * k))) rfl (fun _ _ _ _ => rfl) rfl rfl ?_
  refine wc_ic (pc' := 1129) (w := nI 1) rfl rfl (by decide) ?_
  refine wc_addN (pc' := 1130) rfl rfl ?_
  refine wc_sld (pc' := 1131) (j := (6 * k) + 1) rfl rfl (by omega) (by omega) ?_
  refine wc_ld (pc' := 1132) (q := 0) (kin := 2) (v := .retAddr 1000) rfl (fun _ _ _ _ => rfl) rfl rfl ?_
  refine wc_ld (pc' := 1133) (q := 3) (kin := 0) (v := .int (nI (6 * k))) rfl (fun _ _ _ _ => rfl) rfl rfl ?_
  refine wc_ic (pc' := 1134) (w := nI 2) rfl rfl (by decide) ?_
  refine wc_addN (pc' := 1135) rfl rfl ?_
  refine wc_sld (pc' := 1136) (j := (6 * k) + 2) rfl rfl (by omega) (by omega) ?_
  refine wc_ld (pc' := 1137) (q := 0) (kin := 2) (v := .retAddr 1000) rfl (fun _ _ _ _ => rfl) rfl rfl ?_
  refine wc_ld (pc' := 1138) (q := 3) (kin := 0) (v := .int (nI (6 * k))) rfl (fun _ _ _ _ => rfl) rfl rfl ?_
  refine wc_ic (pc' := 1139) (w := nI 3) rfl rfl (by decide) ?_
  refine wc_addN (pc' := 1140) rfl rfl ?_
  refine wc_sld (pc' := 1141) (j := (6 * k) + 3) rfl rfl (by omega) (by omega) ?_
  obtain ⟨r9, h1, h2, cc, ss, f0, f1, e1, e2, hx, g1, hm, g2, hR2⟩ := hc (xs ((6 * k) + 1)) (xs ((6 * k) + 2)) (xs ((6 * k) + 3)) h hR
  refine wc_vir (pc' := 1144) rfl rfl (by decide) rfl rfl hx (Nat.le_of_ble_eq_true rfl) (CL_of (by decide) g1) (by omega) ?_
  show Wc _ _ 1144 _ [.int (r9)] _ _ _ _ _
  refine wc_ld (pc' := 1145) (q := 2) (kin := 2) (v := .ref (71)) rfl (fun _ _ _ _ => rfl) rfl rfl ?_
  refine wc_ld (pc' := 1146) (q := 0) (kin := 2) (v := .retAddr 1000) rfl (fun _ _ _ _ => rfl) rfl rfl ?_
  refine wc_ld (pc' := 1147) (q := 3) (kin := 0) (v := .int (nI (6 * k))) rfl (fun _ _ _ _ => rfl) rfl rfl ?_
  refine wc_ic (pc' := 1148) (w := nI 1) rfl rfl (by decide) ?_
  refine wc_addN (pc' := 1149) rfl rfl ?_
  refine wc_sld (pc' := 1150) (j := (6 * k) + 1) rfl rfl (by omega) (by omega) ?_
  refine wc_ld (pc' := 1151) (q := 0) (kin := 2) (v := .retAddr 1000) rfl (fun _ _ _ _ => rfl) rfl rfl ?_
  refine wc_ld (pc' := 1152) (q := 3) (kin := 0) (v := .int (nI (6 * k))) rfl (fun _ _ _ _ => rfl) rfl rfl ?_
  refine wc_ic (pc' := 1153) (w := nI 2) rfl rfl (by decide) ?_
  refine wc_addN (pc' := 1154) rfl rfl ?_
  refine wc_sld (pc' := 1155) (j := (6 * k) + 2) rfl rfl (by omega) (by omega) ?_
  refine wc_ld (pc' := 1156) (q := 0) (kin := 2) (v := .retAddr 1000) rfl (fun _ _ _ _ => rfl) rfl rfl ?_
  refine wc_ld (pc' := 1157) (q := 3) (kin := 0) (v := .int (nI (6 * k))) rfl (fun _ _ _ _ => rfl) rfl rfl ?_
  refine wc_ic (pc' := 1158) (w := nI 3) rfl rfl (by decide) ?_
  refine wc_addN (pc' := 1159) rfl rfl ?_
  refine wc_sld (pc' := 1160) (j := (6 * k) + 3) rfl rfl (by omega) (by omega) ?_
  refine wc_vir (pc' := 1163) rfl rfl (by decide) rfl rfl hm (Nat.le_of_ble_eq_true rfl) (CL_of (by decide) g2) (by omega) ?_
  show Wc _ _ 1163 _ [.int (r9), .int (r9)] _ _ _ _ _
  refine wc_icmp (t := 1700) (f := 1166) rfl rfl rfl (fun c1 => ?_) (fun c1 => ?_)
  · have c1 : ((r9)) = ((r9)) := c1
    exact kk h2 _ _ hR2 (by omega) (by omega)
  · have c1 : ¬ ((r9)) = ((r9)) := c1
    exact absurd rfl (by assumption)
-- 29: mostly
set_option maxRecDepth 100000 in
theorem law_29 {Rp : aH → Prop} {L : Nat} {xs : Nat → Int32} {h : aH} {k c s : Nat} (hk : 6 * k + 6 ≤ L) (hL : L ≤ 3072) (hR : Rp h) (hs : s + 2582 ≤ 5000000) (hc : ∀ (a : Int32) (b : Int32), CaseI Rp 111 223 [.int a, .int b]) (kk : ∀ (h2 : aH) (c2 s2 : Nat), Rp h2 → c2 ≤ c + 27 → s2 ≤ s + 2582 → Wc (CL L xs (Rn 700)) 244 1700 [(0, .retAddr 1000), (1, .ref (0)), (2, .ref (71)), (3, .int (nI (6 * k)))] [] h2 c2 s2 5000000 LQ) : Wc (CL L xs (Rn 700)) 244 1168 [(0, .retAddr 1000), (1, .ref (0)), (2, .ref (71)), (3, .int (nI (6 * k)))] [] h c s 5000000 LQ := by
  refine wc_ld (pc' := 1169) (q := 1) (kin := 2) (v := .ref (0)) rfl (fun _ _ _ _ => rfl) rfl rfl ?_
  refine wc_ld (pc' := 1170) (q := 0) (kin := 2) (v := .retAddr 1000) rfl (fun _ _ _ _ => rfl) rfl rfl ?_
  refine wc_ld (pc' := 1171) (q := 3) (kin := 0) (v := .int (nI (6 * k))) rfl (fun _ _ _ _ => rfl) rfl rfl ?_
  refine wc_ic (pc' := 1172) (w := nI 1) rfl rfl (by decide) ?_
  refine wc_addN (pc' := 1173) rfl rfl ?_
  refine wc_sld (pc' := 1174) (j := (6 * k) + 1) rfl rfl (by omega) (by omega) ?_
  refine wc_ld (pc' := 1175) (q := 0) (kin := 2) (v := .retAddr 1000) rfl (fun _ _ _ _ => rfl) rfl rfl ?_
  refine wc_ld (pc' := 1176) (q := 3) (kin := 0) (v := .int (nI (6 * k))) rfl (fun _ _ _ _ => rfl) rfl rfl ?_
  refine wc_ic (pc' := 1177) (w := nI 2) rfl rfl (by decide) ?_
  refine wc_addN (pc' := 1178) rfl rfl ?_
  refine wc_sld (pc' := 1179) (j := (6 * k) + 2) rfl rfl (by omega) (by omega) ?_
  obtain ⟨r9, h1, h2, cc, ss, f0, f1, e1, e2, hx, g1, hm, g2, hR2⟩ := hc (xs ((6 * k) + 1)) (xs ((6 * k) + 2)) h hR
  refine wc_vir (pc' := 1182) rfl rfl (by decide) rfl rfl hx (Nat.le_of_ble_eq_true rfl) (CL_of (by decide) g1) (by omega) ?_
  show Wc _ _ 1182 _ [.int (r9)] _ _ _ _ _
  refine wc_ld (pc' := 1183) (q := 2) (kin := 2) (v := .ref (71)) rfl (fun _ _ _ _ => rfl) rfl rfl ?_
  refine wc_ld (pc' := 1184) (q := 0) (kin := 2) (v := .retAddr 1000) rfl (fun _ _ _ _ => rfl) rfl rfl ?_
  refine wc_ld (pc' := 1185) (q := 3) (kin := 0) (v := .int (nI (6 * k))) rfl (fun _ _ _ _ => rfl) rfl rfl ?_
  refine wc_ic (pc' := 1186) (w := nI 1) rfl rfl (by decide) ?_
  refine wc_addN (pc' := 1187) rfl rfl ?_
  refine wc_sld (pc' := 1188) (j := (6 * k) + 1) rfl rfl (by omega) (by omega) ?_
  refine wc_ld (pc' := 1189) (q := 0) (kin := 2) (v := .retAddr 1000) rfl (fun _ _ _ _ => rfl) rfl rfl ?_
  refine wc_ld (pc' := 1190) (q := 3) (kin := 0) (v := .int (nI (6 * k))) rfl (fun _ _ _ _ => rfl) rfl rfl ?_
  refine wc_ic (pc' := 1191) (w := nI 2) rfl rfl (by decide) ?_
  refine wc_addN (pc' := 1192) rfl rfl ?_
  refine wc_sld (pc' := 1193) (j := (6 * k) + 2) rfl rfl (by omega) (by omega) ?_
  refine wc_vir (pc' := 1196) rfl rfl (by decide) rfl rfl hm (Nat.le_of_ble_eq_true rfl) (CL_of (by decide) g2) (by omega) ?_
  show Wc _ _ 1196 _ [.int (r9), .int (r9)] _ _ _ _ _
  refine wc_icmp (t := 1700) (f := 1199) rfl rfl rfl (fun c1 => ?_) (fun c1 => ?_)
  · have c1 : ((r9)) = ((r9)) := c1
    exact kk h2 _ _ hR2 (by omega) (by omega)
  · have c1 : ¬ ((r9)) = ((r9)) := c1
    exact absurd rfl (by assumption)
-- 30: off
set_option maxRecDepth 100000 in
theorem law_30 {Rp : aH → Prop} {L : Nat} {xs : Nat → Int32} {h : aH} {k c s : Nat} (hk : 6 * k + 6 ≤ L) (hL : L ≤ 3072) (hR : Rp h) (hs : s + 2582 ≤ 5000000) (hc : ∀ (a : Int32) (b : Int32), CaseI Rp 112 224 [.int a, .int b]) (kk : ∀ (h2 : aH) (c2 s2 : Nat), Rp h2 → c2 ≤ c + 27 → s2 ≤ s + 2582 → Wc (CL L xs (Rn 700)) 244 1700 [(0, .retAddr 1000), (1, .ref (0)), (2, .ref (71)), (3, .int (nI (6 * k)))] [] h2 c2 s2 5000000 LQ) : Wc (CL L xs (Rn 700)) 244 1201 [(0, .retAddr 1000), (1, .ref (0)), (2, .ref (71)), (3, .int (nI (6 * k)))] [] h c s 5000000 LQ := by
  refine wc_ld (pc' := 1202) (q := 1) (kin := 2) (v := .ref (0)) rfl (fun _ _ _ _ => rfl) rfl rfl ?_
  refine wc_ld (pc' := 1203) (q := 0) (kin := 2) (v := .retAddr 1000) rfl (fun _ _ _ _ => rfl) rfl rfl ?_
  refine wc_ld (pc' := 1204) (q := 3) (kin := 0) (v := .int (nI (6 * k))) rfl (fun _ _ _ _ => rfl) rfl rfl ?_
  refine wc_ic (pc' := 1205) (w := nI 1) rfl rfl (by decide) ?_
  refine wc_addN (pc' := 1206) rfl rfl ?_
  refine wc_sld (pc' := 1207) (j := (6 * k) + 1) rfl rfl (by omega) (by omega) ?_
  refine wc_ld (pc' := 1208) (q := 0) (kin := 2) (v := .retAddr 1000) rfl (fun _ _ _ _ => rfl) rfl rfl ?_
  refine wc_ld (pc' := 1209) (q := 3) (kin := 0) (v := .int (nI (6 * k))) rfl (fun _ _ _ _ => rfl) rfl rfl ?_
  refine wc_ic (pc' := 1210) (w := nI 2) rfl rfl (by decide) ?_
  refine wc_addN (pc' := 1211) rfl rfl ?_
  refine wc_sld (pc' := 1212) (j := (6 * k) + 2) rfl rfl (by omega) (by omega) ?_
  obtain ⟨r9, h1, h2, cc, ss, f0, f1, e1, e2, hx, g1, hm, g2, hR2⟩ := hc (xs ((6 * k) + 1)) (xs ((6 * k) + 2)) h hR
  refine wc_vir (pc' := 1215) rfl rfl (by decide) rfl rfl hx (Nat.le_of_ble_eq_true rfl) (CL_of (by decide) g1) (by omega) ?_
  show Wc _ _ 1215 _ [.int (r9)] _ _ _ _ _
  refine wc_ld (pc' := 1216) (q := 2) (kin := 2) (v := .ref (71)) rfl (fun _ _ _ _ => rfl) rfl rfl ?_
  refine wc_ld (pc' := 1217) (q := 0) (kin := 2) (v := .retAddr 1000) rfl (fun _ _ _ _ => rfl) rfl rfl ?_
  refine wc_ld (pc' := 1218) (q := 3) (kin := 0) (v := .int (nI (6 * k))) rfl (fun _ _ _ _ => rfl) rfl rfl ?_
  refine wc_ic (pc' := 1219) (w := nI 1) rfl rfl (by decide) ?_
  refine wc_addN (pc' := 1220) rfl rfl ?_
  refine wc_sld (pc' := 1221) (j := (6 * k) + 1) rfl rfl (by omega) (by omega) ?_
  refine wc_ld (pc' := 1222) (q := 0) (kin := 2) (v := .retAddr 1000) rfl (fun _ _ _ _ => rfl) rfl rfl ?_
  refine wc_ld (pc' := 1223) (q := 3) (kin := 0) (v := .int (nI (6 * k))) rfl (fun _ _ _ _ => rfl) rfl rfl ?_
  refine wc_ic (pc' := 1224) (w := nI 2) rfl rfl (by decide) ?_
  refine wc_addN (pc' := 1225) rfl rfl ?_
  refine wc_sld (pc' := 1226) (j := (6 * k) + 2) rfl rfl (by omega) (by omega) ?_
  refine wc_vir (pc' := 1229) rfl rfl (by decide) rfl rfl hm (Nat.le_of_ble_eq_true rfl) (CL_of (by decide) g2) (by omega) ?_
  show Wc _ _ 1229 _ [.int (r9), .int (r9)] _ _ _ _ _
  refine wc_icmp (t := 1700) (f := 1232) rfl rfl rfl (fun c1 => ?_) (fun c1 => ?_)
  · have c1 : ((r9)) = ((r9)) := c1
    exact kk h2 _ _ hR2 (by omega) (by omega)
  · have c1 : ¬ ((r9)) = ((r9)) := c1
    exact absurd rfl (by assumption)
-- 31: odds
set_option maxRecDepth 100000 in
theorem law_31 {Rp : aH → Prop} {L : Nat} {xs : Nat → Int32} {h : aH} {k c s : Nat} (hk : 6 * k + 6 ≤ L) (hL : L ≤ 3072) (hR : Rp h) (hs : s + 2582 ≤ 5000000) (hc : ∀ (a : Int32) (b : Prop), CaseL Rp 113 226 [.int a, .int (bI b)]) (kk : ∀ (h2 : aH) (c2 s2 : Nat), Rp h2 → c2 ≤ c + 27 → s2 ≤ s + 2582 → Wc (CL L xs (Rn 700)) 244 1700 [(0, .retAddr 1000), (1, .ref (0)), (2, .ref (71)), (3, .int (nI (6 * k)))] [] h2 c2 s2 5000000 LQ) : Wc (CL L xs (Rn 700)) 244 1234 [(0, .retAddr 1000), (1, .ref (0)), (2, .ref (71)), (3, .int (nI (6 * k)))] [] h c s 5000000 LQ := by
  refine wc_ld (pc' := 1235) (q := 1) (kin := 2) (v := .ref (0)) rfl (fun _ _ _ _ => rfl) rfl rfl ?_
  refine wc_ld (pc' := 1236) (q := 0) (kin := 2) (v := .retAddr 1000) rfl (fun _ _ _ _ => rfl) rfl rfl ?_
  refine wc_ld (pc' := 1237) (q := 3) (kin := 0) (v := .int (nI (6 * k))) rfl (fun _ _ _ _ => rfl) rfl rfl ?_
  refine wc_ic (pc' := 1238) (w := nI 1) rfl rfl (by decide) ?_
  refine wc_addN (pc' := 1239) rfl rfl ?_
  refine wc_sld (pc' := 1240) (j := (6 * k) + 1) rfl rfl (by omega) (by omega) ?_
  refine wc_ld (pc' := 1241) (q := 0) (kin := 2) (v := .retAddr 1000) rfl (fun _ _ _ _ => rfl) rfl rfl ?_
  refine wc_ld (pc' := 1242) (q := 3) (kin := 0) (v := .int (nI (6 * k))) rfl (fun _ _ _ _ => rfl) rfl rfl ?_
  refine wc_ic (pc' := 1243) (w := nI 2) rfl rfl (by decide) ?_
  refine wc_addN (pc' := 1244) rfl rfl ?_
  refine wc_sld (pc' := 1245) (j := (6 * k) + 2) rfl rfl (by omega) (by omega) ?_
  refine wc_ifc (t := 1252) (f := 1248) rfl rfl rfl (fun c1 => ?_) (fun c1 => ?_)
  · have c1 : ((xs ((6 * k) + 2))) = 0 := c1
    refine wc_ic (pc' := 1253) (w := nI 0) rfl rfl (by decide) ?_
    obtain ⟨r9, h1, h2, cc, ss, f0, f1, e1, e2, hx, g1, hm, g2, hR2⟩ := hc (xs ((6 * k) + 1)) False h hR
    rw [show bI False = nI 0 from bI_f (fun q => q)] at g1 g2
    refine wc_vir (pc' := 1256) rfl rfl (by decide) rfl rfl hx (Nat.le_of_ble_eq_true rfl) (CL_of (by decide) g1) (by omega) ?_
    show Wc _ _ 1256 _ [.long (r9)] _ _ _ _ _
    refine wc_ld (pc' := 1257) (q := 2) (kin := 2) (v := .ref (71)) rfl (fun _ _ _ _ => rfl) rfl rfl ?_
    refine wc_ld (pc' := 1258) (q := 0) (kin := 2) (v := .retAddr 1000) rfl (fun _ _ _ _ => rfl) rfl rfl ?_
    refine wc_ld (pc' := 1259) (q := 3) (kin := 0) (v := .int (nI (6 * k))) rfl (fun _ _ _ _ => rfl) rfl rfl ?_
    refine wc_ic (pc' := 1260) (w := nI 1) rfl rfl (by decide) ?_
    refine wc_addN (pc' := 1261) rfl rfl ?_
    refine wc_sld (pc' := 1262) (j := (6 * k) + 1) rfl rfl (by omega) (by omega) ?_
    refine wc_ld (pc' := 1263) (q := 0) (kin := 2) (v := .retAddr 1000) rfl (fun _ _ _ _ => rfl) rfl rfl ?_
    refine wc_ld (pc' := 1264) (q := 3) (kin := 0) (v := .int (nI (6 * k))) rfl (fun _ _ _ _ => rfl) rfl rfl ?_
    refine wc_ic (pc' := 1265) (w := nI 2) rfl rfl (by decide) ?_
    refine wc_addN (pc' := 1266) rfl rfl ?_
    refine wc_sld (pc' := 1267) (j := (6 * k) + 2) rfl rfl (by omega) (by omega) ?_
    refine wc_ifc (t := 1274) (f := 1270) rfl rfl rfl (fun c2 => ?_) (fun c2 => ?_)
    · have c2 : ((xs ((6 * k) + 2))) = 0 := c2
      refine wc_ic (pc' := 1275) (w := nI 0) rfl rfl (by decide) ?_
      refine wc_vir (pc' := 1278) rfl rfl (by decide) rfl rfl hm (Nat.le_of_ble_eq_true rfl) (CL_of (by decide) g2) (by omega) ?_
      show Wc _ _ 1278 _ [.long (r9), .long (r9)] _ _ _ _ _
      refine wc_pu (pc' := 1279) (st' := [.int (lg_cmp (r9) (r9))]) rfl (fun _ _ _ _ => rfl) rfl rfl ?_
      refine wc_lc (t := 1700) (f := 1282) rfl rfl rfl (fun c3 => ?_) (fun c3 => ?_)
      · have c3 : (r9).toInt = (r9).toInt := c3
        exact kk h2 _ _ hR2 (by omega) (by omega)
      · have c3 : ¬ ((r9).toInt = (r9).toInt) := c3
        exact absurd rfl (by assumption)
    · have c2 : ¬ ((xs ((6 * k) + 2))) = 0 := c2
      exact absurd c1 c2
  · have c1 : ¬ ((xs ((6 * k) + 2))) = 0 := c1
    refine wc_ic (pc' := 1249) (w := nI 1) rfl rfl (by decide) ?_
    refine wc_jp (pc' := 1253) rfl rfl ?_
    obtain ⟨r9, h1, h2, cc, ss, f0, f1, e1, e2, hx, g1, hm, g2, hR2⟩ := hc (xs ((6 * k) + 1)) True h hR
    rw [show bI True = nI 1 from bI_t trivial] at g1 g2
    refine wc_vir (pc' := 1256) rfl rfl (by decide) rfl rfl hx (Nat.le_of_ble_eq_true rfl) (CL_of (by decide) g1) (by omega) ?_
    show Wc _ _ 1256 _ [.long (r9)] _ _ _ _ _
    refine wc_ld (pc' := 1257) (q := 2) (kin := 2) (v := .ref (71)) rfl (fun _ _ _ _ => rfl) rfl rfl ?_
    refine wc_ld (pc' := 1258) (q := 0) (kin := 2) (v := .retAddr 1000) rfl (fun _ _ _ _ => rfl) rfl rfl ?_
    refine wc_ld (pc' := 1259) (q := 3) (kin := 0) (v := .int (nI (6 * k))) rfl (fun _ _ _ _ => rfl) rfl rfl ?_
    refine wc_ic (pc' := 1260) (w := nI 1) rfl rfl (by decide) ?_
    refine wc_addN (pc' := 1261) rfl rfl ?_
    refine wc_sld (pc' := 1262) (j := (6 * k) + 1) rfl rfl (by omega) (by omega) ?_
    refine wc_ld (pc' := 1263) (q := 0) (kin := 2) (v := .retAddr 1000) rfl (fun _ _ _ _ => rfl) rfl rfl ?_
    refine wc_ld (pc' := 1264) (q := 3) (kin := 0) (v := .int (nI (6 * k))) rfl (fun _ _ _ _ => rfl) rfl rfl ?_
    refine wc_ic (pc' := 1265) (w := nI 2) rfl rfl (by decide) ?_
    refine wc_addN (pc' := 1266) rfl rfl ?_
    refine wc_sld (pc' := 1267) (j := (6 * k) + 2) rfl rfl (by omega) (by omega) ?_
    refine wc_ifc (t := 1274) (f := 1270) rfl rfl rfl (fun c4 => ?_) (fun c4 => ?_)
    · have c4 : ((xs ((6 * k) + 2))) = 0 := c4
      exact absurd c4 c1
    · have c4 : ¬ ((xs ((6 * k) + 2))) = 0 := c4
      refine wc_ic (pc' := 1271) (w := nI 1) rfl rfl (by decide) ?_
      refine wc_jp (pc' := 1275) rfl rfl ?_
      refine wc_vir (pc' := 1278) rfl rfl (by decide) rfl rfl hm (Nat.le_of_ble_eq_true rfl) (CL_of (by decide) g2) (by omega) ?_
      show Wc _ _ 1278 _ [.long (r9), .long (r9)] _ _ _ _ _
      refine wc_pu (pc' := 1279) (st' := [.int (lg_cmp (r9) (r9))]) rfl (fun _ _ _ _ => rfl) rfl rfl ?_
      refine wc_lc (t := 1700) (f := 1282) rfl rfl rfl (fun c5 => ?_) (fun c5 => ?_)
      · have c5 : (r9).toInt = (r9).toInt := c5
        exact kk h2 _ _ hR2 (by omega) (by omega)
      · have c5 : ¬ ((r9).toInt = (r9).toInt) := c5
        exact absurd rfl (by assumption)
-- 32: likely
set_option maxRecDepth 100000 in
theorem law_32 {Rp : aH → Prop} {L : Nat} {xs : Nat → Int32} {h : aH} {k c s : Nat} (hk : 6 * k + 6 ≤ L) (hL : L ≤ 3072) (hR : Rp h) (hs : s + 2582 ≤ 5000000) (hc : CaseI Rp 117 229 []) (kk : ∀ (h2 : aH) (c2 s2 : Nat), Rp h2 → c2 ≤ c + 27 → s2 ≤ s + 2582 → Wc (CL L xs (Rn 700)) 244 1700 [(0, .retAddr 1000), (1, .ref (0)), (2, .ref (71)), (3, .int (nI (6 * k)))] [] h2 c2 s2 5000000 LQ) : Wc (CL L xs (Rn 700)) 244 1284 [(0, .retAddr 1000), (1, .ref (0)), (2, .ref (71)), (3, .int (nI (6 * k)))] [] h c s 5000000 LQ := by
  refine wc_ld (pc' := 1285) (q := 1) (kin := 2) (v := .ref (0)) rfl (fun _ _ _ _ => rfl) rfl rfl ?_
  obtain ⟨r9, h1, h2, cc, ss, f0, f1, e1, e2, hx, g1, hm, g2, hR2⟩ := hc  h hR
  refine wc_vir (pc' := 1288) rfl rfl (by decide) rfl rfl hx (Nat.le_of_ble_eq_true rfl) (CL_of (by decide) g1) (by omega) ?_
  show Wc _ _ 1288 _ [.int (r9)] _ _ _ _ _
  refine wc_ld (pc' := 1289) (q := 2) (kin := 2) (v := .ref (71)) rfl (fun _ _ _ _ => rfl) rfl rfl ?_
  refine wc_vir (pc' := 1292) rfl rfl (by decide) rfl rfl hm (Nat.le_of_ble_eq_true rfl) (CL_of (by decide) g2) (by omega) ?_
  show Wc _ _ 1292 _ [.int (r9), .int (r9)] _ _ _ _ _
  refine wc_icmp (t := 1700) (f := 1295) rfl rfl rfl (fun c1 => ?_) (fun c1 => ?_)
  · have c1 : ((r9)) = ((r9)) := c1
    exact kk h2 _ _ hR2 (by omega) (by omega)
  · have c1 : ¬ ((r9)) = ((r9)) := c1
    exact absurd rfl (by assumption)
-- 33: ahead
set_option maxRecDepth 100000 in
theorem law_33 {Rp : aH → Prop} {L : Nat} {xs : Nat → Int32} {h : aH} {k c s : Nat} (hk : 6 * k + 6 ≤ L) (hL : L ≤ 3072) (hR : Rp h) (hs : s + 2582 ≤ 5000000) (hc : ∀ (a : Int32), CaseI Rp 118 230 [.int a]) (kk : ∀ (h2 : aH) (c2 s2 : Nat), Rp h2 → c2 ≤ c + 27 → s2 ≤ s + 2582 → Wc (CL L xs (Rn 700)) 244 1700 [(0, .retAddr 1000), (1, .ref (0)), (2, .ref (71)), (3, .int (nI (6 * k)))] [] h2 c2 s2 5000000 LQ) : Wc (CL L xs (Rn 700)) 244 1297 [(0, .retAddr 1000), (1, .ref (0)), (2, .ref (71)), (3, .int (nI (6 * k)))] [] h c s 5000000 LQ := by
  refine wc_ld (pc' := 1298) (q := 1) (kin := 2) (v := .ref (0)) rfl (fun _ _ _ _ => rfl) rfl rfl ?_
  refine wc_ld (pc' := 1299) (q := 0) (kin := 2) (v := .retAddr 1000) rfl (fun _ _ _ _ => rfl) rfl rfl ?_
  refine wc_ld (pc' := 1300) (q := 3) (kin := 0) (v := .int (nI (6 * k))) rfl (fun _ _ _ _ => rfl) rfl rfl ?_
  refine wc_ic (pc' := 1301) (w := nI 1) rfl rfl (by decide) ?_
  refine wc_addN (pc' := 1302) rfl rfl ?_
  refine wc_sld (pc' := 1303) (j := (6 * k) + 1) rfl rfl (by omega) (by omega) ?_
  obtain ⟨r9, h1, h2, cc, ss, f0, f1, e1, e2, hx, g1, hm, g2, hR2⟩ := hc (xs ((6 * k) + 1)) h hR
  refine wc_vir (pc' := 1306) rfl rfl (by decide) rfl rfl hx (Nat.le_of_ble_eq_true rfl) (CL_of (by decide) g1) (by omega) ?_
  show Wc _ _ 1306 _ [.int (r9)] _ _ _ _ _
  refine wc_ld (pc' := 1307) (q := 2) (kin := 2) (v := .ref (71)) rfl (fun _ _ _ _ => rfl) rfl rfl ?_
  refine wc_ld (pc' := 1308) (q := 0) (kin := 2) (v := .retAddr 1000) rfl (fun _ _ _ _ => rfl) rfl rfl ?_
  refine wc_ld (pc' := 1309) (q := 3) (kin := 0) (v := .int (nI (6 * k))) rfl (fun _ _ _ _ => rfl) rfl rfl ?_
  refine wc_ic (pc' := 1310) (w := nI 1) rfl rfl (by decide) ?_
  refine wc_addN (pc' := 1311) rfl rfl ?_
  refine wc_sld (pc' := 1312) (j := (6 * k) + 1) rfl rfl (by omega) (by omega) ?_
  refine wc_vir (pc' := 1315) rfl rfl (by decide) rfl rfl hm (Nat.le_of_ble_eq_true rfl) (CL_of (by decide) g2) (by omega) ?_
  show Wc _ _ 1315 _ [.int (r9), .int (r9)] _ _ _ _ _
  refine wc_icmp (t := 1700) (f := 1318) rfl rfl rfl (fun c1 => ?_) (fun c1 => ?_)
  · have c1 : ((r9)) = ((r9)) := c1
    exact kk h2 _ _ hR2 (by omega) (by omega)
  · have c1 : ¬ ((r9)) = ((r9)) := c1
    exact absurd rfl (by assumption)
-- 34: walk
set_option maxRecDepth 100000 in
theorem law_34 {Rp : aH → Prop} {L : Nat} {xs : Nat → Int32} {h : aH} {k c s : Nat} (hk : 6 * k + 6 ≤ L) (hL : L ≤ 3072) (hR : Rp h) (hs : s + 2582 ≤ 5000000) (hc : ∀ (a : Int32) (b : Int32), CaseI Rp 121 231 [.int a, .int b]) (kk : ∀ (h2 : aH) (c2 s2 : Nat), Rp h2 → c2 ≤ c + 27 → s2 ≤ s + 2582 → Wc (CL L xs (Rn 700)) 244 1700 [(0, .retAddr 1000), (1, .ref (0)), (2, .ref (71)), (3, .int (nI (6 * k)))] [] h2 c2 s2 5000000 LQ) : Wc (CL L xs (Rn 700)) 244 1320 [(0, .retAddr 1000), (1, .ref (0)), (2, .ref (71)), (3, .int (nI (6 * k)))] [] h c s 5000000 LQ := by
  refine wc_ld (pc' := 1321) (q := 1) (kin := 2) (v := .ref (0)) rfl (fun _ _ _ _ => rfl) rfl rfl ?_
  refine wc_ld (pc' := 1322) (q := 0) (kin := 2) (v := .retAddr 1000) rfl (fun _ _ _ _ => rfl) rfl rfl ?_
  refine wc_ld (pc' := 1323) (q := 3) (kin := 0) (v := .int (nI (6 * k))) rfl (fun _ _ _ _ => rfl) rfl rfl ?_
  refine wc_ic (pc' := 1324) (w := nI 1) rfl rfl (by decide) ?_
  refine wc_addN (pc' := 1325) rfl rfl ?_
  refine wc_sld (pc' := 1326) (j := (6 * k) + 1) rfl rfl (by omega) (by omega) ?_
  refine wc_ld (pc' := 1327) (q := 0) (kin := 2) (v := .retAddr 1000) rfl (fun _ _ _ _ => rfl) rfl rfl ?_
  refine wc_ld (pc' := 1328) (q := 3) (kin := 0) (v := .int (nI (6 * k))) rfl (fun _ _ _ _ => rfl) rfl rfl ?_
  refine wc_ic (pc' := 1329) (w := nI 2) rfl rfl (by decide) ?_
  refine wc_addN (pc' := 1330) rfl rfl ?_
  refine wc_sld (pc' := 1331) (j := (6 * k) + 2) rfl rfl (by omega) (by omega) ?_
  obtain ⟨r9, h1, h2, cc, ss, f0, f1, e1, e2, hx, g1, hm, g2, hR2⟩ := hc (xs ((6 * k) + 1)) (xs ((6 * k) + 2)) h hR
  refine wc_vir (pc' := 1334) rfl rfl (by decide) rfl rfl hx (Nat.le_of_ble_eq_true rfl) (CL_of (by decide) g1) (by omega) ?_
  show Wc _ _ 1334 _ [.int (r9)] _ _ _ _ _
  refine wc_ld (pc' := 1335) (q := 2) (kin := 2) (v := .ref (71)) rfl (fun _ _ _ _ => rfl) rfl rfl ?_
  refine wc_ld (pc' := 1336) (q := 0) (kin := 2) (v := .retAddr 1000) rfl (fun _ _ _ _ => rfl) rfl rfl ?_
  refine wc_ld (pc' := 1337) (q := 3) (kin := 0) (v := .int (nI (6 * k))) rfl (fun _ _ _ _ => rfl) rfl rfl ?_
  refine wc_ic (pc' := 1338) (w := nI 1) rfl rfl (by decide) ?_
  refine wc_addN (pc' := 1339) rfl rfl ?_
  refine wc_sld (pc' := 1340) (j := (6 * k) + 1) rfl rfl (by omega) (by omega) ?_
  refine wc_ld (pc' := 1341) (q := 0) (kin := 2) (v := .retAddr 1000) rfl (fun _ _ _ _ => rfl) rfl rfl ?_
  refine wc_ld (pc' := 1342) (q := 3) (kin := 0) (v := .int (nI (6 * k))) rfl (fun _ _ _ _ => rfl) rfl rfl ?_
  refine wc_ic (pc' := 1343) (w := nI 2) rfl rfl (by decide) ?_
  refine wc_addN (pc' := 1344) rfl rfl ?_
  refine wc_sld (pc' := 1345) (j := (6 * k) + 2) rfl rfl (by omega) (by omega) ?_
  refine wc_vir (pc' := 1348) rfl rfl (by decide) rfl rfl hm (Nat.le_of_ble_eq_true rfl) (CL_of (by decide) g2) (by omega) ?_
  show Wc _ _ 1348 _ [.int (r9), .int (r9)] _ _ _ _ _
  refine wc_icmp (t := 1700) (f := 1351) rfl rfl rfl (fun c1 => ?_) (fun c1 => ?_)
  · have c1 : ((r9)) = ((r9)) := c1
    exact kk h2 _ _ hR2 (by omega) (by omega)
  · have c1 : ¬ ((r9)) = ((r9)) := c1
    exact absurd rfl (by assumption)
-- 35: leans
set_option maxRecDepth 100000 in
theorem law_35 {Rp : aH → Prop} {L : Nat} {xs : Nat → Int32} {h : aH} {k c s : Nat} (hk : 6 * k + 6 ≤ L) (hL : L ≤ 3072) (hR : Rp h) (hs : s + 2582 ≤ 5000000) (hc : ∀ (a : Int32) (b : Int32), CaseI Rp 122 234 [.int a, .int b]) (kk : ∀ (h2 : aH) (c2 s2 : Nat), Rp h2 → c2 ≤ c + 27 → s2 ≤ s + 2582 → Wc (CL L xs (Rn 700)) 244 1700 [(0, .retAddr 1000), (1, .ref (0)), (2, .ref (71)), (3, .int (nI (6 * k)))] [] h2 c2 s2 5000000 LQ) : Wc (CL L xs (Rn 700)) 244 1353 [(0, .retAddr 1000), (1, .ref (0)), (2, .ref (71)), (3, .int (nI (6 * k)))] [] h c s 5000000 LQ := by
  refine wc_ld (pc' := 1354) (q := 1) (kin := 2) (v := .ref (0)) rfl (fun _ _ _ _ => rfl) rfl rfl ?_
  refine wc_ld (pc' := 1355) (q := 0) (kin := 2) (v := .retAddr 1000) rfl (fun _ _ _ _ => rfl) rfl rfl ?_
  refine wc_ld (pc' := 1356) (q := 3) (kin := 0) (v := .int (nI (6 * k))) rfl (fun _ _ _ _ => rfl) rfl rfl ?_
  refine wc_ic (pc' := 1357) (w := nI 1) rfl rfl (by decide) ?_
  refine wc_addN (pc' := 1358) rfl rfl ?_
  refine wc_sld (pc' := 1359) (j := (6 * k) + 1) rfl rfl (by omega) (by omega) ?_
  refine wc_ld (pc' := 1360) (q := 0) (kin := 2) (v := .retAddr 1000) rfl (fun _ _ _ _ => rfl) rfl rfl ?_
  refine wc_ld (pc' := 1361) (q := 3) (kin := 0) (v := .int (nI (6 * k))) rfl (fun _ _ _ _ => rfl) rfl rfl ?_
  refine wc_ic (pc' := 1362) (w := nI 2) rfl rfl (by decide) ?_
  refine wc_addN (pc' := 1363) rfl rfl ?_
  refine wc_sld (pc' := 1364) (j := (6 * k) + 2) rfl rfl (by omega) (by omega) ?_
  obtain ⟨r9, h1, h2, cc, ss, f0, f1, e1, e2, hx, g1, hm, g2, hR2⟩ := hc (xs ((6 * k) + 1)) (xs ((6 * k) + 2)) h hR
  refine wc_vir (pc' := 1367) rfl rfl (by decide) rfl rfl hx (Nat.le_of_ble_eq_true rfl) (CL_of (by decide) g1) (by omega) ?_
  show Wc _ _ 1367 _ [.int (r9)] _ _ _ _ _
  refine wc_ld (pc' := 1368) (q := 2) (kin := 2) (v := .ref (71)) rfl (fun _ _ _ _ => rfl) rfl rfl ?_
  refine wc_ld (pc' := 1369) (q := 0) (kin := 2) (v := .retAddr 1000) rfl (fun _ _ _ _ => rfl) rfl rfl ?_
  refine wc_ld (pc' := 1370) (q := 3) (kin := 0) (v := .int (nI (6 * k))) rfl (fun _ _ _ _ => rfl) rfl rfl ?_
  refine wc_ic (pc' := 1371) (w := nI 1) rfl rfl (by decide) ?_
  refine wc_addN (pc' := 1372) rfl rfl ?_
  refine wc_sld (pc' := 1373) (j := (6 * k) + 1) rfl rfl (by omega) (by omega) ?_
  refine wc_ld (pc' := 1374) (q := 0) (kin := 2) (v := .retAddr 1000) rfl (fun _ _ _ _ => rfl) rfl rfl ?_
  refine wc_ld (pc' := 1375) (q := 3) (kin := 0) (v := .int (nI (6 * k))) rfl (fun _ _ _ _ => rfl) rfl rfl ?_
  refine wc_ic (pc' := 1376) (w := nI 2) rfl rfl (by decide) ?_
  refine wc_addN (pc' := 1377) rfl rfl ?_
  refine wc_sld (pc' := 1378) (j := (6 * k) + 2) rfl rfl (by omega) (by omega) ?_
  refine wc_vir (pc' := 1381) rfl rfl (by decide) rfl rfl hm (Nat.le_of_ble_eq_true rfl) (CL_of (by decide) g2) (by omega) ?_
  show Wc _ _ 1381 _ [.int (r9), .int (r9)] _ _ _ _ _
  refine wc_icmp (t := 1700) (f := 1384) rfl rfl rfl (fun c1 => ?_) (fun c1 => ?_)
  · have c1 : ((r9)) = ((r9)) := c1
    exact kk h2 _ _ hR2 (by omega) (by omega)
  · have c1 : ¬ ((r9)) = ((r9)) := c1
    exact absurd rfl (by assumption)
-- 36: lean
set_option maxRecDepth 100000 in
theorem law_36 {Rp : aH → Prop} {L : Nat} {xs : Nat → Int32} {h : aH} {k c s : Nat} (hk : 6 * k + 6 ≤ L) (hL : L ≤ 3072) (hR : Rp h) (hs : s + 2582 ≤ 5000000) (hc : ∀ (a : Int32) (b : Int32), CaseI Rp 124 235 [.int a, .int b]) (kk : ∀ (h2 : aH) (c2 s2 : Nat), Rp h2 → c2 ≤ c + 27 → s2 ≤ s + 2582 → Wc (CL L xs (Rn 700)) 244 1700 [(0, .retAddr 1000), (1, .ref (0)), (2, .ref (71)), (3, .int (nI (6 * k)))] [] h2 c2 s2 5000000 LQ) : Wc (CL L xs (Rn 700)) 244 1386 [(0, .retAddr 1000), (1, .ref (0)), (2, .ref (71)), (3, .int (nI (6 * k)))] [] h c s 5000000 LQ := by
  refine wc_ld (pc' := 1387) (q := 1) (kin := 2) (v := .ref (0)) rfl (fun _ _ _ _ => rfl) rfl rfl ?_
  refine wc_ld (pc' := 1388) (q := 0) (kin := 2) (v := .retAddr 1000) rfl (fun _ _ _ _ => rfl) rfl rfl ?_
  refine wc_ld (pc' := 1389) (q := 3) (kin := 0) (v := .int (nI (6 * k))) rfl (fun _ _ _ _ => rfl) rfl rfl ?_
  refine wc_ic (pc' := 1390) (w := nI 1) rfl rfl (by decide) ?_
  refine wc_addN (pc' := 1391) rfl rfl ?_
  refine wc_sld (pc' := 1392) (j := (6 * k) + 1) rfl rfl (by omega) (by omega) ?_
  refine wc_ld (pc' := 1393) (q := 0) (kin := 2) (v := .retAddr 1000) rfl (fun _ _ _ _ => rfl) rfl rfl ?_
  refine wc_ld (pc' := 1394) (q := 3) (kin := 0) (v := .int (nI (6 * k))) rfl (fun _ _ _ _ => rfl) rfl rfl ?_
  refine wc_ic (pc' := 1395) (w := nI 2) rfl rfl (by decide) ?_
  refine wc_addN (pc' := 1396) rfl rfl ?_
  refine wc_sld (pc' := 1397) (j := (6 * k) + 2) rfl rfl (by omega) (by omega) ?_
  obtain ⟨r9, h1, h2, cc, ss, f0, f1, e1, e2, hx, g1, hm, g2, hR2⟩ := hc (xs ((6 * k) + 1)) (xs ((6 * k) + 2)) h hR
  refine wc_vir (pc' := 1400) rfl rfl (by decide) rfl rfl hx (Nat.le_of_ble_eq_true rfl) (CL_of (by decide) g1) (by omega) ?_
  show Wc _ _ 1400 _ [.int (r9)] _ _ _ _ _
  refine wc_ld (pc' := 1401) (q := 2) (kin := 2) (v := .ref (71)) rfl (fun _ _ _ _ => rfl) rfl rfl ?_
  refine wc_ld (pc' := 1402) (q := 0) (kin := 2) (v := .retAddr 1000) rfl (fun _ _ _ _ => rfl) rfl rfl ?_
  refine wc_ld (pc' := 1403) (q := 3) (kin := 0) (v := .int (nI (6 * k))) rfl (fun _ _ _ _ => rfl) rfl rfl ?_
  refine wc_ic (pc' := 1404) (w := nI 1) rfl rfl (by decide) ?_
  refine wc_addN (pc' := 1405) rfl rfl ?_
  refine wc_sld (pc' := 1406) (j := (6 * k) + 1) rfl rfl (by omega) (by omega) ?_
  refine wc_ld (pc' := 1407) (q := 0) (kin := 2) (v := .retAddr 1000) rfl (fun _ _ _ _ => rfl) rfl rfl ?_
  refine wc_ld (pc' := 1408) (q := 3) (kin := 0) (v := .int (nI (6 * k))) rfl (fun _ _ _ _ => rfl) rfl rfl ?_
  refine wc_ic (pc' := 1409) (w := nI 2) rfl rfl (by decide) ?_
  refine wc_addN (pc' := 1410) rfl rfl ?_
  refine wc_sld (pc' := 1411) (j := (6 * k) + 2) rfl rfl (by omega) (by omega) ?_
  refine wc_vir (pc' := 1414) rfl rfl (by decide) rfl rfl hm (Nat.le_of_ble_eq_true rfl) (CL_of (by decide) g2) (by omega) ?_
  show Wc _ _ 1414 _ [.int (r9), .int (r9)] _ _ _ _ _
  refine wc_icmp (t := 1700) (f := 1417) rfl rfl rfl (fun c1 => ?_) (fun c1 => ?_)
  · have c1 : ((r9)) = ((r9)) := c1
    exact kk h2 _ _ hR2 (by omega) (by omega)
  · have c1 : ¬ ((r9)) = ((r9)) := c1
    exact absurd rfl (by assumption)
-- 37: village
set_option maxRecDepth 100000 in
theorem law_37 {Rp : aH → Prop} {L : Nat} {xs : Nat → Int32} {h : aH} {k c s : Nat} (hk : 6 * k + 6 ≤ L) (hL : L ≤ 3072) (hR : Rp h) (hs : s + 2582 ≤ 5000000) (hc : ∀ (a : Int32) (b : Int32), CaseI Rp 125 236 [.int a, .int b]) (kk : ∀ (h2 : aH) (c2 s2 : Nat), Rp h2 → c2 ≤ c + 27 → s2 ≤ s + 2582 → Wc (CL L xs (Rn 700)) 244 1700 [(0, .retAddr 1000), (1, .ref (0)), (2, .ref (71)), (3, .int (nI (6 * k)))] [] h2 c2 s2 5000000 LQ) : Wc (CL L xs (Rn 700)) 244 1419 [(0, .retAddr 1000), (1, .ref (0)), (2, .ref (71)), (3, .int (nI (6 * k)))] [] h c s 5000000 LQ := by
  refine wc_ld (pc' := 1420) (q := 1) (kin := 2) (v := .ref (0)) rfl (fun _ _ _ _ => rfl) rfl rfl ?_
  refine wc_ld (pc' := 1421) (q := 0) (kin := 2) (v := .retAddr 1000) rfl (fun _ _ _ _ => rfl) rfl rfl ?_
  refine wc_ld (pc' := 1422) (q := 3) (kin := 0) (v := .int (nI (6 * k))) rfl (fun _ _ _ _ => rfl) rfl rfl ?_
  refine wc_ic (pc' := 1423) (w := nI 1) rfl rfl (by decide) ?_
  refine wc_addN (pc' := 1424) rfl rfl ?_
  refine wc_sld (pc' := 1425) (j := (6 * k) + 1) rfl rfl (by omega) (by omega) ?_
  refine wc_ld (pc' := 1426) (q := 0) (kin := 2) (v := .retAddr 1000) rfl (fun _ _ _ _ => rfl) rfl rfl ?_
  refine wc_ld (pc' := 1427) (q := 3) (kin := 0) (v := .int (nI (6 * k))) rfl (fun _ _ _ _ => rfl) rfl rfl ?_
  refine wc_ic (pc' := 1428) (w := nI 2) rfl rfl (by decide) ?_
  refine wc_addN (pc' := 1429) rfl rfl ?_
  refine wc_sld (pc' := 1430) (j := (6 * k) + 2) rfl rfl (by omega) (by omega) ?_
  obtain ⟨r9, h1, h2, cc, ss, f0, f1, e1, e2, hx, g1, hm, g2, hR2⟩ := hc (xs ((6 * k) + 1)) (xs ((6 * k) + 2)) h hR
  refine wc_vir (pc' := 1433) rfl rfl (by decide) rfl rfl hx (Nat.le_of_ble_eq_true rfl) (CL_of (by decide) g1) (by omega) ?_
  show Wc _ _ 1433 _ [.int (r9)] _ _ _ _ _
  refine wc_ld (pc' := 1434) (q := 2) (kin := 2) (v := .ref (71)) rfl (fun _ _ _ _ => rfl) rfl rfl ?_
  refine wc_ld (pc' := 1435) (q := 0) (kin := 2) (v := .retAddr 1000) rfl (fun _ _ _ _ => rfl) rfl rfl ?_
  refine wc_ld (pc' := 1436) (q := 3) (kin := 0) (v := .int (nI (6 * k))) rfl (fun _ _ _ _ => rfl) rfl rfl ?_
  refine wc_ic (pc' := 1437) (w := nI 1) rfl rfl (by decide) ?_
  refine wc_addN (pc' := 1438) rfl rfl ?_
  refine wc_sld (pc' := 1439) (j := (6 * k) + 1) rfl rfl (by omega) (by omega) ?_
  refine wc_ld (pc' := 1440) (q := 0) (kin := 2) (v := .retAddr 1000) rfl (fun _ _ _ _ => rfl) rfl rfl ?_
  refine wc_ld (pc' := 1441) (q := 3) (kin := 0) (v := .int (nI (6 * k))) rfl (fun _ _ _ _ => rfl) rfl rfl ?_
  refine wc_ic (pc' := 1442) (w := nI 2) rfl rfl (by decide) ?_
  refine wc_addN (pc' := 1443) rfl rfl ?_
  refine wc_sld (pc' := 1444) (j := (6 * k) + 2) rfl rfl (by omega) (by omega) ?_
  refine wc_vir (pc' := 1447) rfl rfl (by decide) rfl rfl hm (Nat.le_of_ble_eq_true rfl) (CL_of (by decide) g2) (by omega) ?_
  show Wc _ _ 1447 _ [.int (r9), .int (r9)] _ _ _ _ _
  refine wc_icmp (t := 1700) (f := 1450) rfl rfl rfl (fun c1 => ?_) (fun c1 => ?_)
  · have c1 : ((r9)) = ((r9)) := c1
    exact kk h2 _ _ hR2 (by omega) (by omega)
  · have c1 : ¬ ((r9)) = ((r9)) := c1
    exact absurd rfl (by assumption)
-- 38: count
set_option maxRecDepth 100000 in
theorem law_38 {Rp : aH → Prop} {L : Nat} {xs : Nat → Int32} {h : aH} {k c s : Nat} (hk : 6 * k + 6 ≤ L) (hL : L ≤ 3072) (hR : Rp h) (hs : s + 2582 ≤ 5000000) (hc : ∀ (a : Int32), CaseI Rp 126 237 [.int a]) (kk : ∀ (h2 : aH) (c2 s2 : Nat), Rp h2 → c2 ≤ c + 27 → s2 ≤ s + 2582 → Wc (CL L xs (Rn 700)) 244 1700 [(0, .retAddr 1000), (1, .ref (0)), (2, .ref (71)), (3, .int (nI (6 * k)))] [] h2 c2 s2 5000000 LQ) : Wc (CL L xs (Rn 700)) 244 1452 [(0, .retAddr 1000), (1, .ref (0)), (2, .ref (71)), (3, .int (nI (6 * k)))] [] h c s 5000000 LQ := by
  refine wc_ld (pc' := 1453) (q := 1) (kin := 2) (v := .ref (0)) rfl (fun _ _ _ _ => rfl) rfl rfl ?_
  refine wc_ld (pc' := 1454) (q := 0) (kin := 2) (v := .retAddr 1000) rfl (fun _ _ _ _ => rfl) rfl rfl ?_
  refine wc_ld (pc' := 1455) (q := 3) (kin := 0) (v := .int (nI (6 * k))) rfl (fun _ _ _ _ => rfl) rfl rfl ?_
  refine wc_ic (pc' := 1456) (w := nI 1) rfl rfl (by decide) ?_
  refine wc_addN (pc' := 1457) rfl rfl ?_
  refine wc_sld (pc' := 1458) (j := (6 * k) + 1) rfl rfl (by omega) (by omega) ?_
  obtain ⟨r9, h1, h2, cc, ss, f0, f1, e1, e2, hx, g1, hm, g2, hR2⟩ := hc (xs ((6 * k) + 1)) h hR
  refine wc_vir (pc' := 1461) rfl rfl (by decide) rfl rfl hx (Nat.le_of_ble_eq_true rfl) (CL_of (by decide) g1) (by omega) ?_
  show Wc _ _ 1461 _ [.int (r9)] _ _ _ _ _
  refine wc_ld (pc' := 1462) (q := 2) (kin := 2) (v := .ref (71)) rfl (fun _ _ _ _ => rfl) rfl rfl ?_
  refine wc_ld (pc' := 1463) (q := 0) (kin := 2) (v := .retAddr 1000) rfl (fun _ _ _ _ => rfl) rfl rfl ?_
  refine wc_ld (pc' := 1464) (q := 3) (kin := 0) (v := .int (nI (6 * k))) rfl (fun _ _ _ _ => rfl) rfl rfl ?_
  refine wc_ic (pc' := 1465) (w := nI 1) rfl rfl (by decide) ?_
  refine wc_addN (pc' := 1466) rfl rfl ?_
  refine wc_sld (pc' := 1467) (j := (6 * k) + 1) rfl rfl (by omega) (by omega) ?_
  refine wc_vir (pc' := 1470) rfl rfl (by decide) rfl rfl hm (Nat.le_of_ble_eq_true rfl) (CL_of (by decide) g2) (by omega) ?_
  show Wc _ _ 1470 _ [.int (r9), .int (r9)] _ _ _ _ _
  refine wc_icmp (t := 1700) (f := 1473) rfl rfl rfl (fun c1 => ?_) (fun c1 => ?_)
  · have c1 : ((r9)) = ((r9)) := c1
    exact kk h2 _ _ hR2 (by omega) (by omega)
  · have c1 : ¬ ((r9)) = ((r9)) := c1
    exact absurd rfl (by assumption)
-- 39: keep
set_option maxRecDepth 100000 in
theorem law_39 {Rp : aH → Prop} {L : Nat} {xs : Nat → Int32} {h : aH} {k c s : Nat} (hk : 6 * k + 6 ≤ L) (hL : L ≤ 3072) (hR : Rp h) (hs : s + 2582 ≤ 5000000) (hc : ∀ (a : Int32), CaseI Rp 128 145 [.int a]) (kk : ∀ (h2 : aH) (c2 s2 : Nat), Rp h2 → c2 ≤ c + 27 → s2 ≤ s + 2582 → Wc (CL L xs (Rn 700)) 244 1700 [(0, .retAddr 1000), (1, .ref (0)), (2, .ref (71)), (3, .int (nI (6 * k)))] [] h2 c2 s2 5000000 LQ) : Wc (CL L xs (Rn 700)) 244 1475 [(0, .retAddr 1000), (1, .ref (0)), (2, .ref (71)), (3, .int (nI (6 * k)))] [] h c s 5000000 LQ := by
  refine wc_ld (pc' := 1476) (q := 1) (kin := 2) (v := .ref (0)) rfl (fun _ _ _ _ => rfl) rfl rfl ?_
  refine wc_ld (pc' := 1477) (q := 0) (kin := 2) (v := .retAddr 1000) rfl (fun _ _ _ _ => rfl) rfl rfl ?_
  refine wc_ld (pc' := 1478) (q := 3) (kin := 0) (v := .int (nI (6 * k))) rfl (fun _ _ _ _ => rfl) rfl rfl ?_
  refine wc_ic (pc' := 1479) (w := nI 1) rfl rfl (by decide) ?_
  refine wc_addN (pc' := 1480) rfl rfl ?_
  refine wc_sld (pc' := 1481) (j := (6 * k) + 1) rfl rfl (by omega) (by omega) ?_
  obtain ⟨r9, h1, h2, cc, ss, f0, f1, e1, e2, hx, g1, hm, g2, hR2⟩ := hc (xs ((6 * k) + 1)) h hR
  refine wc_vir (pc' := 1484) rfl rfl (by decide) rfl rfl hx (Nat.le_of_ble_eq_true rfl) (CL_of (by decide) g1) (by omega) ?_
  show Wc _ _ 1484 _ [.int (r9)] _ _ _ _ _
  refine wc_ld (pc' := 1485) (q := 2) (kin := 2) (v := .ref (71)) rfl (fun _ _ _ _ => rfl) rfl rfl ?_
  refine wc_ld (pc' := 1486) (q := 0) (kin := 2) (v := .retAddr 1000) rfl (fun _ _ _ _ => rfl) rfl rfl ?_
  refine wc_ld (pc' := 1487) (q := 3) (kin := 0) (v := .int (nI (6 * k))) rfl (fun _ _ _ _ => rfl) rfl rfl ?_
  refine wc_ic (pc' := 1488) (w := nI 1) rfl rfl (by decide) ?_
  refine wc_addN (pc' := 1489) rfl rfl ?_
  refine wc_sld (pc' := 1490) (j := (6 * k) + 1) rfl rfl (by omega) (by omega) ?_
  refine wc_vir (pc' := 1493) rfl rfl (by decide) rfl rfl hm (Nat.le_of_ble_eq_true rfl) (CL_of (by decide) g2) (by omega) ?_
  show Wc _ _ 1493 _ [.int (r9), .int (r9)] _ _ _ _ _
  refine wc_icmp (t := 1700) (f := 1496) rfl rfl rfl (fun c1 => ?_) (fun c1 => ?_)
  · have c1 : ((r9)) = ((r9)) := c1
    exact kk h2 _ _ hR2 (by omega) (by omega)
  · have c1 : ¬ ((r9)) = ((r9)) := c1
    exact absurd rfl (by assumption)
-- 40: back
set_option maxRecDepth 100000 in
theorem law_40 {Rp : aH → Prop} {L : Nat} {xs : Nat → Int32} {h : aH} {k c s : Nat} (hk : 6 * k + 6 ≤ L) (hL : L ≤ 3072) (hR : Rp h) (hs : s + 2582 ≤ 5000000) (hc : ∀ (a : Int32), CaseI Rp 129 146 [.int a]) (kk : ∀ (h2 : aH) (c2 s2 : Nat), Rp h2 → c2 ≤ c + 27 → s2 ≤ s + 2582 → Wc (CL L xs (Rn 700)) 244 1700 [(0, .retAddr 1000), (1, .ref (0)), (2, .ref (71)), (3, .int (nI (6 * k)))] [] h2 c2 s2 5000000 LQ) : Wc (CL L xs (Rn 700)) 244 1498 [(0, .retAddr 1000), (1, .ref (0)), (2, .ref (71)), (3, .int (nI (6 * k)))] [] h c s 5000000 LQ := by
  refine wc_ld (pc' := 1499) (q := 1) (kin := 2) (v := .ref (0)) rfl (fun _ _ _ _ => rfl) rfl rfl ?_
  refine wc_ld (pc' := 1500) (q := 0) (kin := 2) (v := .retAddr 1000) rfl (fun _ _ _ _ => rfl) rfl rfl ?_
  refine wc_ld (pc' := 1501) (q := 3) (kin := 0) (v := .int (nI (6 * k))) rfl (fun _ _ _ _ => rfl) rfl rfl ?_
  refine wc_ic (pc' := 1502) (w := nI 1) rfl rfl (by decide) ?_
  refine wc_addN (pc' := 1503) rfl rfl ?_
  refine wc_sld (pc' := 1504) (j := (6 * k) + 1) rfl rfl (by omega) (by omega) ?_
  obtain ⟨r9, h1, h2, cc, ss, f0, f1, e1, e2, hx, g1, hm, g2, hR2⟩ := hc (xs ((6 * k) + 1)) h hR
  refine wc_vir (pc' := 1507) rfl rfl (by decide) rfl rfl hx (Nat.le_of_ble_eq_true rfl) (CL_of (by decide) g1) (by omega) ?_
  show Wc _ _ 1507 _ [.int (r9)] _ _ _ _ _
  refine wc_ld (pc' := 1508) (q := 2) (kin := 2) (v := .ref (71)) rfl (fun _ _ _ _ => rfl) rfl rfl ?_
  refine wc_ld (pc' := 1509) (q := 0) (kin := 2) (v := .retAddr 1000) rfl (fun _ _ _ _ => rfl) rfl rfl ?_
  refine wc_ld (pc' := 1510) (q := 3) (kin := 0) (v := .int (nI (6 * k))) rfl (fun _ _ _ _ => rfl) rfl rfl ?_
  refine wc_ic (pc' := 1511) (w := nI 1) rfl rfl (by decide) ?_
  refine wc_addN (pc' := 1512) rfl rfl ?_
  refine wc_sld (pc' := 1513) (j := (6 * k) + 1) rfl rfl (by omega) (by omega) ?_
  refine wc_vir (pc' := 1516) rfl rfl (by decide) rfl rfl hm (Nat.le_of_ble_eq_true rfl) (CL_of (by decide) g2) (by omega) ?_
  show Wc _ _ 1516 _ [.int (r9), .int (r9)] _ _ _ _ _
  refine wc_icmp (t := 1700) (f := 1519) rfl rfl rfl (fun c1 => ?_) (fun c1 => ?_)
  · have c1 : ((r9)) = ((r9)) := c1
    exact kk h2 _ _ hR2 (by omega) (by omega)
  · have c1 : ¬ ((r9)) = ((r9)) := c1
    exact absurd rfl (by assumption)
-- 41: row
set_option maxRecDepth 100000 in
theorem law_41 {Rp : aH → Prop} {L : Nat} {xs : Nat → Int32} {h : aH} {k c s : Nat} (hk : 6 * k + 6 ≤ L) (hL : L ≤ 3072) (hR : Rp h) (hs : s + 2582 ≤ 5000000) (hc : ∀ (a : Int32) (b : Int32) (c : Int32), CaseI Rp 130 240 [.int a, .int b, .int c]) (kk : ∀ (h2 : aH) (c2 s2 : Nat), Rp h2 → c2 ≤ c + 27 → s2 ≤ s + 2582 → Wc (CL L xs (Rn 700)) 244 1700 [(0, .retAddr 1000), (1, .ref (0)), (2, .ref (71)), (3, .int (nI (6 * k)))] [] h2 c2 s2 5000000 LQ) : Wc (CL L xs (Rn 700)) 244 1521 [(0, .retAddr 1000), (1, .ref (0)), (2, .ref (71)), (3, .int (nI (6 * k)))] [] h c s 5000000 LQ := by
  refine wc_ld (pc' := 1522) (q := 1) (kin := 2) (v := .ref (0)) rfl (fun _ _ _ _ => rfl) rfl rfl ?_
  refine wc_ld (pc' := 1523) (q := 0) (kin := 2) (v := .retAddr 1000) rfl (fun _ _ _ _ => rfl) rfl rfl ?_
  refine wc_ld (pc' := 1524) (q := 3) (kin := 0) (v := .int (nI (6 * k))) rfl (fun _ _ _ _ => rfl) rfl rfl ?_
  refine wc_ic (pc' := 1525) (w := nI 1) rfl rfl (by decide) ?_
  refine wc_addN (pc' := 1526) rfl rfl ?_
  refine wc_sld (pc' := 1527) (j := (6 * k) + 1) rfl rfl (by omega) (by omega) ?_
  refine wc_ld (pc' := 1528) (q := 0) (kin := 2) (v := .retAddr 1000) rfl (fun _ _ _ _ => rfl) rfl rfl ?_
  refine wc_ld (pc' := 1529) (q := 3) (kin := 0) (v := .int (nI (6 * k))) rfl (fun _ _ _ _ => rfl) rfl rfl ?_
  refine wc_ic (pc' := 1530) (w := nI 2) rfl rfl (by decide) ?_
  refine wc_addN (pc' := 1531) rfl rfl ?_
  refine wc_sld (pc' := 1532) (j := (6 * k) + 2) rfl rfl (by omega) (by omega) ?_
  refine wc_ld (pc' := 1533) (q := 0) (kin := 2) (v := .retAddr 1000) rfl (fun _ _ _ _ => rfl) rfl rfl ?_
  refine wc_ld (pc' := 1534) (q := 3) (kin := 0) (v := .int (nI (6 * k))) rfl (fun _ _ _ _ => rfl) rfl rfl ?_
  refine wc_ic (pc' := 1535) (w := nI 3) rfl rfl (by decide) ?_
  refine wc_addN (pc' := 1536) rfl rfl ?_
  refine wc_sld (pc' := 1537) (j := (6 * k) + 3) rfl rfl (by omega) (by omega) ?_
  obtain ⟨r9, h1, h2, cc, ss, f0, f1, e1, e2, hx, g1, hm, g2, hR2⟩ := hc (xs ((6 * k) + 1)) (xs ((6 * k) + 2)) (xs ((6 * k) + 3)) h hR
  refine wc_vir (pc' := 1540) rfl rfl (by decide) rfl rfl hx (Nat.le_of_ble_eq_true rfl) (CL_of (by decide) g1) (by omega) ?_
  show Wc _ _ 1540 _ [.int (r9)] _ _ _ _ _
  refine wc_ld (pc' := 1541) (q := 2) (kin := 2) (v := .ref (71)) rfl (fun _ _ _ _ => rfl) rfl rfl ?_
  refine wc_ld (pc' := 1542) (q := 0) (kin := 2) (v := .retAddr 1000) rfl (fun _ _ _ _ => rfl) rfl rfl ?_
  refine wc_ld (pc' := 1543) (q := 3) (kin := 0) (v := .int (nI (6 * k))) rfl (fun _ _ _ _ => rfl) rfl rfl ?_
  refine wc_ic (pc' := 1544) (w := nI 1) rfl rfl (by decide) ?_
  refine wc_addN (pc' := 1545) rfl rfl ?_
  refine wc_sld (pc' := 1546) (j := (6 * k) + 1) rfl rfl (by omega) (by omega) ?_
  refine wc_ld (pc' := 1547) (q := 0) (kin := 2) (v := .retAddr 1000) rfl (fun _ _ _ _ => rfl) rfl rfl ?_
  refine wc_ld (pc' := 1548) (q := 3) (kin := 0) (v := .int (nI (6 * k))) rfl (fun _ _ _ _ => rfl) rfl rfl ?_
  refine wc_ic (pc' := 1549) (w := nI 2) rfl rfl (by decide) ?_
  refine wc_addN (pc' := 1550) rfl rfl ?_
  refine wc_sld (pc' := 1551) (j := (6 * k) + 2) rfl rfl (by omega) (by omega) ?_
  refine wc_ld (pc' := 1552) (q := 0) (kin := 2) (v := .retAddr 1000) rfl (fun _ _ _ _ => rfl) rfl rfl ?_
  refine wc_ld (pc' := 1553) (q := 3) (kin := 0) (v := .int (nI (6 * k))) rfl (fun _ _ _ _ => rfl) rfl rfl ?_
  refine wc_ic (pc' := 1554) (w := nI 3) rfl rfl (by decide) ?_
  refine wc_addN (pc' := 1555) rfl rfl ?_
  refine wc_sld (pc' := 1556) (j := (6 * k) + 3) rfl rfl (by omega) (by omega) ?_
  refine wc_vir (pc' := 1559) rfl rfl (by decide) rfl rfl hm (Nat.le_of_ble_eq_true rfl) (CL_of (by decide) g2) (by omega) ?_
  show Wc _ _ 1559 _ [.int (r9), .int (r9)] _ _ _ _ _
  refine wc_icmp (t := 1700) (f := 1562) rfl rfl rfl (fun c1 => ?_) (fun c1 => ?_)
  · have c1 : ((r9)) = ((r9)) := c1
    exact kk h2 _ _ hR2 (by omega) (by omega)
  · have c1 : ¬ ((r9)) = ((r9)) := c1
    exact absurd rfl (by assumption)
-- 42: write
set_option maxRecDepth 100000 in
theorem law_42 {Rp : aH → Prop} {L : Nat} {xs : Nat → Int32} {h : aH} {k c s : Nat} (hk : 6 * k + 6 ≤ L) (hL : L ≤ 3072) (hR : Rp h) (hs : s + 2582 ≤ 5000000) (hc : ∀ (a : Int32) (b : Int32) (c : Int64), CaseI Rp 131 241 [.int a, .int b, .long c]) (kk : ∀ (h2 : aH) (c2 s2 : Nat), Rp h2 → c2 ≤ c + 27 → s2 ≤ s + 2582 → Wc (CL L xs (Rn 700)) 244 1700 [(0, .retAddr 1000), (1, .ref (0)), (2, .ref (71)), (3, .int (nI (6 * k)))] [] h2 c2 s2 5000000 LQ) : Wc (CL L xs (Rn 700)) 244 1564 [(0, .retAddr 1000), (1, .ref (0)), (2, .ref (71)), (3, .int (nI (6 * k)))] [] h c s 5000000 LQ := by
  refine wc_ld (pc' := 1565) (q := 1) (kin := 2) (v := .ref (0)) rfl (fun _ _ _ _ => rfl) rfl rfl ?_
  refine wc_ld (pc' := 1566) (q := 0) (kin := 2) (v := .retAddr 1000) rfl (fun _ _ _ _ => rfl) rfl rfl ?_
  refine wc_ld (pc' := 1567) (q := 3) (kin := 0) (v := .int (nI (6 * k))) rfl (fun _ _ _ _ => rfl) rfl rfl ?_
  refine wc_ic (pc' := 1568) (w := nI 1) rfl rfl (by decide) ?_
  refine wc_addN (pc' := 1569) rfl rfl ?_
  refine wc_sld (pc' := 1570) (j := (6 * k) + 1) rfl rfl (by omega) (by omega) ?_
  refine wc_ld (pc' := 1571) (q := 0) (kin := 2) (v := .retAddr 1000) rfl (fun _ _ _ _ => rfl) rfl rfl ?_
  refine wc_ld (pc' := 1572) (q := 3) (kin := 0) (v := .int (nI (6 * k))) rfl (fun _ _ _ _ => rfl) rfl rfl ?_
  refine wc_ic (pc' := 1573) (w := nI 2) rfl rfl (by decide) ?_
  refine wc_addN (pc' := 1574) rfl rfl ?_
  refine wc_sld (pc' := 1575) (j := (6 * k) + 2) rfl rfl (by omega) (by omega) ?_
  refine wc_ld (pc' := 1576) (q := 0) (kin := 2) (v := .retAddr 1000) rfl (fun _ _ _ _ => rfl) rfl rfl ?_
  refine wc_ld (pc' := 1577) (q := 3) (kin := 0) (v := .int (nI (6 * k))) rfl (fun _ _ _ _ => rfl) rfl rfl ?_
  refine wc_ic (pc' := 1578) (w := nI 3) rfl rfl (by decide) ?_
  refine wc_addN (pc' := 1579) rfl rfl ?_
  refine wc_sld (pc' := 1580) (j := (6 * k) + 3) rfl rfl (by omega) (by omega) ?_
  refine wc_pu (pc' := 1581) (st' := [.long (Int32.toInt64 (xs ((6 * k) + 3))), .int (xs ((6 * k) + 2)), .int (xs ((6 * k) + 1)), .ref (0)]) rfl (fun _ _ _ _ => rfl) rfl rfl ?_
  refine wc_bp (pc' := 1583) (w := nI 32) rfl rfl (by decide) ?_
  refine wc_pu (pc' := 1584) (st' := [.long ((Int32.toInt64 (xs ((6 * k) + 3))) <<< (((nI (32))).toInt64 &&& 63)), .int (xs ((6 * k) + 2)), .int (xs ((6 * k) + 1)), .ref (0)]) rfl (fun _ _ _ _ => rfl) rfl rfl ?_
  refine wc_ld (pc' := 1585) (q := 0) (kin := 2) (v := .retAddr 1000) rfl (fun _ _ _ _ => rfl) rfl rfl ?_
  refine wc_ld (pc' := 1586) (q := 3) (kin := 0) (v := .int (nI (6 * k))) rfl (fun _ _ _ _ => rfl) rfl rfl ?_
  refine wc_ic (pc' := 1587) (w := nI 4) rfl rfl (by decide) ?_
  refine wc_addN (pc' := 1588) rfl rfl ?_
  refine wc_sld (pc' := 1589) (j := (6 * k) + 4) rfl rfl (by omega) (by omega) ?_
  refine wc_pu (pc' := 1590) (st' := [.long (Int32.toInt64 (xs ((6 * k) + 4))), .long ((Int32.toInt64 (xs ((6 * k) + 3))) <<< (((nI (32))).toInt64 &&& 63)), .int (xs ((6 * k) + 2)), .int (xs ((6 * k) + 1)), .ref (0)]) rfl (fun _ _ _ _ => rfl) rfl rfl ?_
  refine wc_go (pc' := 1593) (lv' := [(0, .retAddr 1000), (1, .ref (0)), (2, .ref (71)), (3, .int (nI (6 * k)))]) (st' := [.long (4294967295), .long (Int32.toInt64 (xs ((6 * k) + 4))), .long ((Int32.toInt64 (xs ((6 * k) + 3))) <<< (((nI (32))).toInt64 &&& 63)), .int (xs ((6 * k) + 2)), .int (xs ((6 * k) + 1)), .ref (0)]) rfl (fun _ _ _ _ k9 => k9) ?_
  refine wc_pu (pc' := 1594) (st' := [.long ((Int32.toInt64 (xs ((6 * k) + 4))) &&& (4294967295)), .long ((Int32.toInt64 (xs ((6 * k) + 3))) <<< (((nI (32))).toInt64 &&& 63)), .int (xs ((6 * k) + 2)), .int (xs ((6 * k) + 1)), .ref (0)]) rfl (fun _ _ _ _ => rfl) rfl rfl ?_
  refine wc_pu (pc' := 1595) (st' := [.long (((Int32.toInt64 (xs ((6 * k) + 3))) <<< (((nI (32))).toInt64 &&& 63)) ||| ((Int32.toInt64 (xs ((6 * k) + 4))) &&& (4294967295))), .int (xs ((6 * k) + 2)), .int (xs ((6 * k) + 1)), .ref (0)]) rfl (fun _ _ _ _ => rfl) rfl rfl ?_
  obtain ⟨r9, h1, h2, cc, ss, f0, f1, e1, e2, hx, g1, hm, g2, hR2⟩ := hc (xs ((6 * k) + 1)) (xs ((6 * k) + 2)) (((Int32.toInt64 (xs ((6 * k) + 3))) <<< (((nI (32))).toInt64 &&& 63)) ||| ((Int32.toInt64 (xs ((6 * k) + 4))) &&& (4294967295))) h hR
  refine wc_vir (pc' := 1598) rfl rfl (by decide) rfl rfl hx (Nat.le_of_ble_eq_true rfl) (CL_of (by decide) g1) (by omega) ?_
  show Wc _ _ 1598 _ [.int (r9)] _ _ _ _ _
  refine wc_ld (pc' := 1599) (q := 2) (kin := 2) (v := .ref (71)) rfl (fun _ _ _ _ => rfl) rfl rfl ?_
  refine wc_ld (pc' := 1600) (q := 0) (kin := 2) (v := .retAddr 1000) rfl (fun _ _ _ _ => rfl) rfl rfl ?_
  refine wc_ld (pc' := 1601) (q := 3) (kin := 0) (v := .int (nI (6 * k))) rfl (fun _ _ _ _ => rfl) rfl rfl ?_
  refine wc_ic (pc' := 1602) (w := nI 1) rfl rfl (by decide) ?_
  refine wc_addN (pc' := 1603) rfl rfl ?_
  refine wc_sld (pc' := 1604) (j := (6 * k) + 1) rfl rfl (by omega) (by omega) ?_
  refine wc_ld (pc' := 1605) (q := 0) (kin := 2) (v := .retAddr 1000) rfl (fun _ _ _ _ => rfl) rfl rfl ?_
  refine wc_ld (pc' := 1606) (q := 3) (kin := 0) (v := .int (nI (6 * k))) rfl (fun _ _ _ _ => rfl) rfl rfl ?_
  refine wc_ic (pc' := 1607) (w := nI 2) rfl rfl (by decide) ?_
  refine wc_addN (pc' := 1608) rfl rfl ?_
  refine wc_sld (pc' := 1609) (j := (6 * k) + 2) rfl rfl (by omega) (by omega) ?_
  refine wc_ld (pc' := 1610) (q := 0) (kin := 2) (v := .retAddr 1000) rfl (fun _ _ _ _ => rfl) rfl rfl ?_
  refine wc_ld (pc' := 1611) (q := 3) (kin := 0) (v := .int (nI (6 * k))) rfl (fun _ _ _ _ => rfl) rfl rfl ?_
  refine wc_ic (pc' := 1612) (w := nI 3) rfl rfl (by decide) ?_
  refine wc_addN (pc' := 1613) rfl rfl ?_
  refine wc_sld (pc' := 1614) (j := (6 * k) + 3) rfl rfl (by omega) (by omega) ?_
  refine wc_pu (pc' := 1615) (st' := [.long (Int32.toInt64 (xs ((6 * k) + 3))), .int (xs ((6 * k) + 2)), .int (xs ((6 * k) + 1)), .ref (71), .int (r9)]) rfl (fun _ _ _ _ => rfl) rfl rfl ?_
  refine wc_bp (pc' := 1617) (w := nI 32) rfl rfl (by decide) ?_
  refine wc_pu (pc' := 1618) (st' := [.long ((Int32.toInt64 (xs ((6 * k) + 3))) <<< (((nI (32))).toInt64 &&& 63)), .int (xs ((6 * k) + 2)), .int (xs ((6 * k) + 1)), .ref (71), .int (r9)]) rfl (fun _ _ _ _ => rfl) rfl rfl ?_
  refine wc_ld (pc' := 1619) (q := 0) (kin := 2) (v := .retAddr 1000) rfl (fun _ _ _ _ => rfl) rfl rfl ?_
  refine wc_ld (pc' := 1620) (q := 3) (kin := 0) (v := .int (nI (6 * k))) rfl (fun _ _ _ _ => rfl) rfl rfl ?_
  refine wc_ic (pc' := 1621) (w := nI 4) rfl rfl (by decide) ?_
  refine wc_addN (pc' := 1622) rfl rfl ?_
  refine wc_sld (pc' := 1623) (j := (6 * k) + 4) rfl rfl (by omega) (by omega) ?_
  refine wc_pu (pc' := 1624) (st' := [.long (Int32.toInt64 (xs ((6 * k) + 4))), .long ((Int32.toInt64 (xs ((6 * k) + 3))) <<< (((nI (32))).toInt64 &&& 63)), .int (xs ((6 * k) + 2)), .int (xs ((6 * k) + 1)), .ref (71), .int (r9)]) rfl (fun _ _ _ _ => rfl) rfl rfl ?_
  refine wc_go (pc' := 1627) (lv' := [(0, .retAddr 1000), (1, .ref (0)), (2, .ref (71)), (3, .int (nI (6 * k)))]) (st' := [.long (4294967295), .long (Int32.toInt64 (xs ((6 * k) + 4))), .long ((Int32.toInt64 (xs ((6 * k) + 3))) <<< (((nI (32))).toInt64 &&& 63)), .int (xs ((6 * k) + 2)), .int (xs ((6 * k) + 1)), .ref (71), .int (r9)]) rfl (fun _ _ _ _ k9 => k9) ?_
  refine wc_pu (pc' := 1628) (st' := [.long ((Int32.toInt64 (xs ((6 * k) + 4))) &&& (4294967295)), .long ((Int32.toInt64 (xs ((6 * k) + 3))) <<< (((nI (32))).toInt64 &&& 63)), .int (xs ((6 * k) + 2)), .int (xs ((6 * k) + 1)), .ref (71), .int (r9)]) rfl (fun _ _ _ _ => rfl) rfl rfl ?_
  refine wc_pu (pc' := 1629) (st' := [.long (((Int32.toInt64 (xs ((6 * k) + 3))) <<< (((nI (32))).toInt64 &&& 63)) ||| ((Int32.toInt64 (xs ((6 * k) + 4))) &&& (4294967295))), .int (xs ((6 * k) + 2)), .int (xs ((6 * k) + 1)), .ref (71), .int (r9)]) rfl (fun _ _ _ _ => rfl) rfl rfl ?_
  refine wc_vir (pc' := 1632) rfl rfl (by decide) rfl rfl hm (Nat.le_of_ble_eq_true rfl) (CL_of (by decide) g2) (by omega) ?_
  show Wc _ _ 1632 _ [.int (r9), .int (r9)] _ _ _ _ _
  refine wc_icmp (t := 1700) (f := 1635) rfl rfl rfl (fun c1 => ?_) (fun c1 => ?_)
  · have c1 : ((r9)) = ((r9)) := c1
    exact kk h2 _ _ hR2 (by omega) (by omega)
  · have c1 : ¬ ((r9)) = ((r9)) := c1
    exact absurd rfl (by assumption)
-- 43: paste
set_option maxRecDepth 100000 in
theorem law_43 {Rp : aH → Prop} {L : Nat} {xs : Nat → Int32} {h : aH} {k c s : Nat} (hk : 6 * k + 6 ≤ L) (hL : L ≤ 3072) (hR : Rp h) (hs : s + 2582 ≤ 5000000) (hc : ∀ (a : Int32) (b : Int32) (c : Int32) (d : Int32) (e : Int32), CaseI Rp 132 242 [.int a, .int b, .int c, .int d, .int e]) (kk : ∀ (h2 : aH) (c2 s2 : Nat), Rp h2 → c2 ≤ c + 27 → s2 ≤ s + 2582 → Wc (CL L xs (Rn 700)) 244 1700 [(0, .retAddr 1000), (1, .ref (0)), (2, .ref (71)), (3, .int (nI (6 * k)))] [] h2 c2 s2 5000000 LQ) : Wc (CL L xs (Rn 700)) 244 1637 [(0, .retAddr 1000), (1, .ref (0)), (2, .ref (71)), (3, .int (nI (6 * k)))] [] h c s 5000000 LQ := by
  refine wc_ld (pc' := 1638) (q := 1) (kin := 2) (v := .ref (0)) rfl (fun _ _ _ _ => rfl) rfl rfl ?_
  refine wc_ld (pc' := 1639) (q := 0) (kin := 2) (v := .retAddr 1000) rfl (fun _ _ _ _ => rfl) rfl rfl ?_
  refine wc_ld (pc' := 1640) (q := 3) (kin := 0) (v := .int (nI (6 * k))) rfl (fun _ _ _ _ => rfl) rfl rfl ?_
  refine wc_ic (pc' := 1641) (w := nI 1) rfl rfl (by decide) ?_
  refine wc_addN (pc' := 1642) rfl rfl ?_
  refine wc_sld (pc' := 1643) (j := (6 * k) + 1) rfl rfl (by omega) (by omega) ?_
  refine wc_ld (pc' := 1644) (q := 0) (kin := 2) (v := .retAddr 1000) rfl (fun _ _ _ _ => rfl) rfl rfl ?_
  refine wc_ld (pc' := 1645) (q := 3) (kin := 0) (v := .int (nI (6 * k))) rfl (fun _ _ _ _ => rfl) rfl rfl ?_
  refine wc_ic (pc' := 1646) (w := nI 2) rfl rfl (by decide) ?_
  refine wc_addN (pc' := 1647) rfl rfl ?_
  refine wc_sld (pc' := 1648) (j := (6 * k) + 2) rfl rfl (by omega) (by omega) ?_
  refine wc_ld (pc' := 1649) (q := 0) (kin := 2) (v := .retAddr 1000) rfl (fun _ _ _ _ => rfl) rfl rfl ?_
  refine wc_ld (pc' := 1650) (q := 3) (kin := 0) (v := .int (nI (6 * k))) rfl (fun _ _ _ _ => rfl) rfl rfl ?_
  refine wc_ic (pc' := 1651) (w := nI 3) rfl rfl (by decide) ?_
  refine wc_addN (pc' := 1652) rfl rfl ?_
  refine wc_sld (pc' := 1653) (j := (6 * k) + 3) rfl rfl (by omega) (by omega) ?_
  refine wc_ld (pc' := 1654) (q := 0) (kin := 2) (v := .retAddr 1000) rfl (fun _ _ _ _ => rfl) rfl rfl ?_
  refine wc_ld (pc' := 1655) (q := 3) (kin := 0) (v := .int (nI (6 * k))) rfl (fun _ _ _ _ => rfl) rfl rfl ?_
  refine wc_ic (pc' := 1656) (w := nI 4) rfl rfl (by decide) ?_
  refine wc_addN (pc' := 1657) rfl rfl ?_
  refine wc_sld (pc' := 1658) (j := (6 * k) + 4) rfl rfl (by omega) (by omega) ?_
  refine wc_ld (pc' := 1659) (q := 0) (kin := 2) (v := .retAddr 1000) rfl (fun _ _ _ _ => rfl) rfl rfl ?_
  refine wc_ld (pc' := 1660) (q := 3) (kin := 0) (v := .int (nI (6 * k))) rfl (fun _ _ _ _ => rfl) rfl rfl ?_
  refine wc_ic (pc' := 1661) (w := nI 5) rfl rfl (by decide) ?_
  refine wc_addN (pc' := 1662) rfl rfl ?_
  refine wc_sld (pc' := 1663) (j := (6 * k) + 5) rfl rfl (by omega) (by omega) ?_
  obtain ⟨r9, h1, h2, cc, ss, f0, f1, e1, e2, hx, g1, hm, g2, hR2⟩ := hc (xs ((6 * k) + 1)) (xs ((6 * k) + 2)) (xs ((6 * k) + 3)) (xs ((6 * k) + 4)) (xs ((6 * k) + 5)) h hR
  refine wc_vir (pc' := 1666) rfl rfl (by decide) rfl rfl hx (Nat.le_of_ble_eq_true rfl) (CL_of (by decide) g1) (by omega) ?_
  show Wc _ _ 1666 _ [.int (r9)] _ _ _ _ _
  refine wc_ld (pc' := 1667) (q := 2) (kin := 2) (v := .ref (71)) rfl (fun _ _ _ _ => rfl) rfl rfl ?_
  refine wc_ld (pc' := 1668) (q := 0) (kin := 2) (v := .retAddr 1000) rfl (fun _ _ _ _ => rfl) rfl rfl ?_
  refine wc_ld (pc' := 1669) (q := 3) (kin := 0) (v := .int (nI (6 * k))) rfl (fun _ _ _ _ => rfl) rfl rfl ?_
  refine wc_ic (pc' := 1670) (w := nI 1) rfl rfl (by decide) ?_
  refine wc_addN (pc' := 1671) rfl rfl ?_
  refine wc_sld (pc' := 1672) (j := (6 * k) + 1) rfl rfl (by omega) (by omega) ?_
  refine wc_ld (pc' := 1673) (q := 0) (kin := 2) (v := .retAddr 1000) rfl (fun _ _ _ _ => rfl) rfl rfl ?_
  refine wc_ld (pc' := 1674) (q := 3) (kin := 0) (v := .int (nI (6 * k))) rfl (fun _ _ _ _ => rfl) rfl rfl ?_
  refine wc_ic (pc' := 1675) (w := nI 2) rfl rfl (by decide) ?_
  refine wc_addN (pc' := 1676) rfl rfl ?_
  refine wc_sld (pc' := 1677) (j := (6 * k) + 2) rfl rfl (by omega) (by omega) ?_
  refine wc_ld (pc' := 1678) (q := 0) (kin := 2) (v := .retAddr 1000) rfl (fun _ _ _ _ => rfl) rfl rfl ?_
  refine wc_ld (pc' := 1679) (q := 3) (kin := 0) (v := .int (nI (6 * k))) rfl (fun _ _ _ _ => rfl) rfl rfl ?_
  refine wc_ic (pc' := 1680) (w := nI 3) rfl rfl (by decide) ?_
  refine wc_addN (pc' := 1681) rfl rfl ?_
  refine wc_sld (pc' := 1682) (j := (6 * k) + 3) rfl rfl (by omega) (by omega) ?_
  refine wc_ld (pc' := 1683) (q := 0) (kin := 2) (v := .retAddr 1000) rfl (fun _ _ _ _ => rfl) rfl rfl ?_
  refine wc_ld (pc' := 1684) (q := 3) (kin := 0) (v := .int (nI (6 * k))) rfl (fun _ _ _ _ => rfl) rfl rfl ?_
  refine wc_ic (pc' := 1685) (w := nI 4) rfl rfl (by decide) ?_
  refine wc_addN (pc' := 1686) rfl rfl ?_
  refine wc_sld (pc' := 1687) (j := (6 * k) + 4) rfl rfl (by omega) (by omega) ?_
  refine wc_ld (pc' := 1688) (q := 0) (kin := 2) (v := .retAddr 1000) rfl (fun _ _ _ _ => rfl) rfl rfl ?_
  refine wc_ld (pc' := 1689) (q := 3) (kin := 0) (v := .int (nI (6 * k))) rfl (fun _ _ _ _ => rfl) rfl rfl ?_
  refine wc_ic (pc' := 1690) (w := nI 5) rfl rfl (by decide) ?_
  refine wc_addN (pc' := 1691) rfl rfl ?_
  refine wc_sld (pc' := 1692) (j := (6 * k) + 5) rfl rfl (by omega) (by omega) ?_
  refine wc_vir (pc' := 1695) rfl rfl (by decide) rfl rfl hm (Nat.le_of_ble_eq_true rfl) (CL_of (by decide) g2) (by omega) ?_
  show Wc _ _ 1695 _ [.int (r9), .int (r9)] _ _ _ _ _
  refine wc_icmp (t := 1700) (f := 1698) rfl rfl rfl (fun c1 => ?_) (fun c1 => ?_)
  · have c1 : ((r9)) = ((r9)) := c1
    exact kk h2 _ _ hR2 (by omega) (by omega)
  · have c1 : ¬ ((r9)) = ((r9)) := c1
    exact absurd rfl (by assumption)
set_option maxHeartbeats 8000000 in
set_option maxRecDepth 100000 in
theorem law_loop {Rp : aH → Prop} (k0 : ∀ (a : Int32) (b : Int32) (c : Int32) (d : Int32) (e : Int32), CaseI Rp 65 155 [.int a, .int b, .int c, .int d, .int e]) (k1 : ∀ (a : Int32), CaseI Rp 67 156 [.int a]) (k2 : CaseI Rp 68 173 []) (k3 : ∀ (a : Int32), CaseI Rp 69 165 [.int a]) (k4 : ∀ (a : Int32) (b : Int32) (c : Int32), CaseI Rp 70 182 [.int a, .int b, .int c]) (k5 : ∀ (a : Int32) (b : Int32) (c : Int32), CaseI Rp 71 183 [.int a, .int b, .int c]) (k6 : ∀ (a : Int32) (b : Int32), CaseI Rp 72 186 [.int a, .int b]) (k7 : ∀ (a : Int32) (b : Int32), CaseI Rp 75 188 [.int a, .int b]) (k8 : ∀ (a : Int32), CaseI Rp 78 189 [.int a]) (k9 : ∀ (a : Int32) (b : Int32), CaseI Rp 79 190 [.int a, .int b]) (k10 : ∀ (a : Int32) (b : Int32), CaseI Rp 80 192 [.int a, .int b]) (k11 : ∀ (a : Int32) (b : Int32) (c : Int32), CaseI Rp 81 193 [.int a, .int b, .int c]) (k12 : ∀ (a : Int32) (b : Int32) (c : Int32), CaseI Rp 83 194 [.int a, .int b, .int c]) (k13 : ∀ (a : Int32), CaseI Rp 84 195 [.int a]) (k14 : ∀ (a : Int32) (b : Int32) (c : Int32), CaseL Rp 85 197 [.int a, .int b, .int c]) (k15 : ∀ (a : Int32), CaseI Rp 87 201 [.int a]) (k16 : ∀ (a : Int32) (b : Int32), CaseI Rp 88 202 [.int a, .int b]) (k17 : ∀ (a : Int32) (b : Int32) (c : Prop), CaseI Rp 92 205 [.int a, .int b, .int (bI c)]) (k18 : ∀ (a : Int32), CaseI Rp 94 206 [.int a]) (k19 : CaseI Rp 95 207 []) (k20 : ∀ (a : Int32), CaseI Rp 96 208 [.int a]) (k21 : ∀ (a : Int32) (b : Int32), CaseI Rp 99 211 [.int a, .int b]) (k22 : ∀ (a : Int32), CaseI Rp 100 213 [.int a]) (k23 : ∀ (a : Int32), CaseI Rp 102 214 [.int a]) (k24 : ∀ (a : Int32), CaseI Rp 103 215 [.int a]) (k25 : ∀ (a : Int32), CaseI Rp 106 216 [.int a]) (k26 : ∀ (a : Int32) (b : Int32), CaseI Rp 107 217 [.int a, .int b]) (k27 : ∀ (a : Int32) (b : Int32) (c : Int32) (d : Int32), CaseI Rp 109 220 [.int a, .int b, .int c, .int d]) (k28 : ∀ (a : Int32) (b : Int32) (c : Int32), CaseI Rp 110 221 [.int a, .int b, .int c]) (k29 : ∀ (a : Int32) (b : Int32), CaseI Rp 111 223 [.int a, .int b]) (k30 : ∀ (a : Int32) (b : Int32), CaseI Rp 112 224 [.int a, .int b]) (k31 : ∀ (a : Int32) (b : Prop), CaseL Rp 113 226 [.int a, .int (bI b)]) (k32 : CaseI Rp 117 229 []) (k33 : ∀ (a : Int32), CaseI Rp 118 230 [.int a]) (k34 : ∀ (a : Int32) (b : Int32), CaseI Rp 121 231 [.int a, .int b]) (k35 : ∀ (a : Int32) (b : Int32), CaseI Rp 122 234 [.int a, .int b]) (k36 : ∀ (a : Int32) (b : Int32), CaseI Rp 124 235 [.int a, .int b]) (k37 : ∀ (a : Int32) (b : Int32), CaseI Rp 125 236 [.int a, .int b]) (k38 : ∀ (a : Int32), CaseI Rp 126 237 [.int a]) (k39 : ∀ (a : Int32), CaseI Rp 128 145 [.int a]) (k40 : ∀ (a : Int32), CaseI Rp 129 146 [.int a]) (k41 : ∀ (a : Int32) (b : Int32) (c : Int32), CaseI Rp 130 240 [.int a, .int b, .int c]) (k42 : ∀ (a : Int32) (b : Int32) (c : Int64), CaseI Rp 131 241 [.int a, .int b, .long c]) (k43 : ∀ (a : Int32) (b : Int32) (c : Int32) (d : Int32) (e : Int32), CaseI Rp 132 242 [.int a, .int b, .int c, .int d, .int e]) {L : Nat} {xs : Nat → Int32} (hL : L ≤ 3072) : ∀ (n k : Nat) (h : aH) (c s : Nat), L + 6 ≤ 6 * k + 6 * n → 6 * k ≤ L → Rp h → c ≤ 85 + 27 * k → s ≤ 65399 + 2582 * k → Wc (CL L xs (Rn 700)) 244 18 [(0, .retAddr 1000), (1, .ref (0)), (2, .ref (71)), (3, .int (nI (6 * k)))] [] h c s 5000000 LQ := by
  intro n
  induction n with
  | zero => intro k h c s h1 h2; exfalso; omega
  | succ n ih =>
    intro k h c s h1 h2 hR hc hs
    refine wc_ld (pc' := 19) (q := 3) (kin := 0) (v := .int (nI (6 * k))) rfl (fun _ _ _ _ => rfl) rfl rfl ?_
    refine wc_ld (pc' := 20) (q := 0) (kin := 2) (v := .retAddr 1000) rfl (fun _ _ _ _ => rfl) rfl rfl ?_
    refine wc_slen (pc' := 21) rfl rfl ?_
    refine wc_bp (pc' := 23) (w := nI 6) rfl rfl (by decide) ?_
    refine wc_pu (pc' := 24) (st' := [.int ((nI (L)) - (nI (6))), .int (nI (6 * k))]) rfl (fun _ _ _ _ => rfl) rfl rfl ?_
    have e1 : (nI L - nI 6).toInt = (L : Int) - 6 := pk_sub_toInt (by omega) (by decide)
    have e2 : (nI (6 * k)).toInt = ((6 * k : Nat) : Int) := nI_toInt (by omega)
    refine wc_icmp (t := 1706) (f := 27) rfl rfl rfl (fun q => ?_) (fun q => ?_)
    · refine wc_ic (pc' := 1707) (w := nI 1) rfl rfl (by decide) ?_
      exact wc_iret (ty := .boolean) rfl rfl (by decide) ⟨rfl, by omega⟩
    · have q : nI (6 * k) ≤ nI L - nI 6 := q
      have hk : 6 * k + 6 ≤ L := by
        have := Int32.le_iff_toInt_le.mp q
        omega
      refine wc_ld (pc' := 28) (q := 0) (kin := 2) (v := .retAddr 1000) rfl (fun _ _ _ _ => rfl) rfl rfl ?_
      refine wc_ld (pc' := 29) (q := 3) (kin := 0) (v := .int (nI (6 * k))) rfl (fun _ _ _ _ => rfl) rfl rfl ?_
      refine wc_sld (pc' := 30) (j := 6 * k) rfl rfl (by omega) (by omega) ?_
      refine wc_bp (pc' := 32) (w := nI 63) rfl rfl (by decide) ?_
      refine wc_pu (pc' := 33) (st' := [.int ((xs (6 * k)) &&& (nI (63)))]) rfl (fun _ _ _ _ => rfl) rfl rfl ?_
      obtain ⟨v, hv, ev⟩ := pk_andE (xs (6 * k)) (m := nI 63) 6 (by decide)
      rw [ev]
      have kk : ∀ (h2 : aH) (c2 s2 : Nat), Rp h2 → c2 ≤ c + 27 → s2 ≤ s + 2582 → Wc (CL L xs (Rn 700)) 244 1700 [(0, .retAddr 1000), (1, .ref (0)), (2, .ref (71)), (3, .int (nI (6 * k)))] [] h2 c2 s2 5000000 LQ := by
        intro h2 c2 s2 r2 b1 b2
        refine wc_incN (n := 6) (pc' := 1703) (lv' := [(0, .retAddr 1000), (1, .ref (0)), (2, .ref (71)), (3, .int (nI (6 * k + 6)))]) rfl rfl rfl (Nat.le_of_ble_eq_true rfl) rfl (by decide) ?_
        refine wc_jp (pc' := 18) rfl rfl ?_
        have := ih (k + 1) h2 c2 s2 (by omega) (by omega) r2 (by omega) (by omega)
        rw [show 6 * (k + 1) = 6 * k + 6 by omega] at this
        exact this
      match v, hv with
      | 0, _ => exact wc_tsw (off := 191) (pc' := 224) rfl (by decide +kernel) (by decide) rfl (law_0 hk hL hR (by omega) k0 kk)
      | 1, _ => exact wc_tsw (off := 254) (pc' := 287) rfl (by decide +kernel) (by decide) rfl (law_1 hk hL hR (by omega) k1 kk)
      | 2, _ => exact wc_tsw (off := 277) (pc' := 310) rfl (by decide +kernel) (by decide) rfl (law_2 hk hL hR (by omega) k2 kk)
      | 3, _ => exact wc_tsw (off := 290) (pc' := 323) rfl (by decide +kernel) (by decide) rfl (law_3 hk hL hR (by omega) k3 kk)
      | 4, _ => exact wc_tsw (off := 313) (pc' := 346) rfl (by decide +kernel) (by decide) rfl (law_4 hk hL hR (by omega) k4 kk)
      | 5, _ => exact wc_tsw (off := 356) (pc' := 389) rfl (by decide +kernel) (by decide) rfl (law_5 hk hL hR (by omega) k5 kk)
      | 6, _ => exact wc_tsw (off := 399) (pc' := 432) rfl (by decide +kernel) (by decide) rfl (law_6 hk hL hR (by omega) k6 kk)
      | 7, _ => exact wc_tsw (off := 432) (pc' := 465) rfl (by decide +kernel) (by decide) rfl (law_7 hk hL hR (by omega) k7 kk)
      | 8, _ => exact wc_tsw (off := 465) (pc' := 498) rfl (by decide +kernel) (by decide) rfl (law_8 hk hL hR (by omega) k8 kk)
      | 9, _ => exact wc_tsw (off := 488) (pc' := 521) rfl (by decide +kernel) (by decide) rfl (law_9 hk hL hR (by omega) k9 kk)
      | 10, _ => exact wc_tsw (off := 521) (pc' := 554) rfl (by decide +kernel) (by decide) rfl (law_10 hk hL hR (by omega) k10 kk)
      | 11, _ => exact wc_tsw (off := 554) (pc' := 587) rfl (by decide +kernel) (by decide) rfl (law_11 hk hL hR (by omega) k11 kk)
      | 12, _ => exact wc_tsw (off := 597) (pc' := 630) rfl (by decide +kernel) (by decide) rfl (law_12 hk hL hR (by omega) k12 kk)
      | 13, _ => exact wc_tsw (off := 640) (pc' := 673) rfl (by decide +kernel) (by decide) rfl (law_13 hk hL hR (by omega) k13 kk)
      | 14, _ => exact wc_tsw (off := 663) (pc' := 696) rfl (by decide +kernel) (by decide) rfl (law_14 hk hL hR (by omega) k14 kk)
      | 15, _ => exact wc_tsw (off := 707) (pc' := 740) rfl (by decide +kernel) (by decide) rfl (law_15 hk hL hR (by omega) k15 kk)
      | 16, _ => exact wc_tsw (off := 730) (pc' := 763) rfl (by decide +kernel) (by decide) rfl (law_16 hk hL hR (by omega) k16 kk)
      | 17, _ => exact wc_tsw (off := 763) (pc' := 796) rfl (by decide +kernel) (by decide) rfl (law_17 hk hL hR (by omega) k17 kk)
      | 18, _ => exact wc_tsw (off := 822) (pc' := 855) rfl (by decide +kernel) (by decide) rfl (law_18 hk hL hR (by omega) k18 kk)
      | 19, _ => exact wc_tsw (off := 845) (pc' := 878) rfl (by decide +kernel) (by decide) rfl (law_19 hk hL hR (by omega) k19 kk)
      | 20, _ => exact wc_tsw (off := 858) (pc' := 891) rfl (by decide +kernel) (by decide) rfl (law_20 hk hL hR (by omega) k20 kk)
      | 21, _ => exact wc_tsw (off := 881) (pc' := 914) rfl (by decide +kernel) (by decide) rfl (law_21 hk hL hR (by omega) k21 kk)
      | 22, _ => exact wc_tsw (off := 914) (pc' := 947) rfl (by decide +kernel) (by decide) rfl (law_22 hk hL hR (by omega) k22 kk)
      | 23, _ => exact wc_tsw (off := 937) (pc' := 970) rfl (by decide +kernel) (by decide) rfl (law_23 hk hL hR (by omega) k23 kk)
      | 24, _ => exact wc_tsw (off := 960) (pc' := 993) rfl (by decide +kernel) (by decide) rfl (law_24 hk hL hR (by omega) k24 kk)
      | 25, _ => exact wc_tsw (off := 983) (pc' := 1016) rfl (by decide +kernel) (by decide) rfl (law_25 hk hL hR (by omega) k25 kk)
      | 26, _ => exact wc_tsw (off := 1006) (pc' := 1039) rfl (by decide +kernel) (by decide) rfl (law_26 hk hL hR (by omega) k26 kk)
      | 27, _ => exact wc_tsw (off := 1039) (pc' := 1072) rfl (by decide +kernel) (by decide) rfl (law_27 hk hL hR (by omega) k27 kk)
      | 28, _ => exact wc_tsw (off := 1092) (pc' := 1125) rfl (by decide +kernel) (by decide) rfl (law_28 hk hL hR (by omega) k28 kk)
      | 29, _ => exact wc_tsw (off := 1135) (pc' := 1168) rfl (by decide +kernel) (by decide) rfl (law_29 hk hL hR (by omega) k29 kk)
      | 30, _ => exact wc_tsw (off := 1168) (pc' := 1201) rfl (by decide +kernel) (by decide) rfl (law_30 hk hL hR (by omega) k30 kk)
      | 31, _ => exact wc_tsw (off := 1201) (pc' := 1234) rfl (by decide +kernel) (by decide) rfl (law_31 hk hL hR (by omega) k31 kk)
      | 32, _ => exact wc_tsw (off := 1251) (pc' := 1284) rfl (by decide +kernel) (by decide) rfl (law_32 hk hL hR (by omega) k32 kk)
      | 33, _ => exact wc_tsw (off := 1264) (pc' := 1297) rfl (by decide +kernel) (by decide) rfl (law_33 hk hL hR (by omega) k33 kk)
      | 34, _ => exact wc_tsw (off := 1287) (pc' := 1320) rfl (by decide +kernel) (by decide) rfl (law_34 hk hL hR (by omega) k34 kk)
      | 35, _ => exact wc_tsw (off := 1320) (pc' := 1353) rfl (by decide +kernel) (by decide) rfl (law_35 hk hL hR (by omega) k35 kk)
      | 36, _ => exact wc_tsw (off := 1353) (pc' := 1386) rfl (by decide +kernel) (by decide) rfl (law_36 hk hL hR (by omega) k36 kk)
      | 37, _ => exact wc_tsw (off := 1386) (pc' := 1419) rfl (by decide +kernel) (by decide) rfl (law_37 hk hL hR (by omega) k37 kk)
      | 38, _ => exact wc_tsw (off := 1419) (pc' := 1452) rfl (by decide +kernel) (by decide) rfl (law_38 hk hL hR (by omega) k38 kk)
      | 39, _ => exact wc_tsw (off := 1442) (pc' := 1475) rfl (by decide +kernel) (by decide) rfl (law_39 hk hL hR (by omega) k39 kk)
      | 40, _ => exact wc_tsw (off := 1465) (pc' := 1498) rfl (by decide +kernel) (by decide) rfl (law_40 hk hL hR (by omega) k40 kk)
      | 41, _ => exact wc_tsw (off := 1488) (pc' := 1521) rfl (by decide +kernel) (by decide) rfl (law_41 hk hL hR (by omega) k41 kk)
      | 42, _ => exact wc_tsw (off := 1531) (pc' := 1564) rfl (by decide +kernel) (by decide) rfl (law_42 hk hL hR (by omega) k42 kk)
      | 43, _ => exact wc_tsw (off := 1604) (pc' := 1637) rfl (by decide +kernel) (by decide) rfl (law_43 hk hL hR (by omega) k43 kk)
      | v + 44, hv =>
        refine wc_tsw (off := 1667) (pc' := 1700) rfl ?_ (by decide) rfl (kk h c s hR (by omega) (by omega))
        unfold swOff
        rw [if_pos (Or.inr (by rw [nI_toInt (by omega)]; omega))]
theorem law_of {Rp : aH → Prop} (hI : ∃ h1 h2 : aH, Rn 700 64 [.ref 0] [.inr (8, dfl 8)] none h1 70 21402 ∧ h1.length = 71 ∧ Rn 700 144 [.ref 71] (h1 ++ [.inr (9, dfl 9)]) none h2 13 43960 ∧ Rp h2) (k0 : ∀ (a : Int32) (b : Int32) (c : Int32) (d : Int32) (e : Int32), CaseI Rp 65 155 [.int a, .int b, .int c, .int d, .int e]) (k1 : ∀ (a : Int32), CaseI Rp 67 156 [.int a]) (k2 : CaseI Rp 68 173 []) (k3 : ∀ (a : Int32), CaseI Rp 69 165 [.int a]) (k4 : ∀ (a : Int32) (b : Int32) (c : Int32), CaseI Rp 70 182 [.int a, .int b, .int c]) (k5 : ∀ (a : Int32) (b : Int32) (c : Int32), CaseI Rp 71 183 [.int a, .int b, .int c]) (k6 : ∀ (a : Int32) (b : Int32), CaseI Rp 72 186 [.int a, .int b]) (k7 : ∀ (a : Int32) (b : Int32), CaseI Rp 75 188 [.int a, .int b]) (k8 : ∀ (a : Int32), CaseI Rp 78 189 [.int a]) (k9 : ∀ (a : Int32) (b : Int32), CaseI Rp 79 190 [.int a, .int b]) (k10 : ∀ (a : Int32) (b : Int32), CaseI Rp 80 192 [.int a, .int b]) (k11 : ∀ (a : Int32) (b : Int32) (c : Int32), CaseI Rp 81 193 [.int a, .int b, .int c]) (k12 : ∀ (a : Int32) (b : Int32) (c : Int32), CaseI Rp 83 194 [.int a, .int b, .int c]) (k13 : ∀ (a : Int32), CaseI Rp 84 195 [.int a]) (k14 : ∀ (a : Int32) (b : Int32) (c : Int32), CaseL Rp 85 197 [.int a, .int b, .int c]) (k15 : ∀ (a : Int32), CaseI Rp 87 201 [.int a]) (k16 : ∀ (a : Int32) (b : Int32), CaseI Rp 88 202 [.int a, .int b]) (k17 : ∀ (a : Int32) (b : Int32) (c : Prop), CaseI Rp 92 205 [.int a, .int b, .int (bI c)]) (k18 : ∀ (a : Int32), CaseI Rp 94 206 [.int a]) (k19 : CaseI Rp 95 207 []) (k20 : ∀ (a : Int32), CaseI Rp 96 208 [.int a]) (k21 : ∀ (a : Int32) (b : Int32), CaseI Rp 99 211 [.int a, .int b]) (k22 : ∀ (a : Int32), CaseI Rp 100 213 [.int a]) (k23 : ∀ (a : Int32), CaseI Rp 102 214 [.int a]) (k24 : ∀ (a : Int32), CaseI Rp 103 215 [.int a]) (k25 : ∀ (a : Int32), CaseI Rp 106 216 [.int a]) (k26 : ∀ (a : Int32) (b : Int32), CaseI Rp 107 217 [.int a, .int b]) (k27 : ∀ (a : Int32) (b : Int32) (c : Int32) (d : Int32), CaseI Rp 109 220 [.int a, .int b, .int c, .int d]) (k28 : ∀ (a : Int32) (b : Int32) (c : Int32), CaseI Rp 110 221 [.int a, .int b, .int c]) (k29 : ∀ (a : Int32) (b : Int32), CaseI Rp 111 223 [.int a, .int b]) (k30 : ∀ (a : Int32) (b : Int32), CaseI Rp 112 224 [.int a, .int b]) (k31 : ∀ (a : Int32) (b : Prop), CaseL Rp 113 226 [.int a, .int (bI b)]) (k32 : CaseI Rp 117 229 []) (k33 : ∀ (a : Int32), CaseI Rp 118 230 [.int a]) (k34 : ∀ (a : Int32) (b : Int32), CaseI Rp 121 231 [.int a, .int b]) (k35 : ∀ (a : Int32) (b : Int32), CaseI Rp 122 234 [.int a, .int b]) (k36 : ∀ (a : Int32) (b : Int32), CaseI Rp 124 235 [.int a, .int b]) (k37 : ∀ (a : Int32) (b : Int32), CaseI Rp 125 236 [.int a, .int b]) (k38 : ∀ (a : Int32), CaseI Rp 126 237 [.int a]) (k39 : ∀ (a : Int32), CaseI Rp 128 145 [.int a]) (k40 : ∀ (a : Int32), CaseI Rp 129 146 [.int a]) (k41 : ∀ (a : Int32) (b : Int32) (c : Int32), CaseI Rp 130 240 [.int a, .int b, .int c]) (k42 : ∀ (a : Int32) (b : Int32) (c : Int64), CaseI Rp 131 241 [.int a, .int b, .long c]) (k43 : ∀ (a : Int32) (b : Int32) (c : Int32) (d : Int32) (e : Int32), CaseI Rp 132 242 [.int a, .int b, .int c, .int d, .int e]) : LawRuns := by
  intro L xs hL
  obtain ⟨h1, h2, g1, g2, g3, hR⟩ := hI
  have key : Wc (CL L xs (Rn 700)) 244 0 [(0, .retAddr 1000)] [] [] 0 0 5000000 LQ := by
    refine wc_new (pc' := 3) rfl rfl (by decide) (by decide) ?_
    refine wc_pu (pc' := 4) (st' := [.ref 0, .ref 0]) rfl (fun _ _ _ _ => rfl) rfl rfl ?_
    refine wc_spe (pc' := 7) (As := []) (k := 0) (r := [.ref 0]) rfl rfl (by decide) rfl rfl (Nat.le_of_ble_eq_true rfl) (CL_of (by decide) g1) (by decide) ?_
    refine wc_st (pc' := 8) (q := 1) (kin := 2) (lv' := [(0, .retAddr 1000), (1, .ref 0)]) rfl (fun _ _ _ _ => rfl) rfl (Nat.le_of_ble_eq_true rfl) rfl ?_
    refine wc_new (pc' := 11) rfl rfl (by decide) (by decide) ?_
    rw [g2]
    refine wc_pu (pc' := 12) (st' := [.ref 71, .ref 71]) rfl (fun _ _ _ _ => rfl) rfl rfl ?_
    refine wc_spe (pc' := 15) (As := []) (k := 71) (r := [.ref 71]) rfl rfl (by decide) rfl rfl (Nat.le_of_ble_eq_true rfl) (CL_of (by decide) g3) (by decide) ?_
    refine wc_st (pc' := 16) (q := 2) (kin := 2) (lv' := [(0, .retAddr 1000), (1, .ref 0), (2, .ref 71)]) rfl (fun _ _ _ _ => rfl) rfl (Nat.le_of_ble_eq_true rfl) rfl ?_
    refine wc_ic (pc' := 17) (w := nI (6 * 0)) rfl rfl (by decide) ?_
    refine wc_st (pc' := 18) (q := 3) (kin := 0) (lv' := [(0, .retAddr 1000), (1, .ref 0), (2, .ref 71), (3, .int (nI (6 * 0)))]) rfl (fun _ _ _ _ => rfl) rfl (Nat.le_of_ble_eq_true rfl) rfl ?_
    exact law_loop k0 k1 k2 k3 k4 k5 k6 k7 k8 k9 k10 k11 k12 k13 k14 k15 k16 k17 k18 k19 k20 k21 k22 k23 k24 k25 k26 k27 k28 k29 k30 k31 k32 k33 k34 k35 k36 k37 k38 k39 k40 k41 k42 k43 hL (L + 1) 0 h2 _ _ (by omega) (by omega) hR (by decide) (by decide)
  obtain ⟨n, r, h9, cT, hc, hE, rfl, h600⟩ := key
  exact ⟨n, h9, cT, 5000000, h600, Nat.le_refl _, hE⟩
