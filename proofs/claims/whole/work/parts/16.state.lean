/-! WHAT STANDS BETWEEN TWO CALLS: the reference's rows (w: its world, ..) and the class's objects over them -/
def isO (h : aH) (k ci : Nat) (fs : List Value) : Prop := h[k]? = some (.inr (ci, fs))
def isI (h : aH) (k n : Nat) (f : Nat → Int32) : Prop := h[k]? = some (.inl (0, n, .inl f))
def isB (h : aH) (k n : Nat) (f : Nat → Int32) : Prop := h[k]? = some (.inl (1, n, .inl f))
def isZ (h : aH) (k n : Nat) (f : Nat → Int32) : Prop := h[k]? = some (.inl (2, n, .inl f))
def isJ (h : aH) (k n : Nat) (f : Nat → Int64) : Prop := h[k]? = some (.inl (3, n, .inr (.inl f)))
def isA (h : aH) (t k n : Nat) (f : Nat → Option Nat) : Prop := h[k]? = some (.inl (t, n, .inr (.inr (.inr (.inr f)))))
def nvW (w : Nat → Int32) : Nat := (w 1).toNatClampNeg
def nrW (w : Nat → Int32) : Nat := (w 2).toNatClampNeg
def ntW (w : Nat → Int32) : Nat := (w 3).toNatClampNeg
def nlW (w : Nat → Int32) : Nat := (w 4).toNatClampNeg
def npW (w : Nat → Int32) : Nat := (w 5).toNatClampNeg
def rdA (w : Nat → Int32) (r : Nat) : Nat := (w (56 + 3 * r)).toNatClampNeg
def rdB (w : Nat → Int32) (r : Nat) : Nat := (w (57 + 3 * r)).toNatClampNeg
def vaW (w : Nat → Int32) (i : Nat) : Nat := (w (176 + 4 * i)).toNatClampNeg
/-- a number of the world that is -1 or below n -/
def m1 (x : Int32) (n : Nat) : Prop := x = -1 ∨ ∃ a, a < n ∧ x = nI a
def b01 (x : Int32) : Prop := x = 0 ∨ x = 1
/-- the world is of a LAND: counts, roads, items, what is told, heard, noted, walked -/
def WfA (w : Nat → Int32) : Prop := (∃ n, n ≤ 1200 ∧ w 0 = nI n) ∧ (w 1 = nI (nvW w) ∧ nvW w ≤ 24) ∧ (w 2 = nI (nrW w) ∧ nrW w ≤ 40) ∧ (w 3 = nI (ntW w) ∧ ntW w ≤ 10) ∧ (w 4 = nI (nlW w) ∧ nlW w ≤ 20) ∧ (w 5 = nI (npW w) ∧ npW w ≤ 240)
def WfV (w : Nat → Int32) : Prop := ∀ v, v < nvW w → (∃ n, 1 ≤ n ∧ n ≤ 99 ∧ w (8 + 2 * v) = nI n) ∧ m1 (w (9 + 2 * v)) 6
def WfR (w : Nat → Int32) : Prop := ∀ r, r < nrW w → (w (56 + 3 * r) = nI (rdA w r) ∧ rdA w r < nvW w) ∧ (w (57 + 3 * r) = nI (rdB w r) ∧ rdB w r < nvW w) ∧ rdA w r ≠ rdB w r ∧ b01 (w (58 + 3 * r))
def WfI (w : Nat → Int32) : Prop := ∀ i, i < ntW w → (w (176 + 4 * i) = nI (vaW w i) ∧ 2 ≤ vaW w i ∧ vaW w i ≤ 5) ∧ (∃ a, a < vaW w i ∧ w (177 + 4 * i) = nI a) ∧ m1 (w (178 + 4 * i)) (vaW w i) ∧ b01 (w (179 + 4 * i))
def WfT (w : Nat → Int32) : Prop := (∀ v i, v < nvW w → i < ntW w → m1 (w (216 + 10 * v + i)) (vaW w i)) ∧ ∀ p, p < 1200 → ∃ a, a ≤ 9 ∧ w (1476 + p) = nI a
/-- a LAW: of an item, two variants, a sign; its parts from b on, q the first of the second sum, e behind the last -/
def lwB (w : Nat → Int32) (l : Nat) : Nat := (w (460 + 6 * l)).toNatClampNeg
def lwE (w : Nat → Int32) (l : Nat) : Nat := lwB w l + (w (461 + 6 * l)).toNatClampNeg
def lwI (w : Nat → Int32) (l : Nat) : Nat := (w (456 + 6 * l)).toNatClampNeg
def WfL (w : Nat → Int32) (sec : Nat → Nat) : Prop := ∀ l, l < nlW w → (w (456 + 6 * l) = nI (lwI w l) ∧ lwI w l < ntW w) ∧ (∃ a, a < vaW w (lwI w l) ∧ w (457 + 6 * l) = nI a) ∧ (∃ a, a < vaW w (lwI w l) ∧ w (458 + 6 * l) = nI a) ∧ (∃ a, a < 3 ∧ w (459 + 6 * l) = nI a) ∧ w (460 + 6 * l) = nI (lwB w l) ∧ w (461 + 6 * l) = nI (lwE w l - lwB w l) ∧ lwB w l < sec l ∧ sec l < lwE w l ∧ lwE w l ≤ npW w ∧ w (576 + 3 * sec l) = 4 ∧ w (576 + 3 * lwB w l) = 0 ∧
  ∀ k, lwB w l < k → k < lwE w l → k ≠ sec l → ∃ a, 1 ≤ a ∧ a ≤ 3 ∧ w (576 + 3 * k) = nI a
def WfP (w : Nat → Int32) : Prop := ∀ k, k < npW w → (∃ a, a ≤ 4 ∧ w (577 + 3 * k) = nI a) ∧ ∃ a, a ≤ 999 ∧ w (578 + 3 * k) = nI a ∧ ((w (577 + 3 * k) = 1 ∨ w (577 + 3 * k) = 2) → a < 5)
def WfW (w : Nat → Int32) : Prop := WfA w ∧ WfV w ∧ WfR w ∧ WfI w ∧ WfT w ∧ (∃ sec, WfL w sec) ∧ WfP w
/-- the class's LAND at q (with its laws 20 cells) is the world's -/
def LandR (h : aH) (q : Nat) (w : Nat → Int32) : Prop := ∃ sz rf rt rv ag vr sd tl : Nat → Int32, isO h q 0 [.int (w 0), .int (w 1), .int (w 2), .int (w 3), .ref (q + 1), .ref (q + 2), .ref (q + 3), .ref (q + 4), .ref (q + 5), .ref (q + 6), .ref (q + 7), .ref (q + 8), .ref (q + 9)] ∧
  isI h (q + 1) 24 sz ∧ isI h (q + 2) 40 rf ∧ isI h (q + 3) 40 rt ∧ isZ h (q + 4) 40 rv ∧ isZ h (q + 5) 40 ag ∧ isI h (q + 6) 10 vr ∧ isI h (q + 7) 10 sd ∧ isI h (q + 8) 240 tl ∧
  (∀ v, v < nvW w → sz v = w (8 + 2 * v)) ∧ (∀ r, r < nrW w → rf r = w (56 + 3 * r) ∧ rt r = w (57 + 3 * r) ∧ rv r = w (58 + 3 * r) ∧ (ag r = bI (∃ r', r' < r ∧ ((rdA w r' = rdA w r ∧ rdB w r' = rdB w r) ∨ (rdA w r' = rdB w r ∧ rdB w r' = rdA w r))))) ∧ (∀ r, r < 40 → b01 (rv r) ∧ b01 (ag r)) ∧
  (∀ i, i < ntW w → vr i = w (176 + 4 * i) ∧ sd i = w (177 + 4 * i)) ∧ (∀ p, p < 240 → tl p = w (216 + p))
def LawsR (h : aH) (q : Nat) (w : Nat → Int32) : Prop := ∃ (sec : Nat → Nat) (it fi se sg ls rs rp pj pk pv : Nat → Int32), WfL w sec ∧ isO h q 1 [.int (w 4), .ref (q + 1), .ref (q + 2), .ref (q + 3), .ref (q + 4), .ref (q + 5), .ref (q + 6), .ref (q + 7), .int (w 5), .ref (q + 8), .ref (q + 9), .ref (q + 10)] ∧
  isI h (q + 1) 20 it ∧ isI h (q + 2) 20 fi ∧ isI h (q + 3) 20 se ∧ isI h (q + 4) 20 sg ∧ isI h (q + 5) 20 ls ∧ isI h (q + 6) 20 rs ∧ isI h (q + 7) 20 rp ∧ isI h (q + 8) 240 pj ∧ isI h (q + 9) 240 pk ∧ isI h (q + 10) 240 pv ∧
  (∀ l, l < nlW w → it l = w (456 + 6 * l) ∧ fi l = w (457 + 6 * l) ∧ se l = w (458 + 6 * l) ∧ sg l = w (459 + 6 * l) ∧ ls l = nI (lwB w l) ∧ rs l = nI (sec l) ∧ rp l = nI (lwE w l)) ∧
  (∀ k, k < npW w → pj k = (if w (576 + 3 * k) = 4 then 0 else w (576 + 3 * k)) ∧ pk k = w (577 + 3 * k) ∧ pv k = w (578 + 3 * k))
/-- how many ITEMS are heard, how many answers noted -/
def hdN (w : Nat → Int32) : Nat → Nat
  | 0 => 0
  | i + 1 => hdN w i + (if w (178 + 4 * i) = -1 then 0 else 1)
def ntS (w : Nat → Int32) : Nat → Nat
  | 0 => 0
  | p + 1 => ntS w p + (w (1476 + p)).toNatClampNeg
def VoiceR (h : aH) (q : Nat) (w : Nat → Int32) : Prop := ∃ hv hc : Nat → Int32, isO h q 7 [.int (nI (hdN w (ntW w))), .ref (q + 1), .ref (q + 2)] ∧ isI h (q + 1) 10 hv ∧ isZ h (q + 2) 10 hc ∧ (∀ i, i < 10 → hv i = (if i < ntW w then w (178 + 4 * i) else -1) ∧ b01 (hc i)) ∧ ∀ i, i < ntW w → w (178 + 4 * i) ≠ -1 → hc i = w (179 + 4 * i)
def NotesR (h : aH) (q : Nat) (w : Nat → Int32) : Prop := ∃ an wk : Nat → Int32, isO h q 2 [.int (nI (ntS w 1200)), .ref (q + 1), .ref (q + 2)] ∧ isI h (q + 1) 1200 an ∧ isI h (q + 2) 24 wk ∧ (∀ p, p < 1200 → an p = w (1476 + p)) ∧ ∀ v, v < 24 → wk v = (if v < nvW w then w (9 + 2 * v) else -1)
/-- THE MAP, pure: S v i is what village v says for item i -/
noncomputable def dI (p : Prop) : Nat := @ite Nat p (Classical.propDecidable p) 1 0
noncomputable def frst (p : Nat → Prop) : Nat → Option Nat
  | 0 => none
  | n + 1 => match frst p n with
    | some k => some k
    | none => @ite (Option Nat) (p n) (Classical.propDecidable (p n)) (some n) none
def othW (w : Nat → Int32) (r v : Nat) : Option Nat := if rdA w r = v then some (rdB w r) else if rdB w r = v then some (rdA w r) else none
def szW (w : Nat → Int32) (v : Nat) : Nat := (w (8 + 2 * v)).toNatClampNeg
noncomputable def neW (w : Nat → Int32) (S : Nat → Nat → Nat) (v i a : Nat) : Nat → Nat
  | 0 => 0
  | r + 1 => neW w S v i a r + dI (∃ o, othW w r v = some o ∧ S o i = a)
noncomputable def msW (w : Nat → Int32) (S : Nat → Nat → Nat) (v i a : Nat) : Nat → Nat
  | 0 => 0
  | r + 1 => msW w S v i a r + (match othW w r v with
    | some o => dI (S o i = a ∧ ∀ r', r' < r → othW w r' v ≠ some o) * szW w o
    | none => 0)
noncomputable def ptW (w : Nat → Int32) (S : Nat → Nat → Nat) (y v i k : Nat) : Nat := match (w (577 + 3 * k)).toNatClampNeg with
  | 0 => (w (578 + 3 * k)).toNatClampNeg
  | 1 => neW w S v i (w (578 + 3 * k)).toNatClampNeg (nrW w)
  | 2 => msW w S v i (w (578 + 3 * k)).toNatClampNeg (nrW w)
  | 3 => szW w v
  | _ => y
/-- a SUM's parts from k on, n of them: what is summed up, the sign and the product that stand; none: beyond 1,000,000,000 -/
def wkW (jn : Nat → Int32) (vl : Nat → Nat) : Nat → Nat → Int → Int → Int → Option (Int × Int × Int)
  | 0, _, t, g, p => some (t, g, p)
  | n + 1, k, t, g, p => if jn k = 3 then (if p * vl k > 1000000000 then none else wkW jn vl n (k + 1) t g (p * vl k)) else (if t + g * p > 1000000000 ∨ t + g * p < -1000000000 then none else wkW jn vl n (k + 1) (t + g * p) (if jn k = 2 then -1 else 1) (vl k))
def smW (jn : Nat → Int32) (vl : Nat → Nat) (b e : Nat) : Option Int := match wkW jn vl (e - b) b 0 1 0 with
  | none => none
  | some (t, g, p) => if t + g * p > 1000000000 ∨ t + g * p < -1000000000 then none else some (t + g * p)
def cmW (g : Int32) (a b : Int) : Prop := if g = 0 then b < a else if g = 1 then a < b else a = b
noncomputable def secW (w : Nat → Int32) (l : Nat) : Nat := match frst (fun k => lwB w l < k ∧ w (576 + 3 * k) = 4) (lwE w l) with
  | some k => k
  | none => 0
noncomputable def hoW (w : Nat → Int32) (S : Nat → Nat → Nat) (y v i l : Nat) : Prop := ∃ a b, smW (fun k => w (576 + 3 * k)) (ptW w S y v i) (lwB w l) (secW w l) = some a ∧ smW (fun k => w (576 + 3 * k)) (ptW w S y v i) (secW w l) (lwE w l) = some b ∧ cmW (w (459 + 6 * l)) a b
noncomputable def lfW (w : Nat → Int32) (S : Nat → Nat → Nat) (y v i : Nat) : Option Nat := frst (fun l => lwI w l = i ∧ w (457 + 6 * l) = nI (S v i) ∧ hoW w S y v i l) (nlW w)
noncomputable def sdW (w : Nat → Int32) : Nat → Nat → Nat → Nat
  | 0, v, i => (w (216 + 10 * v + i)).toNatClampNeg
  | y + 1, v, i => match lfW w (sdW w y) y v i with
    | some l => (w (458 + 6 * l)).toNatClampNeg
    | none => sdW w y v i
noncomputable def laW (w : Nat → Int32) (y v i : Nat) : Option Nat := lfW w (sdW w y) y v i
def oI (x : Option Nat) : Int32 := match x with
  | some k => nI k
  | none => -1
noncomputable def stW (w : Nat → Int32) (i : Nat) : Nat → Nat
  | 0 => 0
  | r + 1 => @ite Nat (∃ v, v < nvW w ∧ laW w r v i ≠ none) (Classical.propDecidable _) (r + 1) (stW w i r)
/-- the reference's map, as far as it is laid -/
def LaidM (w : Nat → Int32) (il : Int32) (sa9 tn : Nat → Int32) : Prop := il = 0 ∨ (il = 1 ∧ (∀ y v i, y ≤ 60 → v < nvW w → i < ntW w → sa9 ((y * 24 + v) * 10 + i) = nI (sdW w y v i)) ∧ ∀ y v i, y < 60 → v < nvW w → i < ntW w → tn ((y * 24 + v) * 10 + i) = oI (laW w y v i))
/-- the reference: world, tape and how long, images and which there are, fault, rows of the slots; the rest is scratch -/
def RepM (h : aH) (w tp : Nat → Int32) (tl : Nat) (im hi : Nat → Int32) (fk fp : Int32) (mn wd : Nat → Int32) (nu : Nat → Int64) : Prop := ∃ (th sz at9 fr tk vl il : Int32) (up lo : Int64) (fv fs sa9 tn le : Nat → Int32) (mv : Nat → Int64),
  isO h 71 9 (MoF th (nI tl) sz at9 fr tk vl fk fp il up lo) ∧ isI h 72 2676 w ∧ isI h 73 8028 im ∧ isZ h 74 3 hi ∧ isB h 75 1200 tp ∧ isI h 76 5 fv ∧ isI h 77 2676 fs ∧ isI h 78 14640 sa9 ∧ isI h 79 14400 tn ∧ isI h 80 24 le ∧ isI h 81 4 mn ∧ isI h 82 4 wd ∧ isJ h 83 240 nu ∧ isJ h 84 60 mv ∧ LaidM w il sa9 tn
def SpreadR (h : aH) (q : Nat) (w : Nat → Int32) : Prop := ∃ re stl vr ne ms : Nat → Int32, isO h 52 6 [.ref q, .ref 53, .ref 54, .ref 55, .ref 56, .ref 57] ∧ isI h 53 10 re ∧ isI h 54 10 stl ∧ isB h 55 14640 vr ∧ isI h 56 120 ne ∧ isI h 57 120 ms ∧
  ∀ i, i < 10 → (re i = -1 ∧ stl i = 0) ∨ ∃ r, r ≤ 60 ∧ i < ntW w ∧ re i = nI r ∧ stl i = nI (stW w i r) ∧ ∀ y v, y ≤ r → v < nvW w → vr ((i * 61 + y) * 24 + v) = nI (sdW w y v i)
def SceneR (h : aH) (q qL qV qN : Nat) (w : Nat → Int32) : Prop := isO h q 4 [.ref qL, .ref qV, .ref qN] ∧ LandR h qL w ∧ LawsR h (qL + 9) w ∧ VoiceR h qV w ∧ NotesR h qN w
/-- a spare LAND: its cells are there -/
def LandS (h : aH) (q : Nat) : Prop := ∃ (x0 x1 x2 x3 x4 x5 : Int32) (sz rf rt rv ag vr sd tl it fi se sg ls rs rp pj pk pv : Nat → Int32), isO h q 0 [.int x0, .int x1, .int x2, .int x3, .ref (q + 1), .ref (q + 2), .ref (q + 3), .ref (q + 4), .ref (q + 5), .ref (q + 6), .ref (q + 7), .ref (q + 8), .ref (q + 9)] ∧
  isI h (q + 1) 24 sz ∧ isI h (q + 2) 40 rf ∧ isI h (q + 3) 40 rt ∧ isZ h (q + 4) 40 rv ∧ isZ h (q + 5) 40 ag ∧ isI h (q + 6) 10 vr ∧ isI h (q + 7) 10 sd ∧ isI h (q + 8) 240 tl ∧ (∀ r, r < 40 → b01 (rv r) ∧ b01 (ag r)) ∧
  isO h (q + 9) 1 [.int x4, .ref (q + 10), .ref (q + 11), .ref (q + 12), .ref (q + 13), .ref (q + 14), .ref (q + 15), .ref (q + 16), .int x5, .ref (q + 17), .ref (q + 18), .ref (q + 19)] ∧
  isI h (q + 10) 20 it ∧ isI h (q + 11) 20 fi ∧ isI h (q + 12) 20 se ∧ isI h (q + 13) 20 sg ∧ isI h (q + 14) 20 ls ∧ isI h (q + 15) 20 rs ∧ isI h (q + 16) 20 rp ∧ isI h (q + 17) 240 pj ∧ isI h (q + 18) 240 pk ∧ isI h (q + 19) 240 pv
/-- the class over the same: ls the LAND in use, lr the spare one -/
def RepC (h : aH) (w tp : Nat → Int32) (tl : Nat) (im hi : Nat → Int32) (fk fp : Int32) (mn wd : Nat → Int32) (nu : Nat → Int64) : Prop := ∃ (ls lr : Nat) (ct bu lb ft ta un : Nat → Int32) (ln k9 s9 a9 n9 : Int32) (ig sg : Nat → Option Nat),
  ((ls = 24 ∧ lr = 3) ∨ (ls = 3 ∧ lr = 24)) ∧ isO h 0 8 [.ref 1, .int (nI tl), .ref 2, .ref 23, .ref 50, .ref 51, .ref 52, .ref 58, .ref 59, .ref 60, .ref 61, .ref 62] ∧ isB h 1 1200 ct ∧ (∀ p, p < 1200 → ct p = tp p) ∧ isO h 2 3 [.int fk, .int fp, .ref lr, .ref 1, .int ln, .int k9, .int s9, .int a9, .int n9] ∧ LandS h lr ∧ SceneR h 23 ls 44 47 w ∧ SpreadR h ls w ∧
  isI h 58 40 bu ∧ isI h 59 24 lb ∧ isI h 60 24 ft ∧ isI h 61 5 ta ∧ isZ h 62 1024 un ∧
  isA h 4 50 3 ig ∧ (∀ k, k < 3 → (hi k = 0 ∧ ig k = none) ∨ (hi k = 1 ∧ ∃ q, ig k = some q ∧ 85 ≤ q ∧ SceneR h q (q + 1) (q + 21) (q + 24) (fun p => im (2676 * k + p)) ∧ WfW (fun p => im (2676 * k + p)))) ∧ (∀ k k' q q', k < 3 → k' < 3 → k ≠ k' → ig k = some q → ig k' = some q' → q + 27 ≤ q' ∨ q' + 27 ≤ q) ∧
  isA h 5 51 4 sg ∧ ∀ k, k < 4 → sg k = some (63 + 2 * k) ∧ isO h (63 + 2 * k) 5 [.int (wd k), .int (mn k), .ref (64 + 2 * k)] ∧ ∃ nm : Nat → Int64, isJ h (64 + 2 * k) 60 nm ∧ ∀ p, p < 60 → nm p = nu (60 * k + p)
def WfS (tp : Nat → Int32) (tl : Nat) (mn wd : Nat → Int32) : Prop := tl ≤ 1200 ∧ (∀ p, p < 1200 → (tp p).toInt8.toInt32 = tp p) ∧ ∀ k, k < 4 → (m1 (mn k) 61) ∧ ∃ a, a < 4 ∧ wd k = nI a
def Rp (h : aH) : Prop := ∃ (w tp : Nat → Int32) (tl : Nat) (im hi : Nat → Int32) (fk fp : Int32) (mn wd : Nat → Int32) (nu : Nat → Int64), WfW w ∧ WfS tp tl mn wd ∧ RepM h w tp tl im hi fk fp mn wd nu ∧ RepC h w tp tl im hi fk fp mn wd nu
/-- a call of the reference touches its own cells alone; one of the class leaves the reference's -/
def FrM (h h' : aH) : Prop := h'.length = h.length ∧ ∀ k, k < 71 ∨ 85 ≤ k → h'[k]? = h[k]?
def FrC (h h' : aH) : Prop := h.length ≤ h'.length ∧ ∀ k, 71 ≤ k → k < 85 → h'[k]? = h[k]?
/-- a case of the law: the class's call, then the reference's, answer alike, and what stood between them stands again -/
def CaseI (Rp : aH → Prop) (jx jm : Nat) (As : List Value) : Prop := ∀ h, Rp h → ∃ (r : Int32) (h1 h2 : aH) (cc ss : Nat) (f0 f1 : List Value), cc ≤ 27 ∧ ss ≤ 2582 ∧ h[0]? = some (.inr (8, f0)) ∧ Rn 700 jx (.ref 0 :: As) h (some (.int r)) h1 cc ss ∧ h1[71]? = some (.inr (9, f1)) ∧ Rn 700 jm (.ref 71 :: As) h1 (some (.int r)) h2 0 0 ∧ Rp h2
def CaseL (Rp : aH → Prop) (jx jm : Nat) (As : List Value) : Prop := ∀ h, Rp h → ∃ (r : Int64) (h1 h2 : aH) (cc ss : Nat) (f0 f1 : List Value), cc ≤ 27 ∧ ss ≤ 2582 ∧ h[0]? = some (.inr (8, f0)) ∧ Rn 700 jx (.ref 0 :: As) h (some (.long r)) h1 cc ss ∧ h1[71]? = some (.inr (9, f1)) ∧ Rn 700 jm (.ref 71 :: As) h1 (some (.long r)) h2 0 0 ∧ Rp h2
