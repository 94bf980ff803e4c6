/-! WHAT A TEXT WITHOUT A FAULT GIVES -/
section GD
variable {t : Nat → Int32} {n : Nat}
theorem pI_i {c : Prop} {a b : PR} {x : Nat × (Nat → Int32)} (h : pI c a b = .inr x) : (c ∧ a = .inr x) ∨ (¬ c ∧ b = .inr x) := by
  by_cases q : c
  · rw [pI_t q] at h; exact Or.inl ⟨q, h⟩
  · rw [pI_f q] at h; exact Or.inr ⟨q, h⟩
theorem pI_n {c : Prop} {a : PR} {e : Nat × Nat} {x : Nat × (Nat → Int32)} (h : pI c a (.inl e) = .inr x) : c ∧ a = .inr x := by
  rcases pI_i h with q | ⟨_, q⟩
  · exact q
  · cases q
theorem pI_m {c : Prop} {b : PR} {e : Nat × Nat} {x : Nat × (Nat → Int32)} (h : pI c (.inl e) b = .inr x) : ¬ c ∧ b = .inr x := by
  rcases pI_i h with ⟨_, q⟩ | q
  · cases q
  · exact q
theorem pSt_i {p : Nat} {w : Nat → Int32} {x : Nat × (Nat → Int32)} (h : pStop t n p w = .inr x) : tkK t n p = 3 ∧ x = (tkA t n p, linW w) := by
  obtain ⟨a, b⟩ := pI_n h
  cases b
  exact ⟨a, rfl⟩
theorem tk_gt {p : Nat} (h : tkK t n p ≠ 0) : p < tkA t n p := Nat.lt_of_le_of_lt tkF_ge (tkA_gt h)
theorem wd_gt {p q : Nat} (h : isWd t n p q) : p + (lit q).length ≤ tkA t n p := by
  have a := tkF_ge (t := t) (n := n) (p := p)
  have b := tkA_ge (t := t) (n := n) (p := p)
  have c := h.2.1
  omega
theorem nm_gt {p lo : Nat} {hi : Int} (h : nmOK t n p lo hi) : p < tkA t n p := tk_gt (by rw [h.1]; decide)
theorem litL4 : (lit 14).length = 5 ∧ (lit 15).length = 4 ∧ (lit 16).length = 5 ∧ (lit 17).length = 4 ∧ (lit 18).length = 4 ∧ (lit 19).length = 4 := by decide
theorem litL3 : (lit 0).length = 7 ∧ (lit 2).length = 4 ∧ (lit 4).length = 4 ∧ (lit 7).length = 4 ∧ (lit 8).length = 3 ∧ (lit 9).length = 2 ∧ (lit 10).length = 2 := by decide
theorem prtR_i {hi : Int} {j p : Nat} {w : Nat → Int32} {x : Nat × (Nat → Int32)} (hh : hi ≤ 4) (hp : p ≤ n) (h : prtR t n hi j p w = .inr x) : p < x.1 ∧ x.1 ≤ n ∧ ∃ k v, x.2 = prtW w j k v ∧ k ≤ 4 ∧ v ≤ 999 ∧ (k = 1 ∨ k = 2 → v < 5) := by
  have hp2 := tkA_le (t := t) hp
  rcases pI_i h with ⟨c, h⟩ | ⟨_, h⟩
  · obtain ⟨a, b⟩ := pI_n h
    have g1 := tk_gt (t := t) (n := n) (p := p) (by rw [c.1]; decide)
    have g2 := nm_gt a
    have g3 := a.2.2
    cases b
    exact ⟨by show p < tkA t n (tkA t n p); omega, tkA_le hp2, 1, _, rfl, by omega, by omega, fun _ => by omega⟩
  · rcases pI_i h with ⟨c, h⟩ | ⟨_, h⟩
    · obtain ⟨a, b⟩ := pI_n h
      have g1 := tk_gt (t := t) (n := n) (p := p) (by rw [c.1]; decide)
      have g2 := nm_gt a
      have g3 := a.2.2
      cases b
      exact ⟨by show p < tkA t n (tkA t n p); omega, tkA_le hp2, 2, _, rfl, by omega, by omega, fun _ => by omega⟩
    · rcases pI_i h with ⟨c, h⟩ | ⟨_, h⟩
      · cases h
        exact ⟨tk_gt (by rw [c.1]; decide), hp2, 3, 0, rfl, by omega, by omega, fun q => by omega⟩
      · rcases pI_i h with ⟨c, h⟩ | ⟨_, h⟩
        · cases h
          exact ⟨tk_gt (by rw [c.1]; decide), hp2, 4, 0, rfl, by omega, by omega, fun q => by omega⟩
        · obtain ⟨a, b⟩ := pI_n h
          have g3 := a.2.2
          cases b
          exact ⟨nm_gt a, hp2, 0, _, rfl, by omega, by omega, fun q => by omega⟩
def SmJ (j : Nat) (w w' : Nat → Int32) : Prop := npW w < npW w' ∧ w' (576 + 3 * npW w) = nI j ∧ (∀ k, npW w < k → k < npW w' → ∃ a, 1 ≤ a ∧ a ≤ 3 ∧ w' (576 + 3 * k) = nI a) ∧ ∀ p, p ≠ 5 → p < 576 + 3 * npW w ∨ 1476 ≤ p → w' p = w p
theorem SumS_i {hi : Int} (hh : hi ≤ 4) (hn : n ≤ 1200) : ∀ f j p w x, SumS t n hi f j p w (.inr x) → WJ w → 5 * npW w + 4 ≤ p → p ≤ n → WJ x.2 ∧ SmJ j w x.2 ∧ 5 * npW x.2 ≤ x.1 ∧ p < x.1 ∧ x.1 ≤ n := by
  intro f
  induction f with
  | zero => intro j p w x h; exact h.elim
  | succ f ih =>
    intro j p w x h hW h5 hp
    unfold SumS at h
    cases e : prtR t n hi j p w with
    | inl y => rw [e] at h; cases h
    | inr y =>
      obtain ⟨p1, w1⟩ := y
      rw [e] at h
      obtain ⟨g1, g2, k, v, g3, g4, g5, g6⟩ := prtR_i hh hp e
      have g1 : p < p1 := g1
      have g2 : p1 ≤ n := g2
      have g3 : w1 = prtW w j k v := g3
      subst g3
      have hb : npW w < 240 := by omega
      have W1 := hW.prt (j := j) hb g4 g5 g6
      have en := prt_n (w := w) (j := j) (k := k) (v := v) hb
      have bp := hW.1.2.2.2.2.2.2
      rcases h with ⟨_, h⟩ | ⟨j1, hj, h⟩
      · cases h
        refine ⟨W1, ⟨by show npW w < npW (prtW w j k v); omega, prt_a, fun q h1 h2 => ?_, fun q h1 h2 => prt_o h1 (by omega)⟩, ?_, g1, g2⟩
        · have h2 : q < npW (prtW w j k v) := h2
          omega
        · show 5 * npW (prtW w j k v) ≤ p1; omega
      · have hl : p1 + 4 ≤ tkA t n p1 ∧ 1 ≤ j1 ∧ j1 ≤ 3 := by
          have l := litL4
          rcases jn_c hj with ⟨a, b⟩ | ⟨a, b⟩ | ⟨a, b⟩ <;> have := wd_gt b <;> exact ⟨by omega, by omega, by omega⟩
        obtain ⟨q1, ⟨q2, q3, q4, q5⟩, q6, q7, q8⟩ := ih j1 (tkA t n p1) _ x h W1 (by omega) (tkA_le g2)
        rw [en] at q2 q3 q4 q5
        refine ⟨q1, ⟨by omega, (q5 _ (by omega) (by omega)).trans prt_a, fun q h1 h2 => ?_, fun q h1 h2 => (q5 q h1 (by omega)).trans (prt_o h1 (by omega))⟩, q6, by omega, q8⟩
        by_cases c : q = npW w + 1
        · subst c; exact ⟨j1, hl.2.1, hl.2.2, q3⟩
        · exact q4 q (by omega) h2
theorem SumR_i {hi : Int} (hh : hi ≤ 4) (hn : n ≤ 1200) {j p : Nat} {w : Nat → Int32} {x : Nat × (Nat → Int32)} (h : SumR t n hi j p w (.inr x)) (hW : WJ w) (h5 : 5 * npW w + 4 ≤ p) (hp : p ≤ n) : WJ x.2 ∧ SmJ j w x.2 ∧ 5 * npW x.2 ≤ x.1 ∧ p < x.1 ∧ x.1 ≤ n := by
  obtain ⟨f, h⟩ := h
  exact SumS_i hh hn f j p w x h hW h5 hp
theorem SmJ.eq {j : Nat} {w w' : Nat → Int32} (S : SmJ j w w') {p : Nat} (h : p ≠ 5) (h2 : p < 576) : w' p = w p := S.2.2.2 p h (by omega)
theorem SmJ.nt {j : Nat} {w w' : Nat → Int32} (S : SmJ j w w') : ntW w' = ntW w := congrArg Int32.toNatClampNeg (S.eq (by omega) (by omega))
theorem SmJ.nl {j : Nat} {w w' : Nat → Int32} (S : SmJ j w w') : nlW w' = nlW w := congrArg Int32.toNatClampNeg (S.eq (by omega) (by omega))
theorem SmJ.lc {j : Nat} {w w' : Nat → Int32} (S : SmJ j w w') : lcW w' = lcW w := congrArg Int32.toNatClampNeg (S.eq (by omega) (by omega))
theorem SmJ.va {j i : Nat} {w w' : Nat → Int32} (S : SmJ j w w') (h : i < 10) : vaW w' i = vaW w i := congrArg Int32.toNatClampNeg (S.eq (by omega) (by omega))
/-- the parts of a law of two sums -/
theorem SmJ.lw {w w6 w8 : Nat → Int32} (S1 : SmJ 0 w w6) (S2 : SmJ 4 w6 w8) (hb : npW w8 ≤ 240) : lwP w8 (npW w) (npW w6) := by
  obtain ⟨a1, a2, a3, a4⟩ := S1
  obtain ⟨b1, b2, b3, b4⟩ := S2
  refine ⟨a1, b1, b2, (b4 _ (by omega) (by omega)).trans a2, fun k h1 h2 h3 => ?_⟩
  by_cases c : k < npW w6
  · obtain ⟨a, q1, q2, q3⟩ := a3 k h1 c
    exact ⟨a, q1, q2, (b4 _ (by omega) (by omega)).trans q3⟩
  · exact b3 k (by omega) h2
/-- where the text stands, and the world so far -/
def WI (n p : Nat) (w : Nat → Int32) : Prop := WJ w ∧ 5 * npW w ≤ p ∧ lcW w ≤ p ∧ p ≤ n
theorem rNum_i {p lo : Nat} {hi : Int} {k : Nat → Nat → PR → Prop} {x : Nat × (Nat → Int32)} (h : rNum t n p lo hi k (.inr x)) : nmOK t n p lo hi ∧ k (tkV t n p) (tkA t n p) (.inr x) := by
  rcases h with h | ⟨_, h⟩
  · exact h
  · cases h
theorem rWord_i {p q : Nat} {k : Nat → PR → Prop} {x : Nat × (Nat → Int32)} (h : rWord t n p q k (.inr x)) : isWd t n p q ∧ k (tkA t n p) (.inr x) := by
  rcases h with h | ⟨_, h⟩
  · exact h
  · cases h
theorem st_i {p q p' : Nat} {w1 w' : Nat → Int32} (hn : n ≤ 1200) (h : pStop t n q w1 = .inr (p', w')) (H : WJ w1) (e1 : 5 * npW w1 ≤ q) (e2 : lcW w1 ≤ p) (h1 : p ≤ q) (h2 : q ≤ n) : WI n p' w' ∧ p < p' := by
  obtain ⟨a, b⟩ := pSt_i h
  cases b
  have g := tk_gt (t := t) (n := n) (p := q) (by rw [a]; decide)
  have g2 := tkA_le (t := t) h2
  have e : npW (linW w1) = npW w1 := congrArg Int32.toNatClampNeg (lin_o (by omega))
  have e3 := lin_l (w := w1) (by omega)
  exact ⟨⟨H.lin (by omega), by omega, by omega, g2⟩, by omega⟩
theorem lc_e {w w' : Nat → Int32} (h : w' 0 = w 0) : lcW w' = lcW w := congrArg Int32.toNatClampNeg h
theorem np_e {w w' : Nat → Int32} (h : w' 5 = w 5) : npW w' = npW w := congrArg Int32.toNatClampNeg h
theorem vil_i {f0 p p' : Nat} {w w' : Nat → Int32} (hn : n ≤ 1200) (H : WI n p w) (h : vilR t n f0 p w = .inr (p', w')) : WI n p' w' ∧ p < p' := by
  obtain ⟨H, h5, hl, hp⟩ := H
  have b1 := H.1.2.1.2
  obtain ⟨c1, h⟩ := pI_n h
  obtain ⟨c2, h⟩ := pI_n h
  obtain ⟨c3, h⟩ := pI_n h
  have g1 := wd_gt c2
  have g2 := nm_gt c3
  have g3 := tkA_le (t := t) (tkA_le (t := t) hp)
  exact st_i hn h (H.vil c1 c3.2.1 (by have := c3.2.2; omega)) (by rw [np_e (vil_o (by omega) (by omega) (by omega))]; omega) (by rw [lc_e (vil_o (by omega) (by omega) (by omega))]; exact hl) (by omega) g3
theorem rod_i {f0 p p' : Nat} {w w' : Nat → Int32} (hn : n ≤ 1200) (H : WI n p w) (h : rodR t n f0 p w = .inr (p', w')) : WI n p' w' ∧ p < p' := by
  obtain ⟨H, h5, hl, hp⟩ := H
  obtain ⟨c1, h⟩ := pI_n h
  obtain ⟨c2, h⟩ := pI_n h
  obtain ⟨c3, h⟩ := pI_m h
  obtain ⟨c4, h⟩ := pI_n h
  have g1 := nm_gt c2
  have g2 := nm_gt c4
  have g3 := tkA_le (t := t) (tkA_le (t := t) hp)
  have hd : tkV t n p ≠ tkV t n (tkA t n p) := fun q => c3 ⟨c4.1, q.symm⟩
  have k2 := c2.2.2
  have k4 := c4.2.2
  rcases pI_i h with ⟨c5, h⟩ | ⟨_, h⟩
  · have g4 := wd_gt c5
    exact st_i hn h (H.rod c1 (by omega) (by omega) hd (by omega)) (by rw [np_e (rod_o (by omega) (by omega))]; omega) (by rw [lc_e (rod_o (by omega) (by omega))]; exact hl) (by omega) (tkA_le g3)
  · exact st_i hn h (H.rod c1 (by omega) (by omega) hd (by omega)) (by rw [np_e (rod_o (by omega) (by omega))]; omega) (by rw [lc_e (rod_o (by omega) (by omega))]; exact hl) (by omega) g3
theorem itm_i {f0 p p' : Nat} {w w' : Nat → Int32} (hn : n ≤ 1200) (H : WI n p w) (h : itmR t n f0 p w = .inr (p', w')) : WI n p' w' ∧ p < p' := by
  obtain ⟨H, h5, hl, hp⟩ := H
  obtain ⟨c1, h⟩ := pI_n h
  obtain ⟨c2, h⟩ := pI_n h
  obtain ⟨c3, h⟩ := pI_n h
  obtain ⟨c4, h⟩ := pI_n h
  obtain ⟨c5, h⟩ := pI_n h
  have g1 := wd_gt c2
  have g2 := nm_gt c3
  have g3 := wd_gt c4
  have g4 := nm_gt c5
  have g5 := tkA_le (t := t) (tkA_le (t := t) (tkA_le (t := t) (tkA_le (t := t) hp)))
  have k3 := c3.2.2
  have k5 := c5.2.2
  exact st_i hn h (H.itm c1 c3.2.1 (by omega) (by omega)) (by rw [np_e (itm_o (by omega) (by omega))]; omega) (by rw [lc_e (itm_o (by omega) (by omega))]; exact hl) (by omega) g5
theorem say_i {p p' : Nat} {w w' : Nat → Int32} (hn : n ≤ 1200) (H : WI n p w) (h : sayR t n p w = .inr (p', w')) : WI n p' w' ∧ p < p' := by
  obtain ⟨H, h5, hl, hp⟩ := H
  have b1 := H.1.2.1.2
  have b2 := H.1.2.2.2.1.2
  obtain ⟨c1, h⟩ := pI_n h
  obtain ⟨c2, h⟩ := pI_m h
  obtain ⟨c3, h⟩ := pI_n h
  obtain ⟨c4, h⟩ := pI_n h
  have g1 := nm_gt c1
  have g2 := nm_gt c3
  have g3 := nm_gt c4
  have g4 := tkA_le (t := t) (tkA_le (t := t) (tkA_le (t := t) hp))
  have k1 := c1.2.2
  have k3 := c3.2.2
  have k4 := c4.2.2
  exact st_i hn h (H.say (by omega) (by omega) (by omega)) (by rw [np_e (say_o (by omega))]; omega) (by rw [lc_e (say_o (by omega))]; exact hl) (by omega) g4
theorem law_i {f0 p p' : Nat} {w w' : Nat → Int32} (hn : n ≤ 1200) (H : WI n p w) (h3 : 5 * npW w + 3 ≤ p) (h : LawR t n f0 p w (.inr (p', w'))) : WI n p' w' ∧ p < p' := by
  obtain ⟨H, h5, hl, hp⟩ := H
  rcases h with ⟨c0, h⟩ | ⟨_, h⟩
  · obtain ⟨c1, h⟩ := rNum_i h
    obtain ⟨c2, h⟩ := rNum_i h
    obtain ⟨c3, h⟩ := rWord_i h
    obtain ⟨c4, h⟩ := rNum_i h
    obtain ⟨c5, h⟩ := rWord_i h
    have g1 := nm_gt c1
    have g2 := nm_gt c2
    have g3 := wd_gt c3
    have g4 := nm_gt c4
    have g5 := wd_gt c5
    have b2 := H.1.2.2.2.1.2
    have k1 := c1.2.2
    have k2 := c2.2.2
    have k4 := c4.2.2
    have hi : tkV t n p < ntW w := by omega
    have hv := (H.2.2.2.1 _ hi).1.2.2
    have p5 := tkA_le (t := t) (tkA_le (t := t) (tkA_le (t := t) (tkA_le (t := t) (tkA_le (t := t) hp))))
    obtain ⟨r1, s1, h⟩ := h
    cases r1 with
    | inl e => cases h
    | inr e =>
      obtain ⟨p6, w6⟩ := e
      obtain ⟨W6, S1, q1, q2, q3⟩ := SumR_i (by omega) hn s1 H (by omega) p5
      have q1 : 5 * npW w6 ≤ p6 := q1
      have q2 : _ < p6 := q2
      have q3 : p6 ≤ n := q3
      have W6 : WJ w6 := W6
      have S1 : SmJ 0 w w6 := S1
      have l := litL4
      have hs : ∃ sg, sg < 3 ∧ p6 + 4 ≤ tkA t n p6 ∧ LawU t n ((vaW w (tkV t n p) : Int) - 1) (tkV t n p) (tkV t n (tkA t n p)) (tkV t n (tkA t n (tkA t n (tkA t n p)))) sg (npW w) (tkA t n p6) w6 (.inr (p', w')) := by
        rcases h with ⟨a, b⟩ | ⟨a, b⟩ | ⟨a, b⟩ | ⟨_, b⟩
        · have := wd_gt a; exact ⟨0, by omega, by omega, b⟩
        · have := wd_gt a; exact ⟨1, by omega, by omega, b⟩
        · have := wd_gt a; exact ⟨2, by omega, by omega, b⟩
        · cases b
      obtain ⟨sg, hs1, hs2, r2, s2, h⟩ := hs
      cases r2 with
      | inl e => cases h
      | inr e =>
        obtain ⟨p8, w8⟩ := e
        obtain ⟨W8, S2, q4, q5, q6⟩ := SumR_i (by omega) hn s2 W6 (by omega) (tkA_le q3)
        have q4 : 5 * npW w8 ≤ p8 := q4
        have q5 : _ < p8 := q5
        have q6 : p8 ≤ n := q6
        have W8 : WJ w8 := W8
        have S2 : SmJ 4 w6 w8 := S2
        have e1 : ntW w8 = ntW w := S2.nt.trans S1.nt
        have e2 : nlW w8 = nlW w := S2.nl.trans S1.nl
        have e3 : vaW w8 (tkV t n p) = vaW w (tkV t n p) := (S2.va (by omega)).trans (S1.va (by omega))
        have e4 : lcW w8 = lcW w := S2.lc.trans S1.lc
        have hk := W8.law (i' := tkV t n p) (a := tkV t n (tkA t n p)) (b := tkV t n (tkA t n (tkA t n (tkA t n p)))) (s := sg) (bg := npW w) (by omega) (by omega) (by omega) (by omega) hs1 (S1.lw S2 (by omega))
        exact st_i hn h.symm hk (by rw [np_e (law_o (by omega) (by omega))]; exact q4) (by rw [lc_e (law_o (by omega) (by omega)), e4]; exact hl) (by omega) q6
  · cases h
theorem LineR_i {p p' : Nat} {w w' : Nat → Int32} (hn : n ≤ 1200) (H : WI n p w) (h : LineR t n p w (.inr (p', w'))) : WI n p' w' ∧ p < p' := by
  have l := litL3
  obtain ⟨W, h5, hl, hp⟩ := id H
  have up : ∀ q, isWd t n p q → 3 ≤ (lit q).length → WI n (tkA t n p) w ∧ 5 * npW w + 3 ≤ tkA t n p ∧ p < tkA t n p := fun q c c2 => by
    have g := wd_gt c
    exact ⟨⟨W, by omega, by omega, tkA_le hp⟩, by omega, by omega⟩
  rcases h with ⟨c, h⟩ | ⟨c, h⟩ | ⟨c, h⟩ | ⟨c, h⟩ | ⟨c, h⟩ | ⟨_, h⟩
  · obtain ⟨u1, u2, u3⟩ := up _ c (by omega)
    obtain ⟨x, y⟩ := vil_i hn u1 h.symm; exact ⟨x, by omega⟩
  · obtain ⟨u1, u2, u3⟩ := up _ c (by omega)
    obtain ⟨x, y⟩ := rod_i hn u1 h.symm; exact ⟨x, by omega⟩
  · obtain ⟨u1, u2, u3⟩ := up _ c (by omega)
    obtain ⟨x, y⟩ := itm_i hn u1 h.symm; exact ⟨x, by omega⟩
  · obtain ⟨u1, u2, u3⟩ := up _ c (by omega)
    obtain ⟨x, y⟩ := say_i hn u1 h.symm; exact ⟨x, by omega⟩
  · obtain ⟨u1, u2, u3⟩ := up _ c (by omega)
    obtain ⟨x, y⟩ := law_i hn u1 u2 h; exact ⟨x, by omega⟩
  · cases h
/-- what is still to read behind an outcome so far -/
def Res (t : Nat → Int32) (n : Nat) (r r' : PR) : Prop := match r with
  | .inl e => r' = .inl e
  | .inr (p, w) => LinR t n p w r'
theorem Res_s {p : Nat} {w : Nat → Int32} {r1 r' : PR} (hk : ¬ tkK t n p = 0) (h : LineR t n p w r1) (h' : Res t n r1 r') : LinR t n p w r' := by
  cases r1 with
  | inl e => exact ⟨1, Or.inr ⟨hk, _, h, h'⟩⟩
  | inr e =>
    obtain ⟨p1, w1⟩ := e
    obtain ⟨f, h'⟩ := h'
    exact ⟨f + 1, Or.inr ⟨hk, _, h, h'⟩⟩
theorem Res_e {p : Nat} {w : Nat → Int32} (hk : tkK t n p = 0) : LinR t n p w (.inr (p, w)) := ⟨1, Or.inl ⟨hk, rfl⟩⟩
def WIr (n : Nat) (r : PR) : Prop := match r with
  | .inl _ => True
  | .inr (p, w) => WI n p w
end GD
/-- the world ahead of the first line -/
def iniW (f : Nat → Int32) : Nat → Int32 := fun p => if 216 ≤ p ∧ p < 456 then -1 else if p < 2676 then 0 else f p
theorem ini_0 {f : Nat → Int32} {p : Nat} (h : p < 216 ∨ 456 ≤ p) (h2 : p < 2676) : iniW f p = 0 := by
  unfold iniW; rw [if_neg (by omega), if_pos h2]
theorem ini_t {f : Nat → Int32} {p : Nat} (h : 216 ≤ p) (h2 : p < 456) : iniW f p = -1 := by
  unfold iniW; rw [if_pos ⟨h, h2⟩]
theorem ini_n {f : Nat → Int32} {k : Nat} (h : k < 216) : (iniW f k).toNatClampNeg = 0 := by
  rw [ini_0 (by omega) (by omega)]; decide
theorem ini_wi (f : Nat → Int32) (n : Nat) : WI n 0 (iniW f) := by
  have z0 : (0 : Int32) = nI 0 := by decide
  have e1 : nvW (iniW f) = 0 := ini_n (by omega)
  have e2 : nrW (iniW f) = 0 := ini_n (by omega)
  have e3 : ntW (iniW f) = 0 := ini_n (by omega)
  have e4 : nlW (iniW f) = 0 := ini_n (by omega)
  have e5 : npW (iniW f) = 0 := ini_n (by omega)
  have e0 : lcW (iniW f) = 0 := ini_n (by omega)
  refine ⟨⟨⟨⟨0, by omega, ?_⟩, ⟨?_, by omega⟩, ⟨?_, by omega⟩, ⟨?_, by omega⟩, ⟨?_, by omega⟩, ⟨?_, by omega⟩⟩, fun v hv => by omega, fun v hv => by omega, fun v hv => by omega, fun v i hv hi => Or.inl (ini_t (by omega) (by omega)), ⟨fun _ => 0, fun l hl => by omega⟩, fun l hl => by omega, fun v hv => by omega, fun v hv => by omega, fun i hi => ini_0 (by omega) (by omega), fun p hp => ini_0 (by omega) (by omega)⟩, by omega, by omega, by omega⟩
  · rw [ini_0 (by omega) (by omega)]; exact z0
  · rw [e1, ini_0 (by omega) (by omega)]; exact z0
  · rw [e2, ini_0 (by omega) (by omega)]; exact z0
  · rw [e3, ini_0 (by omega) (by omega)]; exact z0
  · rw [e4, ini_0 (by omega) (by omega)]; exact z0
  · rw [e5, ini_0 (by omega) (by omega)]; exact z0
