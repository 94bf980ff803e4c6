/-! one text, one outcome -/
section DT
variable {t : Nat → Int32} {n : Nat}
theorem jn_c {p j : Nat} (h : jnW t n p j) : (j = 1 ∧ isWd t n p 15) ∨ (j = 2 ∧ isWd t n p 16) ∨ (j = 3 ∧ isWd t n p 14) := by
  unfold jnW at h
  split at h
  · exact Or.inl ⟨rfl, h⟩
  · exact Or.inr (Or.inl ⟨rfl, h⟩)
  · exact Or.inr (Or.inr ⟨rfl, h⟩)
  · exact h.elim
theorem jn_1 {p j j' : Nat} (h : jnW t n p j) (h' : jnW t n p j') : j = j' := by
  rcases jn_c h with ⟨a, b⟩ | ⟨a, b⟩ | ⟨a, b⟩ <;> rcases jn_c h' with ⟨a', b'⟩ | ⟨a', b'⟩ | ⟨a', b'⟩ <;> first | omega | exact absurd (isWd_1 (by decide) (by decide) b b') (by decide)
theorem SumS_d {hi : Int} : ∀ f f' j p w r r', SumS t n hi f j p w r → SumS t n hi f' j p w r' → r = r' := by
  intro f
  induction f with
  | zero => intro f' j p w r r' h; exact h.elim
  | succ f ih =>
    intro f' j p w r r' h h'
    cases f' with
    | zero => exact h'.elim
    | succ f' =>
      unfold SumS at h h'
      cases e : prtR t n hi j p w with
      | inl x => rw [e] at h h'; exact h.trans h'.symm
      | inr x =>
        obtain ⟨p1, w1⟩ := x
        rw [e] at h h'
        rcases h with ⟨⟨n1, n2, n3⟩, a⟩ | ⟨j1, k1, s1⟩
        · rcases h' with ⟨_, a'⟩ | ⟨j1, k1, s1⟩
          · exact a.trans a'.symm
          · rcases jn_c k1 with ⟨_, b⟩ | ⟨_, b⟩ | ⟨_, b⟩
            · exact absurd b n2
            · exact absurd b n3
            · exact absurd b n1
        · rcases h' with ⟨⟨n1, n2, n3⟩, a'⟩ | ⟨j2, k2, s2⟩
          · rcases jn_c k1 with ⟨_, b⟩ | ⟨_, b⟩ | ⟨_, b⟩
            · exact absurd b n2
            · exact absurd b n3
            · exact absurd b n1
          · obtain rfl := jn_1 k1 k2
            exact ih f' _ _ _ _ _ s1 s2
theorem SumR_d {hi : Int} {j p : Nat} {w : Nat → Int32} {r r' : PR} (h : SumR t n hi j p w r) (h' : SumR t n hi j p w r') : r = r' := by
  obtain ⟨f, h⟩ := h
  obtain ⟨f', h'⟩ := h'
  exact SumS_d f f' _ _ _ _ _ h h'
theorem rNum_d {p lo : Nat} {hi : Int} {k : Nat → Nat → PR → Prop} {r r' : PR} (hk : ∀ v q r r', k v q r → k v q r' → r = r') (h : rNum t n p lo hi k r) (h' : rNum t n p lo hi k r') : r = r' := by
  rcases h with ⟨a, b⟩ | ⟨a, b⟩ <;> rcases h' with ⟨a', b'⟩ | ⟨a', b'⟩
  · exact hk _ _ _ _ b b'
  · exact absurd a a'
  · exact absurd a' a
  · exact b.trans b'.symm
theorem rWord_d {p q : Nat} {k : Nat → PR → Prop} {r r' : PR} (hk : ∀ q r r', k q r → k q r' → r = r') (h : rWord t n p q k r) (h' : rWord t n p q k r') : r = r' := by
  rcases h with ⟨a, b⟩ | ⟨a, b⟩ <;> rcases h' with ⟨a', b'⟩ | ⟨a', b'⟩
  · exact hk _ _ _ b b'
  · exact absurd a a'
  · exact absurd a' a
  · exact b.trans b'.symm
theorem LawU_d {hi : Int} {i a b s bg p : Nat} {w : Nat → Int32} {r r' : PR} (h : LawU t n hi i a b s bg p w r) (h' : LawU t n hi i a b s bg p w r') : r = r' := by
  obtain ⟨x, h1, h2⟩ := h
  obtain ⟨x', h1', h2'⟩ := h'
  obtain rfl := SumR_d h1 h1'
  cases x with
  | inl e => exact h2.trans h2'.symm
  | inr e => obtain ⟨p8, w8⟩ := e; exact h2.trans h2'.symm
theorem LawT_d {hi : Int} {i a b bg p : Nat} {w : Nat → Int32} {r r' : PR} (h : LawT t n hi i a b bg p w r) (h' : LawT t n hi i a b bg p w r') : r = r' := by
  obtain ⟨x, h1, h2⟩ := h
  obtain ⟨x', h1', h2'⟩ := h'
  obtain rfl := SumR_d h1 h1'
  cases x with
  | inl e => exact h2.trans h2'.symm
  | inr e =>
    obtain ⟨p6, w6⟩ := e
    rcases h2 with ⟨c, d⟩ | ⟨c, d⟩ | ⟨c, d⟩ | ⟨⟨c1, c2, c3⟩, d⟩ <;> rcases h2' with ⟨c', d'⟩ | ⟨c', d'⟩ | ⟨c', d'⟩ | ⟨⟨c1', c2', c3'⟩, d'⟩ <;> first | exact LawU_d d d' | exact d.trans d'.symm | contradiction | exact absurd (isWd_1 (by decide) (by decide) c c') (by decide)
theorem LawR_d {f0 p : Nat} {w : Nat → Int32} {r r' : PR} (h : LawR t n f0 p w r) (h' : LawR t n f0 p w r') : r = r' := by
  rcases h with ⟨c, d⟩ | ⟨c, d⟩ <;> rcases h' with ⟨c', d'⟩ | ⟨c', d'⟩
  · refine rNum_d (fun i p1 r1 r1' x x' => ?_) d d'
    refine rNum_d (fun a p2 r2 r2' y y' => ?_) x x'
    refine rWord_d (fun p3 r3 r3' z z' => ?_) y y'
    refine rNum_d (fun b p4 r4 r4' u u' => ?_) z z'
    exact rWord_d (fun p5 r5 r5' v v' => LawT_d v v') u u'
  · exact absurd c c'
  · exact absurd c' c
  · exact d.trans d'.symm
theorem LineR_d {p : Nat} {w : Nat → Int32} {r r' : PR} (h : LineR t n p w r) (h' : LineR t n p w r') : r = r' := by
  rcases h with ⟨c, d⟩ | ⟨c, d⟩ | ⟨c, d⟩ | ⟨c, d⟩ | ⟨c, d⟩ | ⟨⟨c1, c2, c3, c4, c5⟩, d⟩ <;> rcases h' with ⟨c', d'⟩ | ⟨c', d'⟩ | ⟨c', d'⟩ | ⟨c', d'⟩ | ⟨c', d'⟩ | ⟨⟨c1', c2', c3', c4', c5'⟩, d'⟩ <;> first | exact LawR_d d d' | exact d.trans d'.symm | contradiction | exact absurd (isWd_1 (by decide) (by decide) c c') (by decide)
theorem LinS_d : ∀ f f' p w r r', LinS t n f p w r → LinS t n f' p w r' → r = r' := by
  intro f
  induction f with
  | zero => intro f' p w r r' h; exact h.elim
  | succ f ih =>
    intro f' p w r r' h h'
    cases f' with
    | zero => exact h'.elim
    | succ f' =>
      unfold LinS at h h'
      rcases h with ⟨c, d⟩ | ⟨c, x, d, e⟩ <;> rcases h' with ⟨c', d'⟩ | ⟨c', x', d', e'⟩
      · exact d.trans d'.symm
      · exact absurd c c'
      · exact absurd c' c
      · obtain rfl := LineR_d d d'
        cases x with
        | inl y => exact e.trans e'.symm
        | inr y => obtain ⟨p1, w1⟩ := y; exact ih f' _ _ _ _ e e'
theorem LinR_d {p : Nat} {w : Nat → Int32} {r r' : PR} (h : LinR t n p w r) (h' : LinR t n p w r') : r = r' := by
  obtain ⟨f, h⟩ := h
  obtain ⟨f', h'⟩ := h'
  exact LinS_d f f' _ _ _ _ h h'
end DT
