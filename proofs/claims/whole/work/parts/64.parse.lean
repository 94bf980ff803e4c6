/-! THE LAND'S TEXT, pure: a fault (kind, place), or where it goes on and the world so far -/
abbrev PR : Type := Sum (Nat × Nat) (Nat × (Nat → Int32))
noncomputable def pI (c : Prop) (a b : PR) : PR := @ite PR c (Classical.propDecidable c) a b
theorem pI_t {c : Prop} {a b : PR} (h : c) : pI c a b = a := if_pos h
theorem pI_f {c : Prop} {a b : PR} (h : ¬ c) : pI c a b = b := if_neg h
def lcW (w : Nat → Int32) : Nat := (w 0).toNatClampNeg
def linW (w : Nat → Int32) : Nat → Int32 := upd w 0 (nI (lcW w + 1))
section PZ
variable (t : Nat → Int32) (n : Nat)
noncomputable def pNum (p lo : Nat) (hi : Int) (k : Nat → Nat → PR) : PR := pI (nmOK t n p lo hi) (k (tkV t n p) (tkA t n p)) (.inl (nmF t n p, tkF t n p))
noncomputable def pWord (p q : Nat) (k : Nat → PR) : PR := pI (isWd t n p q) (k (tkA t n p)) (.inl (1, tkF t n p))
noncomputable def pStop (p : Nat) (w : Nat → Int32) : PR := pI (tkK t n p = 3) (.inr (tkA t n p, linW w)) (.inl (1, tkF t n p))
def vilW (w : Nat → Int32) (s : Nat) : Nat → Int32 := upd (upd (upd w (8 + 2 * nvW w) (nI s)) (8 + 2 * nvW w + 1) (-1)) 1 (nI (nvW w + 1))
noncomputable def vilR (f0 p : Nat) (w : Nat → Int32) : PR := pI (nvW w < 24) (pWord t n p 1 (fun p1 => pNum t n p1 1 99 (fun s p2 => pStop t n p2 (vilW w s)))) (.inl (3, f0))
def rodW (w : Nat → Int32) (a b r : Nat) : Nat → Int32 := upd (upd (upd (upd w (56 + 3 * nrW w) (nI a)) (56 + 3 * nrW w + 1) (nI b)) (56 + 3 * nrW w + 2) (nI r)) 2 (nI (nrW w + 1))
noncomputable def rodR (f0 p : Nat) (w : Nat → Int32) : PR := pI (nrW w < 40) (pNum t n p 0 ((nvW w : Int) - 1) (fun a p1 => pI (tkK t n p1 = 2 ∧ tkV t n p1 = a) (.inl (2, tkF t n p1)) (pNum t n p1 0 ((nvW w : Int) - 1) (fun b p2 => pI (isWd t n p2 3) (pStop t n (tkA t n p2) (rodW w a b 1)) (pStop t n p2 (rodW w a b 0)))))) (.inl (3, f0))
def itmW (w : Nat → Int32) (m s : Nat) : Nat → Int32 := upd (upd (upd (upd w (176 + 4 * ntW w) (nI m)) (176 + 4 * ntW w + 1) (nI s)) (176 + 4 * ntW w + 2) (-1)) 3 (nI (ntW w + 1))
noncomputable def itmR (f0 p : Nat) (w : Nat → Int32) : PR := pI (ntW w < 10) (pWord t n p 5 (fun p1 => pNum t n p1 2 5 (fun m p2 => pWord t n p2 6 (fun p3 => pNum t n p3 0 ((m : Int) - 1) (fun s p4 => pStop t n p4 (itmW w m s)))))) (.inl (3, f0))
def sayW (w : Nat → Int32) (v i a : Nat) : Nat → Int32 := upd w (216 + 10 * v + i) (nI a)
noncomputable def sayR (p : Nat) (w : Nat → Int32) : PR := pNum t n p 0 ((nvW w : Int) - 1) (fun v p1 => pI (tkK t n p1 = 2 ∧ tkV t n p1 < ntW w ∧ ¬ w (216 + 10 * v + tkV t n p1) = -1) (.inl (2, tkF t n p1)) (pNum t n p1 0 ((ntW w : Int) - 1) (fun i p2 => pNum t n p2 0 ((vaW w i : Int) - 1) (fun a p3 => pStop t n p3 (sayW w v i a)))))
/-- a PART: its kind and number, then the rest -/
def prtW (w : Nat → Int32) (j k v : Nat) : Nat → Int32 := upd (upd (upd (upd w (576 + 3 * npW w) (nI j)) (576 + 3 * npW w + 1) (nI k)) (576 + 3 * npW w + 2) (nI v)) 5 (nI (npW w + 1))
noncomputable def prtR (hi : Int) (j p : Nat) (w : Nat → Int32) : PR := pI (isWd t n p 11) (pNum t n (tkA t n p) 0 hi (fun v p1 => .inr (p1, prtW w j 1 v))) (pI (isWd t n p 12) (pNum t n (tkA t n p) 0 hi (fun v p1 => .inr (p1, prtW w j 2 v))) (pI (isWd t n p 1) (.inr (tkA t n p, prtW w j 3 0)) (pI (isWd t n p 13) (.inr (tkA t n p, prtW w j 4 0)) (pNum t n p 0 999 (fun v p1 => .inr (p1, prtW w j 0 v))))))
/-- which word joins a further PART: 1 plus, 2 minus, 3 times, 0 none -/
def jnW (p : Nat) : Nat → Prop
  | 1 => isWd t n p 15
  | 2 => isWd t n p 16
  | 3 => isWd t n p 14
  | _ => False
def SumS (hi : Int) : Nat → Nat → Nat → (Nat → Int32) → PR → Prop
  | 0, _, _, _, _ => False
  | f + 1, j, p, w, r => match prtR t n hi j p w with
    | .inl e => r = .inl e
    | .inr (p1, w1) => ((¬ isWd t n p1 14 ∧ ¬ isWd t n p1 15 ∧ ¬ isWd t n p1 16) ∧ r = .inr (p1, w1)) ∨ ∃ j1, jnW t n p1 j1 ∧ SumS hi f j1 (tkA t n p1) w1 r
def SumR (hi : Int) (j p : Nat) (w : Nat → Int32) (r : PR) : Prop := ∃ f, SumS t n hi f j p w r
end PZ
theorem lit_ne : ∀ a, a < 20 → ∀ b, b < 20 → a ≠ b → lit a ≠ lit b := by decide
/-- a token is one word at most -/
theorem isWd_1 {t : Nat → Int32} {n p a b : Nat} (ha : a < 20) (hb : b < 20) (h1 : isWd t n p a) (h2 : isWd t n p b) : a = b := by
  refine Classical.byContradiction (fun q => lit_ne a ha b hb q ?_)
  obtain ⟨_, l1, c1⟩ := h1
  obtain ⟨_, l2, c2⟩ := h2
  have e : (lit a).length = (lit b).length := l1.symm.trans l2
  refine List.ext_getElem e (fun i g1 g2 => ?_)
  have x1 := c1 i g1
  have x2 := c2 i g2
  rw [List.getD_eq_getElem?_getD, List.getElem?_eq_getElem g1] at x1
  rw [List.getD_eq_getElem?_getD, List.getElem?_eq_getElem g2] at x2
  exact x1.symm.trans x2
