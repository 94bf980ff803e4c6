/-! LAWS AND LINES, pure -/
section LZ
variable (t : Nat → Int32) (n : Nat)
def rNum (p lo : Nat) (hi : Int) (k : Nat → Nat → PR → Prop) (r : PR) : Prop := (nmOK t n p lo hi ∧ k (tkV t n p) (tkA t n p) r) ∨ (¬ nmOK t n p lo hi ∧ r = .inl (nmF t n p, tkF t n p))
def rWord (p q : Nat) (k : Nat → PR → Prop) (r : PR) : Prop := (isWd t n p q ∧ k (tkA t n p) r) ∨ (¬ isWd t n p q ∧ r = .inl (1, tkF t n p))
def lawW (w : Nat → Int32) (i a b s bg : Nat) : Nat → Int32 := upd (upd (upd (upd (upd (upd (upd w (456 + 6 * nlW w) (nI i)) (456 + 6 * nlW w + 1) (nI a)) (456 + 6 * nlW w + 2) (nI b)) (456 + 6 * nlW w + 3) (nI s)) (456 + 6 * nlW w + 4) (nI bg)) (456 + 6 * nlW w + 5) (nI (npW w - bg))) 4 (nI (nlW w + 1))
def LawU (hi : Int) (i a b s bg p : Nat) (w : Nat → Int32) (r : PR) : Prop := ∃ r2, SumR t n hi 4 p w r2 ∧ match r2 with
  | .inl e => r = .inl e
  | .inr (p8, w8) => r = pStop t n p8 (lawW w8 i a b s bg)
def LawT (hi : Int) (i a b bg p : Nat) (w : Nat → Int32) (r : PR) : Prop := ∃ r1, SumR t n hi 0 p w r1 ∧ match r1 with
  | .inl e => r = .inl e
  | .inr (p6, w6) => (isWd t n p6 17 ∧ LawU t n hi i a b 0 bg (tkA t n p6) w6 r) ∨ (isWd t n p6 18 ∧ LawU t n hi i a b 1 bg (tkA t n p6) w6 r) ∨ (isWd t n p6 19 ∧ LawU t n hi i a b 2 bg (tkA t n p6) w6 r) ∨ ((¬ isWd t n p6 17 ∧ ¬ isWd t n p6 18 ∧ ¬ isWd t n p6 19) ∧ r = .inl (1, tkF t n p6))
def LawR (f0 p : Nat) (w : Nat → Int32) (r : PR) : Prop := (nlW w < 20 ∧ rNum t n p 0 ((ntW w : Int) - 1) (fun i p1 => rNum t n p1 0 ((vaW w i : Int) - 1) (fun a p2 => rWord t n p2 9 (fun p3 => rNum t n p3 0 ((vaW w i : Int) - 1) (fun b p4 => rWord t n p4 10 (fun p5 => LawT t n ((vaW w i : Int) - 1) i a b (npW w) p5 w))))) r) ∨ (¬ nlW w < 20 ∧ r = .inl (3, f0))
def LineR (p : Nat) (w : Nat → Int32) (r : PR) : Prop := (isWd t n p 0 ∧ r = vilR t n (tkF t n p) (tkA t n p) w) ∨ (isWd t n p 2 ∧ r = rodR t n (tkF t n p) (tkA t n p) w) ∨ (isWd t n p 4 ∧ r = itmR t n (tkF t n p) (tkA t n p) w) ∨ (isWd t n p 7 ∧ r = sayR t n (tkA t n p) w) ∨ (isWd t n p 8 ∧ LawR t n (tkF t n p) (tkA t n p) w r) ∨ ((¬ isWd t n p 0 ∧ ¬ isWd t n p 2 ∧ ¬ isWd t n p 4 ∧ ¬ isWd t n p 7 ∧ ¬ isWd t n p 8) ∧ r = .inl (1, tkF t n p))
def LinS : Nat → Nat → (Nat → Int32) → PR → Prop
  | 0, _, _, _ => False
  | f + 1, p, w, r => (tkK t n p = 0 ∧ r = .inr (p, w)) ∨ (¬ tkK t n p = 0 ∧ ∃ r1, LineR t n p w r1 ∧ match r1 with
    | .inl e => r = .inl e
    | .inr (p1, w1) => LinS f p1 w1 r)
def LinR (p : Nat) (w : Nat → Int32) (r : PR) : Prop := ∃ f, LinS t n f p w r
end LZ
