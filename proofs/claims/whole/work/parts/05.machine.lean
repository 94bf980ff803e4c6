/-! THE SMALL MACHINE: the program's bytecode run over cells that are numbered by the order in which they are made; a run is a relation (Ev: from a place of a method; Rn: a whole call). What it does the Java machine does (the part behind this one). -/
abbrev aE : Type := (Nat × vp_A) ⊕ (Nat × List Value)
abbrev aH : Type := List aE
abbrev aL : Type := List (Nat × Value)
def kd : Value → Nat
  | .int _ => 0
  | .long _ => 1
  | .ref _ => 2
  | .null => 2
  | .retAddr _ => 2
  | _ => 9
def ct2 : Value → Bool
  | .long _ => true
  | .double _ => true
  | _ => false
def lvG : aL → Nat → Option Value
  | [], _ => none
  | (p, v) :: r, q => match Nat.beq p q with
    | true => some v
    | false => lvG r q
def lvI : aL → Nat → Value → aL
  | [], i, v => [(i, v)]
  | (p, w) :: r, i, v => match Nat.blt p i with
    | true => (p, w) :: lvI r i v
    | false => (i, v) :: (p, w) :: r
/-- what a store of one word at i leaves -/
def lvF1 : aL → Nat → aL
  | [], _ => []
  | (p, w) :: r, i => match Nat.beq p i || (Nat.beq (p + 1) i && ct2 w) with
    | true => lvF1 r i
    | false => (p, w) :: lvF1 r i
def lvF2 : aL → Nat → aL
  | [], _ => []
  | (p, w) :: r, i => match Nat.beq p i || (Nat.beq p (i + 1) || (Nat.beq (p + 1) i && ct2 w)) with
    | true => lvF2 r i
    | false => (p, w) :: lvF2 r i
def lvP (lv : aL) (i : Nat) (v : Value) : aL := match kd v with
  | 1 => lvI (lvF2 lv i) i v
  | _ => lvI (lvF1 lv i) i v
def jmp (pc : Nat) (off : Int) : Nat := ((pc : Int) + off).toNat
def jT (cd : ClassFile.Cond) (x y : Int32) : Prop := match cd with
  | .eq => x = y
  | .ne => ¬ x = y
  | .lt => x < y
  | .ge => y ≤ x
  | .gt => y < x
  | .le => x ≤ y
def jF (cd : ClassFile.Cond) (x y : Int32) : Prop := match cd with
  | .eq => ¬ x = y
  | .ne => x = y
  | .lt => y ≤ x
  | .ge => x < y
  | .gt => x ≤ y
  | .le => y < x
def pureOp (op : Instr) (st : List Value) : Option (List Value) := match op with
  | .iconst n => some (.int (Int32.ofInt n) :: st)
  | .bipush n => some (.int (Int8.ofInt n).toInt32 :: st)
  | .sipush n => some (.int (Int16.ofInt n).toInt32 :: st)
  | .lconst n => some (.long (Int64.ofNat n.val) :: st)
  | .iadd => match st with
    | .int y :: .int x :: r => some (.int (x + y) :: r)
    | _ => none
  | .isub => match st with
    | .int y :: .int x :: r => some (.int (x - y) :: r)
    | _ => none
  | .imul => match st with
    | .int y :: .int x :: r => some (.int (x * y) :: r)
    | _ => none
  | .iand => match st with
    | .int y :: .int x :: r => some (.int (x &&& y) :: r)
    | _ => none
  | .ior => match st with
    | .int y :: .int x :: r => some (.int (x ||| y) :: r)
    | _ => none
  | .ixor => match st with
    | .int y :: .int x :: r => some (.int (x ^^^ y) :: r)
    | _ => none
  | .ishl => match st with
    | .int y :: .int x :: r => some (.int (x <<< (y &&& 31)) :: r)
    | _ => none
  | .ishr => match st with
    | .int y :: .int x :: r => some (.int (x >>> (y &&& 31)) :: r)
    | _ => none
  | .iushr => match st with
    | .int y :: .int x :: r => some (.int (x.toUInt32 >>> (y.toUInt32 &&& Int32.toUInt32 31)).toInt32 :: r)
    | _ => none
  | .ladd => match st with
    | .long y :: .long x :: r => some (.long (x + y) :: r)
    | _ => none
  | .lsub => match st with
    | .long y :: .long x :: r => some (.long (x - y) :: r)
    | _ => none
  | .lmul => match st with
    | .long y :: .long x :: r => some (.long (x * y) :: r)
    | _ => none
  | .land => match st with
    | .long y :: .long x :: r => some (.long (x &&& y) :: r)
    | _ => none
  | .lor => match st with
    | .long y :: .long x :: r => some (.long (x ||| y) :: r)
    | _ => none
  | .lshl => match st with
    | .int y :: .long x :: r => some (.long (x <<< (y.toInt64 &&& 63)) :: r)
    | _ => none
  | .lshr => match st with
    | .int y :: .long x :: r => some (.long (x >>> (y.toInt64 &&& 63)) :: r)
    | _ => none
  | .lcmp => match st with
    | .long y :: .long x :: r => some (.int (lg_cmp x y) :: r)
    | _ => none
  | .i2l => match st with
    | .int x :: r => some (.long x.toInt64 :: r)
    | _ => none
  | .l2i => match st with
    | .long x :: r => some (.int x.toInt32 :: r)
    | _ => none
  | .i2b => match st with
    | .int x :: r => some (.int x.toInt8.toInt32 :: r)
    | _ => none
  | .i2s => match st with
    | .int x :: r => some (.int x.toInt16.toInt32 :: r)
    | _ => none
  | .dup => match st with
    | .int x :: r => some (.int x :: .int x :: r)
    | .ref x :: r => some (.ref x :: .ref x :: r)
    | _ => none
  | .dup2 => match st with
    | .int y :: .ref x :: r => some (.int y :: .ref x :: .int y :: .ref x :: r)
    | .long x :: r => some (.long x :: .long x :: r)
    | _ => none
  | .pop => match st with
    | .int _ :: r => some r
    | _ => none
  | _ => none
def popN : Nat → List Value → List Value → Option (List Value × List Value)
  | 0, acc, st => some (acc, st)
  | n + 1, acc, v :: st => popN n (v :: acc) st
  | _ + 1, _, [] => none
def swOff (df lo hi : Int) (offs : Array Int) (x : Int32) : Option Int := if x.toInt < lo ∨ hi < x.toInt then some df else offs[(x.toInt - lo).toNat]?
def arT : ArrayType → Nat
  | .int => 0
  | .byte => 1
  | .boolean => 2
  | .long => 3
  | _ => 9
def arZ (ty : ArrayType) (n : Nat) : vp_A := match ty with
  | .long => (n, .inr (.inl (fun _ => 0)))
  | _ => (n, .inl (fun _ => 0))
abbrev aC : Type := Nat → List Value → aH → Option Value → aH → Nat → Nat → Prop
abbrev aK : Type := Nat → aL → List Value → aH → Nat → Nat → Prop
def opLd (K : aK) (nx : Nat) (lv : aL) (st : List Value) (h : aH) (c s k kin : Nat) : Prop := ∃ v, lvG lv k = some v ∧ kd v = kin ∧ K nx lv (v :: st) h c s
def opSt (i : Nat) (K : aK) (nx : Nat) (lv : aL) (st : List Value) (h : aH) (c s k kin : Nat) : Prop := ∃ v r, st = v :: r ∧ kd v = kin ∧ k + (if kin = 1 then 1 else 0) < mMax i ∧ K nx (lvP lv k v) r h c s
def opGet (K : aK) (pc : Nat) (lv : aL) (st : List Value) (h : aH) (c s a b : Nat) : Prop := ∃ k r fs v, st = .ref k :: r ∧ h[k]? = some (.inr (a, fs)) ∧ fs[b]? = some v ∧ K (pc + 3) lv (v :: r) h c s
def putOK (a b : Nat) (v : Value) : Prop := narrow (fty a b) v = v ∧ fits (fty a b) v = true
def opPut (K : aK) (pc : Nat) (lv : aL) (st : List Value) (h : aH) (c s a b : Nat) : Prop := ∃ k r fs v, st = v :: .ref k :: r ∧ h[k]? = some (.inr (a, fs)) ∧ b < fs.length ∧ putOK a b v ∧ K (pc + 3) lv r (h.set k (.inr (a, fs.set b v))) c s
def opIald (C : aC) (K : aK) (pc : Nat) (lv : aL) (st : List Value) (h : aH) (c s : Nat) : Prop := (∃ j k r n f, st = .int j :: .ref k :: r ∧ h[k]? = some (.inl (0, n, .inl f)) ∧ vp_in j n ∧ K (pc + 1) lv (.int (f j.toNatClampNeg) :: r) h c s) ∨ (∃ j r x, st = .int j :: .retAddr 1000 :: r ∧ C 2000 [.int j] h (some (.int x)) h 0 0 ∧ K (pc + 1) lv (.int x :: r) h c s)
def opBald (K : aK) (pc : Nat) (lv : aL) (st : List Value) (h : aH) (c s : Nat) : Prop := ∃ j k r t n f, st = .int j :: .ref k :: r ∧ (t = 1 ∨ t = 2) ∧ h[k]? = some (.inl (t, n, .inl f)) ∧ vp_in j n ∧ K (pc + 1) lv (.int (f j.toNatClampNeg) :: r) h c s
def opLald (K : aK) (pc : Nat) (lv : aL) (st : List Value) (h : aH) (c s : Nat) : Prop := ∃ j k r n f, st = .int j :: .ref k :: r ∧ h[k]? = some (.inl (3, n, .inr (.inl f))) ∧ vp_in j n ∧ K (pc + 1) lv (.long (f j.toNatClampNeg) :: r) h c s
def opAald (K : aK) (pc : Nat) (lv : aL) (st : List Value) (h : aH) (c s : Nat) : Prop := ∃ j k r t n f, st = .int j :: .ref k :: r ∧ (t = 4 ∨ t = 5) ∧ h[k]? = some (.inl (t, n, .inr (.inr (.inr (.inr f))))) ∧ vp_in j n ∧ K (pc + 1) lv (va_rf (f j.toNatClampNeg) :: r) h c s
def opIast (K : aK) (pc : Nat) (lv : aL) (st : List Value) (h : aH) (c s : Nat) : Prop := ∃ x j k r n f, st = .int x :: .int j :: .ref k :: r ∧ h[k]? = some (.inl (0, n, .inl f)) ∧ vp_in j n ∧ K (pc + 1) lv r (h.set k (.inl (0, n, .inl (upd f j.toNatClampNeg x)))) c s
def opBast (K : aK) (pc : Nat) (lv : aL) (st : List Value) (h : aH) (c s : Nat) : Prop := ∃ x j k r n f, st = .int x :: .int j :: .ref k :: r ∧ vp_in j n ∧ ((h[k]? = some (.inl (1, n, .inl f)) ∧ K (pc + 1) lv r (h.set k (.inl (1, n, .inl (upd f j.toNatClampNeg (vp_nar .byte x))))) c s) ∨ (h[k]? = some (.inl (2, n, .inl f)) ∧ K (pc + 1) lv r (h.set k (.inl (2, n, .inl (upd f j.toNatClampNeg (vp_nar .boolean x))))) c s))
def opLast (K : aK) (pc : Nat) (lv : aL) (st : List Value) (h : aH) (c s : Nat) : Prop := ∃ x j k r n f, st = .long x :: .int j :: .ref k :: r ∧ h[k]? = some (.inl (3, n, .inr (.inl f))) ∧ vp_in j n ∧ K (pc + 1) lv r (h.set k (.inl (3, n, .inr (.inl (vp_updL f j.toNatClampNeg x))))) c s
def opAast (K : aK) (pc : Nat) (lv : aL) (st : List Value) (h : aH) (c s : Nat) : Prop := ∃ q j k r t n f vs, st = .ref q :: .int j :: .ref k :: r ∧ (t = 4 ∨ t = 5) ∧ h[k]? = some (.inl (t, n, .inr (.inr (.inr (.inr f))))) ∧ h[q]? = some (.inr (t, vs)) ∧ vp_in j n ∧ K (pc + 1) lv r (h.set k (.inl (t, n, .inr (.inr (.inr (.inr (va_up f j.toNatClampNeg (some q)))))))) c s
def opAlen (C : aC) (K : aK) (pc : Nat) (lv : aL) (st : List Value) (h : aH) (c s : Nat) : Prop := (∃ k r t x, st = .ref k :: r ∧ t < 6 ∧ h[k]? = some (.inl (t, x)) ∧ K (pc + 1) lv (.int (Int32.ofNat x.1) :: r) h c s) ∨ (∃ r x, st = .retAddr 1000 :: r ∧ C 2001 [] h (some (.int x)) h 0 0 ∧ K (pc + 1) lv (.int x :: r) h c s)
def opNew (cT sT : Nat) (K : aK) (pc : Nat) (lv : aL) (st : List Value) (h : aH) (c s a : Nat) : Prop := a < 10 ∧ c + 1 ≤ cT ∧ s + nfl a ≤ sT ∧ K (pc + 3) lv (.ref h.length :: st) (h ++ [.inr (a, dfl a)]) (c + 1) (s + nfl a)
def opNewa (cT sT : Nat) (K : aK) (pc : Nat) (lv : aL) (st : List Value) (h : aH) (c s : Nat) (ty : ArrayType) : Prop := ∃ n r, st = .int n :: r ∧ ¬ n < 0 ∧ arT ty < 4 ∧ n.toNatClampNeg ≤ 1000000 ∧ c + 1 ≤ cT ∧ s + n.toNatClampNeg ≤ sT ∧ K (pc + 2) lv (.ref h.length :: r) (h ++ [.inl (arT ty, arZ ty n.toNatClampNeg)]) (c + 1) (s + n.toNatClampNeg)
def opAnew (cT sT : Nat) (K : aK) (pc : Nat) (lv : aL) (st : List Value) (h : aH) (c s a : Nat) : Prop := ∃ n r, st = .int n :: r ∧ ¬ n < 0 ∧ (a = 4 ∨ a = 5) ∧ n.toNatClampNeg ≤ 1000000 ∧ c + 1 ≤ cT ∧ s + n.toNatClampNeg ≤ sT ∧ K (pc + 3) lv (.ref h.length :: r) (h ++ [.inl (a, n.toNatClampNeg, .inr (.inr (.inr (.inr (fun _ => none)))))]) (c + 1) (s + n.toNatClampNeg)
def opCpy (K : aK) (pc : Nat) (lv : aL) (st : List Value) (h : aH) (c s : Nat) : Prop := ∃ n dp sp q k r n0 n1, st = .int n :: .int dp :: .ref q :: .int sp :: .ref k :: r ∧ ¬ sp < 0 ∧ ¬ dp < 0 ∧ ¬ n < 0 ∧ (r.map fun v => v.category).sum ≤ 8 ∧ sp.toNatClampNeg + n.toNatClampNeg ≤ n0 ∧ dp.toNatClampNeg + n.toNatClampNeg ≤ n1 ∧
  ((∃ t f g, (t = 0 ∨ t = 2) ∧ h[k]? = some (.inl (t, n0, .inl f)) ∧ h[q]? = some (.inl (t, n1, .inl g)) ∧ (t = 2 → ∀ x, x < n0 → f x = 0 ∨ f x = 1) ∧ K (pc + 3) lv r (h.set q (.inl (t, n1, .inl (va_cpy f g sp.toNatClampNeg dp.toNatClampNeg n.toNatClampNeg)))) c s) ∨
   (∃ f g, h[k]? = some (.inl (3, n0, .inr (.inl f))) ∧ h[q]? = some (.inl (3, n1, .inr (.inl g))) ∧ K (pc + 3) lv r (h.set q (.inl (3, n1, .inr (.inl (va_cpy f g sp.toNatClampNeg dp.toNatClampNeg n.toNatClampNeg))))) c s))
def opCall (C : aC) (cT sT : Nat) (K : aK) (pc : Nat) (lv : aL) (h : aH) (c s a : Nat) (As r : List Value) : Prop := a < 244 ∧ (r.map fun v => v.category).sum ≤ 8 ∧ ∃ rv h1 cc ss, C a As h rv h1 cc ss ∧ c + cc ≤ cT ∧ s + ss ≤ sT ∧ K (pc + 3) lv (rv.toList ++ r) h1 (c + cc) (s + ss)
def opVir (C : aC) (cT sT : Nat) (K : aK) (pc : Nat) (lv : aL) (st : List Value) (h : aH) (c s a : Nat) : Prop := match a with
  | 1004 => ∃ q r, st = .retAddr q :: r ∧ q < 20 ∧ (r.map fun v => v.category).sum ≤ 8 ∧ K (pc + 3) lv (.int (nI (lit q).length) :: r) h c s
  | 1005 => ∃ j q r, st = .int j :: .retAddr q :: r ∧ q < 20 ∧ (r.map fun v => v.category).sum ≤ 8 ∧ vp_in j (lit q).length ∧ K (pc + 3) lv (.int ((lit q).getD j.toNatClampNeg 0) :: r) h c s
  | a => mKd a = 0 ∧ ∃ As k r fs, popN (mArg a) [] st = some (As, .ref k :: r) ∧ h[k]? = some (.inr (mOwn a, fs)) ∧ opCall C cT sT K pc lv h c s a (.ref k :: As) r
def opSta (C : aC) (cT sT : Nat) (K : aK) (pc : Nat) (lv : aL) (st : List Value) (h : aH) (c s a : Nat) : Prop := match a with
  | 1001 => ∃ x y r, st = .int y :: .int x :: r ∧ (r.map fun v => v.category).sum ≤ 8 ∧ K (pc + 3) lv (.int (if y < x then y else x) :: r) h c s
  | 1002 => ∃ x y r, st = .int y :: .int x :: r ∧ (r.map fun v => v.category).sum ≤ 8 ∧ K (pc + 3) lv (.int (if x < y then y else x) :: r) h c s
  | 1003 => opCpy K pc lv st h c s
  | a => mKd a = 1 ∧ ∃ As r, popN (mArg a) [] st = some (As, r) ∧ opCall C cT sT K pc lv h c s a As r
def opSpe (C : aC) (cT sT : Nat) (K : aK) (pc : Nat) (lv : aL) (st : List Value) (h : aH) (c s a : Nat) : Prop := match a with
  | 1000 => ∃ k r, st = .ref k :: r ∧ (r.map fun v => v.category).sum ≤ 8 ∧ K (pc + 3) lv r h c s
  | a => mKd a = 2 ∧ ∃ As k r, popN (mArg a) [] st = some (As, .ref k :: r) ∧ opCall C cT sT K pc lv h c s a (.ref k :: As) r
def StpOp (C : aC) (i : Nat) (K : aK) (op : Instr) (a b pc : Nat) (lv : aL) (st : List Value) (h : aH) (c s : Nat) (r : Option Value) (h' : aH) (cT sT : Nat) : Prop := match op with
  | .iload_n k => opLd K (pc + 1) lv st h c s k.val 0
  | .iload k => opLd K (pc + 2) lv st h c s k 0
  | .lload_n k => opLd K (pc + 1) lv st h c s k.val 1
  | .lload k => opLd K (pc + 2) lv st h c s k 1
  | .aload_n k => opLd K (pc + 1) lv st h c s k.val 2
  | .aload k => opLd K (pc + 2) lv st h c s k 2
  | .istore_n k => opSt i K (pc + 1) lv st h c s k.val 0
  | .istore k => opSt i K (pc + 2) lv st h c s k 0
  | .lstore_n k => opSt i K (pc + 1) lv st h c s k.val 1
  | .lstore k => opSt i K (pc + 2) lv st h c s k 1
  | .astore_n k => opSt i K (pc + 1) lv st h c s k.val 2
  | .astore k => opSt i K (pc + 2) lv st h c s k 2
  | .iinc k n => ∃ x, lvG lv k = some (.int x) ∧ k < mMax i ∧ K (pc + 3) (lvP lv k (.int (x + Int32.ofInt n))) st h c s
  | .goto off => K (jmp pc off) lv st h c s
  | .ifCond cd off => ∃ x r0, st = .int x :: r0 ∧ (jT cd x 0 → K (jmp pc off) lv r0 h c s) ∧ (jF cd x 0 → K (pc + 3) lv r0 h c s)
  | .if_icmp cd off => ∃ x y r0, st = .int y :: .int x :: r0 ∧ (jT cd x y → K (jmp pc off) lv r0 h c s) ∧ (jF cd x y → K (pc + 3) lv r0 h c s)
  | .ifnonnull off => (∃ k r0, st = .ref k :: r0 ∧ K (jmp pc off) lv r0 h c s) ∨ (∃ r0, st = .null :: r0 ∧ K (pc + 3) lv r0 h c s)
  | .tableswitch df lo hi offs => ∃ x r0 off, st = .int x :: r0 ∧ swOff df lo hi offs x = some off ∧ 0 ≤ (pc : Int) + off ∧ K (jmp pc off) lv r0 h c s
  | .lookupswitch df ps => ∃ x r0 off, st = .int x :: r0 ∧ (ps.toList.zip (ps.toList.drop 1)).all (fun (a, next) => a.1 < next.1) = true ∧ Op.lookupswitch.offset ps.toList df x.toInt = off ∧ 0 ≤ (pc : Int) + off ∧ K (jmp pc off) lv r0 h c s
  | .idiv => ∃ x y r0, st = .int y :: .int x :: r0 ∧ ¬ y = 0 ∧ K (pc + 1) lv (.int (x / y) :: r0) h c s
  | .irem => ∃ x y r0, st = .int y :: .int x :: r0 ∧ ¬ y = 0 ∧ K (pc + 1) lv (.int (x - x / y * y) :: r0) h c s
  | .ldiv => ∃ x y r0, st = .long y :: .long x :: r0 ∧ ¬ y = 0 ∧ K (pc + 1) lv (.long (x / y) :: r0) h c s
  | .lrem => ∃ x y r0, st = .long y :: .long x :: r0 ∧ ¬ y = 0 ∧ K (pc + 1) lv (.long (x - x / y * y) :: r0) h c s
  | .getfield _ => opGet K pc lv st h c s a b
  | .putfield _ => opPut K pc lv st h c s a b
  | .iaload => opIald C K pc lv st h c s
  | .baload => opBald K pc lv st h c s
  | .laload => opLald K pc lv st h c s
  | .aaload => opAald K pc lv st h c s
  | .iastore => opIast K pc lv st h c s
  | .bastore => opBast K pc lv st h c s
  | .lastore => opLast K pc lv st h c s
  | .aastore => opAast K pc lv st h c s
  | .arraylength => opAlen C K pc lv st h c s
  | .new _ => opNew cT sT K pc lv st h c s a
  | .newarray ty => opNewa cT sT K pc lv st h c s ty
  | .anewarray _ => opAnew cT sT K pc lv st h c s a
  | .ldc _ => match a with
    | 0 => K (pc + 2) lv (.int (cstI.getD b 0) :: st) h c s
    | _ => b < 20 ∧ K (pc + 2) lv (.retAddr b :: st) h c s
  | .ldc_w _ => K (pc + 3) lv (.int (cstI.getD b 0) :: st) h c s
  | .ldc2_w _ => K (pc + 3) lv (.long (cstL.getD a 0) :: st) h c s
  | .invokevirtual _ => opVir C cT sT K pc lv st h c s a
  | .invokestatic _ => opSta C cT sT K pc lv st h c s a
  | .invokespecial _ => opSpe C cT sT K pc lv st h c s a
  | .ireturn => ∃ x ty, st = [.int x] ∧ r = some (.int x) ∧ h' = h ∧ c = cT ∧ mRet i = some ty ∧ narrow ty (.int x) = .int x
  | .lreturn => ∃ x, st = [.long x] ∧ r = some (.long x) ∧ h' = h ∧ c = cT ∧ mRet i = some .long
  | .return_ => st = [] ∧ r = none ∧ h' = h ∧ c = cT ∧ mRet i = none
  | op => ∃ st', pureOp op st = some st' ∧ K (pc + lenOf op) lv st' h c s
def Ev (C : aC) (i : Nat) : Nat → Nat → aL → List Value → aH → Nat → Nat → Option Value → aH → Nat → Nat → Prop
  | 0, _, _, _, _, _, _, _, _, _, _ => False
  | n + 1, pc, lv0, st, h, c, s, r, h', cT, sT => ∃ (lv : aL) (op : Instr) (a b : Nat), (∀ q ∈ lv, q ∈ lv0) ∧ ins i pc = some (op, a, b) ∧ StpOp C i (fun pc lv st h c s => Ev C i n pc lv st h c s r h' cT sT) op a b pc lv st h c s r h' cT sT
def Rn : Nat → aC
  | 0, _, _, _, _, _, _, _ => False
  | d + 1, j, As, h, r, h', cT, sT => j < 244 ∧ (lg_sl As).length ≤ mMax j ∧ ∃ n, Ev (Rn d) j n 0 (lv_args 0 As) [] h 0 0 r h' cT sT
