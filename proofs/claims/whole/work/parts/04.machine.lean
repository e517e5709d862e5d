/-! THE MACHINE OF SMALL WORDS: values are integers, the heap is a function of object and place; what a step asks stands as a formula -/
abbrev AV : Type := Option (Int ⊕ (Int ⊕ Option Nat))
abbrev Hp : Type := Nat → Int → Int
abbrev vI (x : Int) : AV := some (.inl x)
abbrev vL (x : Int) : AV := some (.inr (.inl x))
abbrev vA (o : Nat) : AV := some (.inr (.inr (some o)))
abbrev vN : AV := some (.inr (.inr none))
abbrev aGO : Type := Nat → List AV → List AV → Hp → Prop
abbrev aPO : Type := AV → Hp → Prop
abbrev aCA : Type := Nat → List AV → Hp → aPO → Prop
def hup (h : Hp) (o : Nat) (i v : Int) : Hp := fun a j => if a = o ∧ j = i then v else h a j
def hcp (h : Hp) (o : Nat) (sp : Int) (q : Nat) (dp n : Int) : Hp := fun a j => if a = q ∧ dp ≤ j ∧ j < dp + n then h o (sp + (j - dp)) else h a j
def lget (ls : List AV) (k : Nat) : AV := nth none ls k
def setn : List AV → Nat → AV → List AV
  | [], _, _ => []
  | _ :: xs, 0, v => v :: xs
  | x :: xs, n + 1, v => x :: setn xs n v
def kill (ls : List AV) (k : Nat) : List AV := match lget ls k with
  | some (.inr (.inl _)) => setn ls k none
  | _ => ls
def stor (ls : List AV) (k : Nat) (v : AV) : List AV := match k with
  | 0 => setn ls 0 v
  | j + 1 => setn (kill ls j) (j + 1) v
def stor2 (ls : List AV) (k : Nat) (v : AV) : List AV := setn (stor ls k v) (k + 1) none
def ents : List AV → List AV
  | [] => []
  | some (.inr (.inl x)) :: vs => some (.inr (.inl x)) :: none :: ents vs
  | v :: vs => v :: ents vs
def pad : List AV → Nat → List AV
  | [], 0 => []
  | [], n + 1 => none :: pad [] n
  | x :: xs, 0 => x :: xs
  | x :: xs, n + 1 => x :: pad xs n
def takeR : Nat → List AV → List AV → List AV
  | 0, acc, _ => acc
  | n + 1, acc, x :: xs => takeR n (x :: acc) xs
  | _ + 1, acc, [] => acc
def dropN : Nat → List AV → List AV
  | 0, xs => xs
  | n + 1, _ :: xs => dropN n xs
  | _ + 1, [] => []
def pushR (r : AV) (st : List AV) : List AV := match r with
  | none => st
  | some v => some v :: st
def lkE (pc : Nat) : List cEn → Option (Instr × Nat × Nat × Int)
  | [] => none
  | e :: es => bif Nat.beq e.1 pc then some e.2 else lkE pc es
def codeAt (m pc : Nat) : Option (Instr × Nat × Nat × Int) := lkE pc (nth [] (nth2 [] cdT m) (pc / 16))
def nAr (m : Nat) : Nat := nth2 0 nAT m
def mLo (m : Nat) : Nat := nth2 0 mLT m
def rBo (m : Nat) : Nat := nth2 9 rBT m
def bInt (x : Int) : Prop := -2147483648 ≤ x ∧ x < 2147483648
def br (c : Prop) (A B : Prop) : Prop := (c → A) ∧ (¬ c → B)
def lcI (x y : Int) : Int := if x < y then -1 else if x = y then 0 else 1
def iAnd (x y : Int) : Int := (Int32.ofInt x &&& Int32.ofInt y).toInt
def iOr (x y : Int) : Int := (Int32.ofInt x ||| Int32.ofInt y).toInt
def iXor (x y : Int) : Int := (Int32.ofInt x ^^^ Int32.ofInt y).toInt
def iShl (x y : Int) : Int := (Int32.ofInt x <<< (Int32.ofInt y &&& 31)).toInt
def iShr (x y : Int) : Int := (Int32.ofInt x >>> (Int32.ofInt y &&& 31)).toInt
def iUshr (x y : Int) : Int := ((Int32.ofInt x).toUInt32 >>> ((Int32.ofInt y).toUInt32 &&& Int32.toUInt32 31)).toInt32.toInt
def iB (x : Int) : Int := (Int32.ofInt x).toInt8.toInt32.toInt
def lOr (x y : Int) : Int := (Int64.ofInt x ||| Int64.ofInt y).toInt
def lShl (x y : Int) : Int := (Int64.ofInt x <<< ((Int32.ofInt y).toInt64 &&& 63)).toInt
def lShr (x y : Int) : Int := (Int64.ofInt x >>> ((Int32.ofInt y).toInt64 &&& 63)).toInt
def xI1 (st : List AV) (f : Int → List AV → Prop) : Prop := match st with
  | some (.inl x) :: r => f x r
  | _ => False
def xI2 (st : List AV) (f : Int → Int → List AV → Prop) : Prop := match st with
  | some (.inl y) :: some (.inl x) :: r => f x y r
  | _ => False
def xL1 (st : List AV) (f : Int → List AV → Prop) : Prop := match st with
  | some (.inr (.inl x)) :: r => f x r
  | _ => False
def xL2 (st : List AV) (f : Int → Int → List AV → Prop) : Prop := match st with
  | some (.inr (.inl y)) :: some (.inr (.inl x)) :: r => f x y r
  | _ => False
def xLI (st : List AV) (f : Int → Int → List AV → Prop) : Prop := match st with
  | some (.inl y) :: some (.inr (.inl x)) :: r => f x y r
  | _ => False
def xA1 (st : List AV) (f : Nat → List AV → Prop) : Prop := match st with
  | some (.inr (.inr (some o))) :: r => f o r
  | _ => False
def xAI (st : List AV) (f : Nat → Int → List AV → Prop) : Prop := match st with
  | some (.inl i) :: some (.inr (.inr (some o))) :: r => f o i r
  | _ => False
def ldI (v : AV) (f : AV → Prop) : Prop := match v with
  | some (.inl x) => f (some (.inl x))
  | _ => False
def ldL (v : AV) (f : AV → Prop) : Prop := match v with
  | some (.inr (.inl x)) => f (some (.inr (.inl x)))
  | _ => False
def ldA (v : AV) (f : AV → Prop) : Prop := match v with
  | some (.inr (.inr x)) => f (some (.inr (.inr x)))
  | _ => False
def sw (x : Int) (f : Nat → Prop) (d : Nat) : List (Int × Nat) → Prop
  | [] => f d
  | (k, t) :: r => br (x = k) (f t) (sw x f d r)
def cndE (x y : Int) (c : Jvm.ClassFile.Cond) (A B : Prop) : Prop := match c with
  | .eq => br (x = y) A B
  | .ne => br (x ≠ y) A B
  | .lt => br (x < y) A B
  | .ge => br (y ≤ x) A B
  | .gt => br (y < x) A B
  | .le => br (x ≤ y) A B
/-- a field's value -/
def fgo (h : Hp) (o ci : Nat) (k : Int) (f : AV → Prop) : Prop := match Nat.beq (shK o) ci with
  | false => False
  | true => match fkOf ci k.toNat with
    | 0 => f (some (.inl (h o k)))
    | 1 => f (some (.inl (h o k)))
    | 2 => f (some (.inr (.inl (h o k))))
    | 3 => match shR o k.toNat with
      | some q => f (some (.inr (.inr (some q))))
      | none => False
    | _ => False
def pgo (h : Hp) (o ci : Nat) (k : Int) (v : AV) (f : Hp → Prop) : Prop := match Nat.beq (shK o) ci with
  | false => False
  | true => match fkOf ci k.toNat, v with
    | 0, some (.inl x) => f (hup h o k x)
    | 1, some (.inl x) => (x = 0 ∨ x = 1) ∧ f (hup h o k x)
    | 2, some (.inr (.inl x)) => f (hup h o k x)
    | _, _ => False
/-- a place of an array of kind t -/
def ago (o t : Nat) (i : Int) (f : Prop) : Prop := match Nat.beq (shK o) t with
  | false => False
  | true => (0 ≤ i ∧ i < (shN o : Int)) ∧ f
/-- bytes or booleans -/
def bgo (o : Nat) (i : Int) (f : Prop) : Prop := match shK o with
  | 101 => (0 ≤ i ∧ i < (shN o : Int)) ∧ f
  | 102 => (0 ≤ i ∧ i < (shN o : Int)) ∧ f
  | _ => False
def bsto (o : Nat) (i x : Int) (f : Prop) : Prop := match shK o with
  | 101 => ((0 ≤ i ∧ i < (shN o : Int)) ∧ (-128 ≤ x ∧ x < 128)) ∧ f
  | 102 => ((0 ≤ i ∧ i < (shN o : Int)) ∧ (x = 0 ∨ x = 1)) ∧ f
  | _ => False
def rgo (o : Nat) (i : Int) (f : AV → Prop) : Prop := match Nat.beq (shK o) 104 with
  | false => False
  | true => (0 ≤ i ∧ i < (shN o : Int)) ∧ (match shR o i.toNat with
    | some q => f (some (.inr (.inr (some q))))
    | none => False)
def lgo (o : Nat) (f : Int → Prop) : Prop := match Nat.ble 100 (shK o) && Nat.ble (shK o) 104 with
  | false => False
  | true => f (shN o : Int)
/-- the text of the words -/
def strB : List Int := [100, 114, 105, 101, 115, 32, 101, 114, 114, 115, 32, 102, 105, 110, 101, 32, 111, 110, 101, 32, 98, 114, 105, 109, 32, 115, 116, 97, 110, 100, 97, 114, 100, 32, 100, 111, 32, 119, 101, 101, 112, 32, 119, 97, 115, 104, 32, 112, 111, 117, 114, 32, 98, 101, 110, 100, 32, 115, 104, 114, 105, 110, 107, 32, 100, 97, 121, 32, 119, 104, 111, 32, 115, 116, 117, 102, 102, 32, 100, 101, 110, 116, 32, 114, 111, 111, 109, 32, 107, 105, 110, 100, 32, 100, 114, 111, 112, 115, 32, 99, 111, 105, 110, 115, 32, 116, 101, 97, 114, 115, 32, 111, 102, 32, 98, 121, 32, 97, 98, 111, 118, 101, 32, 98, 114, 105, 109, 115, 32, 105, 102, 32, 116, 104, 101, 110, 32, 101, 108, 115, 101, 32, 101, 110, 100, 32, 111, 114, 32, 97, 110, 100, 32, 110, 111, 116, 32]
def catS : List AV → Nat
  | [] => 0
  | some (.inr (.inl _)) :: r => 2 + catS r
  | _ :: r => 1 + catS r
def okC (a : Nat) (st : List AV) : Bool := Nat.ble (catS (dropN (nAr a) st)) 8 && (Nat.ble (ents (takeR (nAr a) [] st)).length (mLo a) && Nat.beq (takeR (nAr a) [] st).length (nAr a))
def okR (a : Nat) (st : List AV) : Bool := match takeR (nAr a) [] st with
  | some (.inr (.inr (some o))) :: _ => Nat.beq (shK o) (nth2 99 mCT a)
  | _ => false
def invM (PC : aCA) (go : aGO) (a nxt : Nat) (ls st : List AV) (h : Hp) : Prop := match okC a st with
  | false => False
  | true => PC a (pad (ents (takeR (nAr a) [] st)) (mLo a)) h (fun r h2 => go nxt ls (pushR r (dropN (nAr a) st)) h2)
def copyM (go : aGO) (nxt : Nat) (ls st : List AV) (h : Hp) : Prop := match st with
  | some (.inl n) :: some (.inl dp) :: some (.inr (.inr (some q))) :: some (.inl sp) :: some (.inr (.inr (some o))) :: r =>
    match Nat.beq (shK o) 100 && (Nat.beq (shK q) 100 && Nat.ble (catS r) 8) with
    | false => False
    | true => (0 ≤ sp ∧ 0 ≤ dp ∧ 0 ≤ n ∧ sp + n ≤ (shN o : Int) ∧ dp + n ≤ (shN q : Int)) ∧ go nxt ls r (hcp h o sp q dp n)
  | _ => False
def lenM (go : aGO) (nxt : Nat) (ls st : List AV) (h : Hp) : Prop := match st with
  | some (.inr (.inr (some 96))) :: r => match Nat.ble (catS r) 8 with
    | false => False
    | true => go nxt ls (vI 157 :: r) h
  | _ => False
def chrM (go : aGO) (nxt : Nat) (ls st : List AV) (h : Hp) : Prop := match st with
  | some (.inl i) :: some (.inr (.inr (some 96))) :: r => match Nat.ble (catS r) 8 with
    | false => False
    | true => (0 ≤ i ∧ i < 157) ∧ go nxt ls (vI (nth 0 strB i.toNat) :: r) h
  | _ => False
def maxM (go : aGO) (nxt : Nat) (ls st : List AV) (h : Hp) : Prop := xI2 st (fun x y r => match Nat.ble (catS r) 8 with
  | false => False
  | true => go nxt ls (vI (max x y) :: r) h)
def minM (go : aGO) (nxt : Nat) (ls st : List AV) (h : Hp) : Prop := xI2 st (fun x y r => match Nat.ble (catS r) 8 with
  | false => False
  | true => go nxt ls (vI (min x y) :: r) h)
def absM (go : aGO) (nxt : Nat) (ls st : List AV) (h : Hp) : Prop := xI1 st (fun x r => match Nat.ble (catS r) 8 with
  | false => False
  | true => (x ≠ -2147483648) ∧ go nxt ls (vI (if 0 ≤ x then x else 0 - x) :: r) h)
def invS (PC : aCA) (go : aGO) (a nxt : Nat) (ls st : List AV) (h : Hp) : Prop := match Nat.ble 1000 a with
  | false => invM PC go a nxt ls st h
  | true => match a - 1000 with
    | 0 => copyM go nxt ls st h
    | 3 => maxM go nxt ls st h
    | 4 => minM go nxt ls st h
    | 5 => absM go nxt ls st h
    | _ => False
def invV (PC : aCA) (go : aGO) (a nxt : Nat) (ls st : List AV) (h : Hp) : Prop := match Nat.beq a 1001 with
  | true => lenM go nxt ls st h
  | false => match Nat.beq a 1002 with
    | true => chrM go nxt ls st h
    | false => match okR a st with
      | false => False
      | true => invM PC go a nxt ls st h
def semI (PC : aCA) (go : aGO) (ins : Instr) (nxt a : Nat) (b : Int) (m : Nat) (ls st : List AV) (h : Hp) (Q : aPO) : Prop := match ins with
  | .iconst n => go nxt ls (vI n :: st) h
  | .bipush n => go nxt ls (vI n :: st) h
  | .sipush n => go nxt ls (vI n :: st) h
  | .lconst n => go nxt ls (vL (n.val : Int) :: st) h
  | .ldc _ => match a with
    | 0 => go nxt ls (vI b :: st) h
    | _ => go nxt ls (vA 96 :: st) h
  | .ldc_w _ => go nxt ls (vI b :: st) h
  | .ldc2_w _ => go nxt ls (vL b :: st) h
  | .iload_n k => ldI (lget ls k.val) (fun v => go nxt ls (v :: st) h)
  | .iload k => ldI (lget ls k) (fun v => go nxt ls (v :: st) h)
  | .lload_n k => ldL (lget ls k.val) (fun v => go nxt ls (v :: st) h)
  | .lload k => ldL (lget ls k) (fun v => go nxt ls (v :: st) h)
  | .aload_n k => ldA (lget ls k.val) (fun v => go nxt ls (v :: st) h)
  | .aload k => ldA (lget ls k) (fun v => go nxt ls (v :: st) h)
  | .istore_n k => xI1 st (fun x r => go nxt (stor ls k.val (vI x)) r h)
  | .istore k => xI1 st (fun x r => go nxt (stor ls k (vI x)) r h)
  | .lstore_n k => xL1 st (fun x r => go nxt (stor2 ls k.val (vL x)) r h)
  | .lstore k => xL1 st (fun x r => go nxt (stor2 ls k (vL x)) r h)
  | .astore_n k => xA1 st (fun x r => go nxt (stor ls k.val (vA x)) r h)
  | .astore k => xA1 st (fun x r => go nxt (stor ls k (vA x)) r h)
  | .iinc k n => match lget ls k with
    | some (.inl x) => (-2147483648 ≤ x + n ∧ x + n < 2147483648) ∧ go nxt (stor ls k (vI (x + n))) st h
    | _ => False
  | .iadd => xI2 st (fun x y r => (-2147483648 ≤ x + y ∧ x + y < 2147483648) ∧ go nxt ls (vI (x + y) :: r) h)
  | .isub => xI2 st (fun x y r => (-2147483648 ≤ x - y ∧ x - y < 2147483648) ∧ go nxt ls (vI (x - y) :: r) h)
  | .imul => xI2 st (fun x y r => (-2147483648 ≤ x * y ∧ x * y < 2147483648) ∧ go nxt ls (vI (x * y) :: r) h)
  | .idiv => xI2 st (fun x y r => (y ≠ 0 ∧ (0 ≤ x ∨ 0 ≤ y)) ∧ go nxt ls (vI (x.tdiv y) :: r) h)
  | .irem => xI2 st (fun x y r => (y ≠ 0 ∧ (0 ≤ x ∨ 0 ≤ y)) ∧ go nxt ls (vI (x.tmod y) :: r) h)
  | .ineg => xI1 st (fun x r => (x ≠ -2147483648) ∧ go nxt ls (vI (-x) :: r) h)
  | .iand => xI2 st (fun x y r => go nxt ls (vI (iAnd x y) :: r) h)
  | .ior => xI2 st (fun x y r => go nxt ls (vI (iOr x y) :: r) h)
  | .ixor => xI2 st (fun x y r => go nxt ls (vI (iXor x y) :: r) h)
  | .ishl => xI2 st (fun x y r => go nxt ls (vI (iShl x y) :: r) h)
  | .ishr => xI2 st (fun x y r => go nxt ls (vI (iShr x y) :: r) h)
  | .iushr => xI2 st (fun x y r => go nxt ls (vI (iUshr x y) :: r) h)
  | .ladd => xL2 st (fun x y r => (-9223372036854775808 ≤ x + y ∧ x + y < 9223372036854775808) ∧ go nxt ls (vL (x + y) :: r) h)
  | .lsub => xL2 st (fun x y r => (-9223372036854775808 ≤ x - y ∧ x - y < 9223372036854775808) ∧ go nxt ls (vL (x - y) :: r) h)
  | .lmul => xL2 st (fun x y r => (-9223372036854775808 ≤ x * y ∧ x * y < 9223372036854775808) ∧ go nxt ls (vL (x * y) :: r) h)
  | .ldiv => xL2 st (fun x y r => (y ≠ 0 ∧ (0 ≤ x ∨ 0 ≤ y ∨ -9223372036854775808 < x)) ∧ go nxt ls (vL (x.tdiv y) :: r) h)
  | .lrem => xL2 st (fun x y r => (y ≠ 0 ∧ (0 ≤ x ∨ 0 ≤ y)) ∧ go nxt ls (vL (x.tmod y) :: r) h)
  | .lneg => xL1 st (fun x r => (x ≠ -9223372036854775808) ∧ go nxt ls (vL (-x) :: r) h)
  | .lor => xL2 st (fun x y r => go nxt ls (vL (lOr x y) :: r) h)
  | .lshl => xLI st (fun x y r => go nxt ls (vL (lShl x y) :: r) h)
  | .lshr => xLI st (fun x y r => go nxt ls (vL (lShr x y) :: r) h)
  | .lcmp => xL2 st (fun x y r => go nxt ls (vI (lcI x y) :: r) h)
  | .i2l => xI1 st (fun x r => go nxt ls (vL x :: r) h)
  | .l2i => xL1 st (fun x r => (-2147483648 ≤ x ∧ x < 2147483648) ∧ go nxt ls (vI x :: r) h)
  | .i2b => xI1 st (fun x r => go nxt ls (vI (iB x) :: r) h)
  | .dup => match st with
    | some (.inl x) :: r => go nxt ls (vI x :: vI x :: r) h
    | some (.inr (.inr x)) :: r => go nxt ls (some (.inr (.inr x)) :: some (.inr (.inr x)) :: r) h
    | _ => False
  | .dup2 => match st with
    | some (.inl x) :: some (.inr (.inr y)) :: r => go nxt ls (vI x :: some (.inr (.inr y)) :: vI x :: some (.inr (.inr y)) :: r) h
    | _ => False
  | .pop => xI1 st (fun _ r => go nxt ls r h)
  | .aconst_null => go nxt ls (vN :: st) h
  | .ifCond c _ => xI1 st (fun x r => cndE x 0 c (go a ls r h) (go nxt ls r h))
  | .if_icmp c _ => xI2 st (fun x y r => cndE x y c (go a ls r h) (go nxt ls r h))
  | .ifnull _ => match st with
    | some (.inr (.inr none)) :: r => go a ls r h
    | some (.inr (.inr (some _))) :: r => go nxt ls r h
    | _ => False
  | .goto _ => go a ls st h
  | .tableswitch _ _ _ _ => xI1 st (fun x r => sw x (fun t => go t ls r h) (nth (0, []) swT a).1 (nth (0, []) swT a).2)
  | .lookupswitch _ _ => xI1 st (fun x r => sw x (fun t => go t ls r h) (nth (0, []) swT a).1 (nth (0, []) swT a).2)
  | .getfield _ => xA1 st (fun o r => fgo h o a b (fun v => go nxt ls (v :: r) h))
  | .putfield _ => match st with
    | v :: some (.inr (.inr (some o))) :: r => pgo h o a b v (fun h2 => go nxt ls r h2)
    | _ => False
  | .iaload => xAI st (fun o i r => ago o 100 i (go nxt ls (vI (h o i) :: r) h))
  | .baload => xAI st (fun o i r => bgo o i (go nxt ls (vI (h o i) :: r) h))
  | .laload => xAI st (fun o i r => ago o 103 i (go nxt ls (vL (h o i) :: r) h))
  | .aaload => xAI st (fun o i r => rgo o i (fun v => go nxt ls (v :: r) h))
  | .iastore => xI1 st (fun x r => xAI r (fun o i r2 => ago o 100 i (go nxt ls r2 (hup h o i x))))
  | .bastore => xI1 st (fun x r => xAI r (fun o i r2 => bsto o i x (go nxt ls r2 (hup h o i x))))
  | .lastore => xL1 st (fun x r => xAI r (fun o i r2 => ago o 103 i (go nxt ls r2 (hup h o i x))))
  | .arraylength => xA1 st (fun o r => lgo o (fun n => go nxt ls (vI n :: r) h))
  | .invokestatic _ => invS PC go a nxt ls st h
  | .invokevirtual _ => invV PC go a nxt ls st h
  | .ireturn => match st with
    | [some (.inl x)] => match rBo m with
      | 1 => Q (vI x) h
      | 2 => (x = 0 ∨ x = 1) ∧ Q (vI x) h
      | _ => False
    | _ => False
  | .lreturn => match st with
    | [some (.inr (.inl x))] => match rBo m with
      | 3 => Q (vL x) h
      | _ => False
    | _ => False
  | .areturn => match st with
    | [some (.inr (.inr x))] => match rBo m with
      | 4 => Q (some (.inr (.inr x))) h
      | _ => False
    | _ => False
  | .return_ => match st with
    | [] => match rBo m with
      | 0 => Q none h
      | _ => False
    | _ => False
  | _ => False
def semM (PC : aCA) (go : aGO) (m pc : Nat) (ls st : List AV) (h : Hp) (Q : aPO) : Prop := match codeAt m pc with
  | some (ins, nxt, a, b) => semI PC go ins nxt a b m ls st h Q
  | none => False
abbrev aRL : Type := Nat → Nat → Nat → List AV → List AV → Hp → aPO → Prop
def inCall (X : aRL) (d : Nat) : aCA := match d with
  | 0 => fun _ _ _ _ => False
  | e + 1 => fun a ls h Q => X e a 0 ls [] h Q
def aShut (X : aRL) : Prop := (∀ d m pc ls st h Q Q', (∀ r h2, Q r h2 → Q' r h2) → X d m pc ls st h Q → X d m pc ls st h Q') ∧
  ∀ d m pc ls st h Q, semM (inCall X d) (fun pc ls st h => X d m pc ls st h Q) m pc ls st h Q → X d m pc ls st h Q
/-- from this frame the machine comes to its end, with an answer and a heap of Q -/
def Runs (d m pc : Nat) (ls st : List AV) (h : Hp) (Q : aPO) : Prop := ∀ X : aRL, aShut X → X d m pc ls st h Q
