/-! AN ABSTRACT MACHINE over the claim's own instructions: values, a memory by (class, which one, part, place), one step, a run, its limit. Depth d bounds the calls that stand open. -/
abbrev V_ : Type := Int32 ⊕ (Int64 ⊕ (Nat × Nat × Nat))
abbrev vi (x : Int32) : V_ := Sum.inl x
abbrev vl (x : Int64) : V_ := Sum.inr (Sum.inl x)
abbrev vr (c n k : Nat) : V_ := Sum.inr (Sum.inr (c, n, k))
abbrev Mem_ : Type := Nat → Nat → Nat → Nat → Int32
abbrev Lv_ : Type := List (Option V_)
abbrev Rs_ : Type := Int32 × Mem_
abbrev Go_ : Type := Nat → Lv_ → List V_ → Mem_ → Option Rs_
abbrev Cl_ : Type := Nat → List V_ → Mem_ → Option Rs_
abbrev E_ : Type := Instr × Nat × Nat × Nat × Nat × Int32 × Int64
def up (O : Mem_) (c n p j : Nat) (v : Int32) : Mem_ := fun c' n' p' j' => if c' = c ∧ n' = n ∧ p' = p ∧ j' = j then v else O c' n' p' j'
def cpy (O : Mem_) (c0 n0 p0 c n p sp dp len : Nat) : Mem_ := fun c' n' p' j' => if c' = c ∧ n' = n ∧ p' = p ∧ dp ≤ j' ∧ j' < dp + len then O c0 n0 p0 (sp + (j' - dp)) else O c' n' p' j'
/-- a row of longs: each takes two places -/
def lgl (x : Int64) : Int32 := x.toInt32
def lgh (x : Int64) : Int32 := (x >>> 32).toInt32
def lgc (l h : Int32) : Int64 := (h.toInt64 <<< 32) ||| (l.toInt64 &&& 4294967295)
def rdL (O : Mem_) (c n p j : Nat) : Int64 := lgc (O c n p (2 * j)) (O c n p (2 * j + 1))
def upL (O : Mem_) (c n p j : Nat) (v : Int64) : Mem_ := up (up O c n p (2 * j) (lgl v)) c n p (2 * j + 1) (lgh v)
def ib (i : Int32) (N : Nat) : Bool := decide (¬ i < 0) && decide (i.toNatClampNeg < N)
def sel (x : Int32) : Nat := if x = 0 then 0 else 1
def ln : Lv_ → Nat → Option V_
  | [], _ => none
  | x :: _, 0 => x
  | _ :: l, i + 1 => ln l i
def unl : Option V_ → Option V_
  | some (Sum.inr (Sum.inl _)) => none
  | x => x
def ls0 : Lv_ → V_ → Lv_
  | l, Sum.inr (Sum.inl x) => some (vl x) :: none :: l.tail.tail
  | [], v => [some v]
  | _ :: l, v => some v :: l
def lst : Lv_ → Nat → V_ → Lv_
  | l, 0, v => ls0 l v
  | [], 1, v => none :: ls0 [] v
  | x :: l, 1, v => unl x :: ls0 l v
  | [], i + 2, v => none :: lst [] (i + 1) v
  | x :: l, i + 2, v => x :: lst l (i + 1) v
def lay : List V_ → Lv_
  | [] => []
  | Sum.inr (Sum.inl x) :: l => some (vl x) :: none :: lay l
  | v :: l => some v :: lay l
/-- the parts that are rows: kind of their places (0 int, 1 boolean, 2.. references), how many -/
def atb : List (List (Nat × Nat)) := [
  [(9, 0), (9, 0), (0, 24), (0, 24), (0, 6), (0, 6), (0, 4)],
  [(9, 0), (9, 0), (0, 24), (0, 24), (1, 24), (9, 0), (9, 0), (0, 12), (1, 12)],
  [(9, 0), (0, 4), (0, 4), (4, 4), (0, 40), (0, 40), (0, 40), (0, 40)],
  [(9, 0), (0, 400)],
  [(9, 0), (9, 0), (9, 0), (9, 0), (9, 0), (0, 8), (0, 8), (0, 12), (0, 12), (0, 12), (0, 12), (0, 12), (0, 12), (0, 4), (0, 6), (0, 6), (0, 6), (1, 6), (0, 6), (0, 6)],
  [(9, 0), (0, 5), (9, 0), (0, 4), (9, 0), (0, 4), (3, 6), (3, 5)],
  [(9, 0), (9, 0), (9, 0), (9, 0), (9, 0), (2, 2)],
  [(9, 0), (0, 8), (0, 24), (0, 4), (0, 24), (0, 4), (5, 3), (0, 60), (0, 40), (0, 60)]]
def aty (c p : Nat) : Nat := ((atb.getD c []).getD p (9, 0)).1
def aln (c p : Nat) : Nat := ((atb.getD c []).getD p (9, 0)).2
def aref : Nat → Nat → Nat → Nat → V_
  | 6, _, _, i => vr 1 (1 + i) 0
  | 5, _, 6, i => vr 0 (2 + i) 0
  | 5, _, _, i => vr 0 (8 + i) 0
  | c, n, _, i => vr c n (4 + i)
def gfv : Nat → Nat → Nat → Nat → Mem_ → V_
  | 0, c, n, k, O => vi (O c n 0 k)
  | 1, c, n, k, _ => vr c n (k + 1)
  | 2, c, n, k, O => vr 4 (sel (O c n 0 k)) 0
  | m + 3, _, _, _, _ => vr (m / 16) (m % 16) 0
def swg {α : Type} (a : Int32) : List (Int32 × Nat) → Nat → (Nat → α) → α
  | [], d, g => g d
  | (k, t) :: r, d, g => if a = k then g t else swg a r d g
def fw_ : Nat → List V_ → Bool
  | _, [] => true
  | n + 2, Sum.inr (Sum.inl _) :: l => fw_ n l
  | n + 1, Sum.inl _ :: l => fw_ n l
  | n + 1, Sum.inr (Sum.inr _) :: l => fw_ n l
  | _, _ => false
/-- what lies under a call's arguments takes eight words at most -/
def few (l : List V_) : Bool := fw_ 8 l
def sT : List (List Int32) := [[116, 104, 105, 110, 103], [109, 101, 97, 110, 115], [119, 111, 114, 100], [112, 108, 97, 105, 110], [108, 97, 115, 116], [99, 97, 114, 101, 102, 117, 108], [112, 114, 111, 117, 100], [110, 111, 116], [115, 101, 101, 115], [102, 101, 97, 114, 115], [117, 110, 108, 105, 107, 101], [99, 104, 97, 110, 99, 101]]
/-- k places of a row hold 0 or 1 -/
def bok (O : Mem_) (c n p sp k : Nat) : Bool := (List.range k).all fun i => decide (O c n p (sp + i) = 0) || decide (O c n p (sp + i) = 1)
/-- what stands behind a call that is the JDK's: 1000 arraycopy, 1001 max, 1002 min, 1003 length, 1004 charAt -/
def intr : Cl_
  | 1000, [Sum.inr (Sum.inr (c0, n0, p0)), Sum.inl sp, Sum.inr (Sum.inr (c, n, p)), Sum.inl dp, Sum.inl k], O =>
    bif (aty c0 p0).blt 2 && (aty c p).beq (aty c0 p0) then
      if ¬ sp < 0 ∧ ¬ dp < 0 ∧ ¬ k < 0 ∧ sp.toNatClampNeg + k.toNatClampNeg ≤ aln c0 p0 ∧ dp.toNatClampNeg + k.toNatClampNeg ≤ aln c p then
        (bif (aty c0 p0).beq 0 then some (0, cpy O c0 n0 p0 c n p sp.toNatClampNeg dp.toNatClampNeg k.toNatClampNeg)
        else if bok O c0 n0 p0 sp.toNatClampNeg k.toNatClampNeg then some (0, cpy O c0 n0 p0 c n p sp.toNatClampNeg dp.toNatClampNeg k.toNatClampNeg) else none)
      else none
    else none
  | 1001, [Sum.inl x, Sum.inl y], O => some (if x < y then y else x, O)
  | 1002, [Sum.inl x, Sum.inl y], O => some (if y < x then y else x, O)
  | 1003, [Sum.inr (Sum.inr (9, i, 0))], O => some (nI (sT.getD i []).length, O)
  | 1004, [Sum.inr (Sum.inr (9, i, 0)), Sum.inl k], O => if ib k (sT.getD i []).length then some ((sT.getD i []).getD k.toNatClampNeg 0, O) else none
  | _, _, _ => none
def cl_ (f : Nat → Nat → Lv_ → List V_ → Mem_ → Option Rs_) : Cl_ := fun mi a O => bif mi.blt 1000 then f mi 0 (lay a) [] O else intr mi a O
def jmp (c : ClassFile.Cond) (a b : Int32) (t f : Option Rs_) : Option Rs_ := match c with
  | .eq => if a = b then t else f
  | .ne => if a = b then f else t
  | .lt => if a < b then t else f
  | .ge => if a < b then f else t
  | .gt => if b < a then t else f
  | .le => if b < a then f else t
def pI (st : List V_) (g : Int32 → List V_ → Option Rs_) : Option Rs_ := match st with
  | Sum.inl a :: s => g a s
  | _ => none
def pII (st : List V_) (g : Int32 → Int32 → List V_ → Option Rs_) : Option Rs_ := match st with
  | Sum.inl b :: Sum.inl a :: s => g a b s
  | _ => none
def pL (st : List V_) (g : Int64 → List V_ → Option Rs_) : Option Rs_ := match st with
  | Sum.inr (Sum.inl a) :: s => g a s
  | _ => none
def pLL (st : List V_) (g : Int64 → Int64 → List V_ → Option Rs_) : Option Rs_ := match st with
  | Sum.inr (Sum.inl b) :: Sum.inr (Sum.inl a) :: s => g a b s
  | _ => none
def pLI (st : List V_) (g : Int64 → Int32 → List V_ → Option Rs_) : Option Rs_ := match st with
  | Sum.inl b :: Sum.inr (Sum.inl a) :: s => g a b s
  | _ => none
def pR (st : List V_) (g : Nat → Nat → Nat → List V_ → Option Rs_) : Option Rs_ := match st with
  | Sum.inr (Sum.inr (c, n, p)) :: s => g c n p s
  | _ => none
def pRI (st : List V_) (g : Nat → Nat → Nat → Int32 → List V_ → Option Rs_) : Option Rs_ := match st with
  | Sum.inl i :: Sum.inr (Sum.inr (c, n, p)) :: s => g c n p i s
  | _ => none
def pRII (st : List V_) (g : Nat → Nat → Nat → Int32 → Int32 → List V_ → Option Rs_) : Option Rs_ := match st with
  | Sum.inl v :: Sum.inl i :: Sum.inr (Sum.inr (c, n, p)) :: s => g c n p i v s
  | _ => none
def pRIL (st : List V_) (g : Nat → Nat → Nat → Int32 → Int64 → List V_ → Option Rs_) : Option Rs_ := match st with
  | Sum.inr (Sum.inl v) :: Sum.inl i :: Sum.inr (Sum.inr (c, n, p)) :: s => g c n p i v s
  | _ => none
/-- the law's locals where it makes its other rows -/
def hlt : List (Nat × Nat) → Lv_ → Bool
  | [], [] => true
  | (c, p) :: l, some (Sum.inr (Sum.inr (c', n', p'))) :: m => c'.beq c && (n'.beq 0 && (p'.beq p && hlt l m))
  | _, _ => false
def hLv : List (Nat × Nat) := [(8, 0), (6, 0), (7, 1), (7, 2), (7, 3), (7, 4), (7, 5)]
def pRV (st : List V_) (g : Nat → Nat → Nat → V_ → List V_ → Option Rs_) : Option Rs_ := match st with
  | v :: Sum.inr (Sum.inr (c, n, p)) :: s => g c n p v s
  | _ => none
def gI (o : Option V_) (g : Int32 → Option Rs_) : Option Rs_ := match o with
  | some (Sum.inl a) => g a
  | _ => none
def gL (o : Option V_) (g : Int64 → Option Rs_) : Option Rs_ := match o with
  | some (Sum.inr (Sum.inl a)) => g a
  | _ => none
def gR (o : Option V_) (g : Nat → Nat → Nat → Option Rs_) : Option Rs_ := match o with
  | some (Sum.inr (Sum.inr (c, n, p))) => g c n p
  | _ => none
/-- n arguments from the stack, the first pushed first -/
def pN : Nat → List V_ → List V_ → (List V_ → List V_ → Option Rs_) → Option Rs_
  | 0, a, s, g => g a s
  | n + 1, a, v :: s, g => pN n (v :: a) s g
  | _ + 1, _, [], _ => none
/-- the first argument is an object of class c -/
def rcv (c : Nat) : List V_ → Bool
  | Sum.inr (Sum.inr (c', _, p)) :: _ => c'.beq c && p.beq 0
  | _ => false
/-- a call: method x; y holds its number of arguments, its locals (times 16), its receiver's class (times 1024); z: whether it answers -/
def inv (call : Cl_) (virt : Bool) (x y z pc : Nat) (lv : Lv_) (s : List V_) (O : Mem_) (go : Go_) : Option Rs_ :=
  pN (y % 16) [] s fun a t => bif (bif virt then rcv (y / 1024) a else true) && ((lay a).length.ble (y / 16 % 64) && few t) then (call x a O).bind (fun r => match z with
    | 0 => go (pc + 3) lv t r.2
    | _ => go (pc + 3) lv (vi r.1 :: t) r.2) else none
def stp (swT : Nat → List (Int32 × Nat) × Nat) (call : Cl_) (en : E_) (pc : Nat) (lv : Lv_) (st : List V_) (O : Mem_) (go : Go_) : Option Rs_ :=
  match en with
  | (ins, _, x, y, z, k, kl) =>
    match ins with
    | .iconst _ => go (pc + 1) lv (vi k :: st) O
    | .bipush _ => go (pc + 2) lv (vi k :: st) O
    | .sipush _ => go (pc + 3) lv (vi k :: st) O
    | .lconst _ => go (pc + 1) lv (vl kl :: st) O
    | .ldc _ => bif z.beq 0 then go (pc + 2) lv (vi k :: st) O else go (pc + 2) lv (vr 9 x 0 :: st) O
    | .ldc_w _ => go (pc + 3) lv (vi k :: st) O
    | .ldc2_w _ => go (pc + 3) lv (vl kl :: st) O
    | .iload_n _ => gI (ln lv x) fun a => go (pc + 1) lv (vi a :: st) O
    | .iload _ => gI (ln lv x) fun a => go (pc + 2) lv (vi a :: st) O
    | .lload_n _ => gL (ln lv x) fun a => go (pc + 1) lv (vl a :: st) O
    | .lload _ => gL (ln lv x) fun a => go (pc + 2) lv (vl a :: st) O
    | .aload_n _ => gR (ln lv x) fun c n p => go (pc + 1) lv (vr c n p :: st) O
    | .aload _ => gR (ln lv x) fun c n p => go (pc + 2) lv (vr c n p :: st) O
    | .istore_n _ => pI st fun a s => go (pc + 1) (lst lv x (vi a)) s O
    | .istore _ => pI st fun a s => go (pc + 2) (lst lv x (vi a)) s O
    | .lstore_n _ => pL st fun a s => go (pc + 1) (lst lv x (vl a)) s O
    | .lstore _ => pL st fun a s => go (pc + 2) (lst lv x (vl a)) s O
    | .astore_n _ => pR st fun c n p s => go (pc + 1) (lst lv x (vr c n p)) s O
    | .astore _ => pR st fun c n p s => go (pc + 2) (lst lv x (vr c n p)) s O
    | .iinc _ _ => gI (ln lv x) fun a => go (pc + 3) (lst lv x (vi (a + k))) st O
    | .iadd => pII st fun a b s => go (pc + 1) lv (vi (a + b) :: s) O
    | .isub => pII st fun a b s => go (pc + 1) lv (vi (a - b) :: s) O
    | .imul => pII st fun a b s => go (pc + 1) lv (vi (a * b) :: s) O
    | .iand => pII st fun a b s => go (pc + 1) lv (vi (a &&& b) :: s) O
    | .ior => pII st fun a b s => go (pc + 1) lv (vi (a ||| b) :: s) O
    | .ixor => pII st fun a b s => go (pc + 1) lv (vi (a ^^^ b) :: s) O
    | .ishl => pII st fun a b s => go (pc + 1) lv (vi (a <<< (b &&& 31)) :: s) O
    | .ishr => pII st fun a b s => go (pc + 1) lv (vi (a >>> (b &&& 31)) :: s) O
    | .iushr => pII st fun a b s => go (pc + 1) lv (vi (a.toUInt32 >>> (b.toUInt32 &&& Int32.toUInt32 31)).toInt32 :: s) O
    | .idiv => pII st fun a b s => if b = 0 then none else go (pc + 1) lv (vi (a / b) :: s) O
    | .irem => pII st fun a b s => if b = 0 then none else go (pc + 1) lv (vi (a - a / b * b) :: s) O
    | .ineg => pI st fun a s => go (pc + 1) lv (vi (-a) :: s) O
    | .lrem => pLL st fun a b s => if b = 0 then none else go (pc + 1) lv (vl (a - a / b * b) :: s) O
    | .ladd => pLL st fun a b s => go (pc + 1) lv (vl (a + b) :: s) O
    | .land => pLL st fun a b s => go (pc + 1) lv (vl (a &&& b) :: s) O
    | .lor => pLL st fun a b s => go (pc + 1) lv (vl (a ||| b) :: s) O
    | .lshl => pLI st fun a b s => go (pc + 1) lv (vl (a <<< (b.toInt64 &&& 63)) :: s) O
    | .lshr => pLI st fun a b s => go (pc + 1) lv (vl (a >>> (b.toInt64 &&& 63)) :: s) O
    | .lushr => pLI st fun a b s => go (pc + 1) lv (vl (a.toUInt64 >>> (b.toInt64.toUInt64 &&& Int64.toUInt64 63)).toInt64 :: s) O
    | .lcmp => pLL st fun a b s => go (pc + 1) lv (vi (lg_cmp a b) :: s) O
    | .i2l => pI st fun a s => go (pc + 1) lv (vl a.toInt64 :: s) O
    | .l2i => pL st fun a s => go (pc + 1) lv (vi a.toInt32 :: s) O
    | .i2b => pI st fun a s => go (pc + 1) lv (vi a.toInt8.toInt32 :: s) O
    | .i2s => pI st fun a s => go (pc + 1) lv (vi a.toInt16.toInt32 :: s) O
    | .dup => match st with
      | Sum.inl a :: s => go (pc + 1) lv (vi a :: vi a :: s) O
      | Sum.inr (Sum.inr (c, n, p)) :: s => go (pc + 1) lv (vr c n p :: vr c n p :: s) O
      | _ => none
    | .dup2 => pRI st fun c n p a s => go (pc + 1) lv (vi a :: vr c n p :: vi a :: vr c n p :: s) O
    | .pop => pI st fun _ s => go (pc + 1) lv s O
    | .ifCond c _ => pI st fun a s => jmp c a 0 (go x lv s O) (go (pc + 3) lv s O)
    | .if_icmp c _ => pII st fun a b s => jmp c a b (go x lv s O) (go (pc + 3) lv s O)
    | .goto _ => go x lv st O
    | .tableswitch _ _ _ _ => pI st fun a s => swg a (swT x).1 (swT x).2 (fun t => go t lv s O)
    | .lookupswitch _ _ => pI st fun a s => swg a (swT x).1 (swT x).2 (fun t => go t lv s O)
    | .getfield _ => pR st fun c n p s => bif c.beq x && p.beq 0 then go (pc + 3) lv (gfv z c n y O :: s) O else none
    | .putfield _ => pRV st fun c n p v s => bif c.beq x && p.beq 0 then
        (match z, v with
        | 0, Sum.inl a => go (pc + 3) lv s (up O c n 0 y a)
        | 1, Sum.inl a => if a = 0 ∨ a = 1 then go (pc + 3) lv s (up O c n 0 y a) else none
        | 2, Sum.inr (Sum.inr (c2, n2, p2)) => bif c2.beq 4 && p2.beq 0 then go (pc + 3) lv s (up O c n 0 y (nI n2)) else none
        | _, _ => none) else none
    | .iaload => pRI st fun c n p i s =>
        bif c.beq 8 then (if ib i (O 8 0 1 0).toNatClampNeg then go (pc + 1) lv (vi (O 8 0 0 i.toNatClampNeg) :: s) O else none)
        else bif (aty c p).beq 0 then (if ib i (aln c p) then go (pc + 1) lv (vi (O c n p i.toNatClampNeg) :: s) O else none) else none
    | .baload => pRI st fun c n p i s =>
        bif (aty c p).beq 1 then (if ib i (aln c p) then go (pc + 1) lv (vi (O c n p i.toNatClampNeg) :: s) O else none) else none
    | .aaload => pRI st fun c n p i s =>
        bif Nat.blt 1 (aty c p) && (aty c p).blt 5 then (if ib i (aln c p) then go (pc + 1) lv (aref c n p i.toNatClampNeg :: s) O else none) else none
    | .iastore => pRII st fun c n p i v s =>
        bif (aty c p).beq 0 then (if ib i (aln c p) then go (pc + 1) lv s (up O c n p i.toNatClampNeg v) else none) else none
    | .bastore => pRII st fun c n p i v s =>
        bif (aty c p).beq 1 then (if ib i (aln c p) then (if v = 0 ∨ v = 1 then go (pc + 1) lv s (up O c n p i.toNatClampNeg v) else none) else none) else none
    | .laload => pRI st fun c n p i s =>
        bif (aty c p).beq 5 then (if ib i (aln c p) then go (pc + 1) lv (vl (rdL O c n p i.toNatClampNeg) :: s) O else none) else none
    | .lastore => pRIL st fun c n p i v s =>
        bif (aty c p).beq 5 then (if ib i (aln c p) then go (pc + 1) lv s (upL O c n p i.toNatClampNeg v) else none) else none
    | .newarray _ => match st with
      | [Sum.inl k] => bif pc.beq 305 && hlt hLv lv then (if k = nI 60 then some (nI 7, O) else none) else none
      | _ => none
    | .arraylength => pR st fun c n p s => bif c.beq 8 then go (pc + 1) lv (vi (O 8 0 1 0) :: s) O else none
    | .invokevirtual _ => inv call true x y z pc lv st O go
    | .invokestatic _ => inv call false x y z pc lv st O go
    | .ireturn => match st with
      | [Sum.inl a] => bif z.beq 0 then some (a, O) else if a = 0 ∨ a = 1 then some (a, O) else none
      | _ => none
    | .return_ => match st with
      | [] => some (0, O)
      | _ => none
    | _ => none
def lk1 : List (Nat × E_) → Nat → E_
  | [], _ => (.nop, 0, 0, 0, 0, 0, 0)
  | (q, e) :: l, pc => bif q.beq pc then e else lk1 l pc
def lk (tb : List (List (Nat × E_))) (pc : Nat) : E_ := lk1 (tb.getD (pc / 32) []) pc
/-- the places where a run is cut, and which locals it keeps there -/
def ctk : List (Nat × List Bool) → Nat → Option (List Bool)
  | [], _ => none
  | (q, k) :: l, pc => bif q.beq pc then some k else ctk l pc
def msk : List Bool → Lv_ → Lv_
  | [], _ => []
  | _, [] => []
  | b :: m, x :: l => (bif b then x else none) :: msk m l
def ctl (ct : List (Nat × List Bool)) (pc : Nat) (lv : Lv_) : Lv_ := match ctk ct pc with
  | some k => msk k lv
  | none => lv
def rn_ (swT : Nat → List (Int32 × Nat) × Nat) (call : Cl_) (tb : List (List (Nat × E_))) (ct : List (Nat × List Bool)) : Nat → Go_
  | 0 => fun _ _ _ _ => none
  | n + 1 => fun pc lv st O => stp swT call (lk tb pc) pc lv st O (fun pc lv st O => rn_ swT call tb ct n pc (ctl ct pc lv) st O)
/-- k steps, but no further than the next place where runs are cut; from there on g -/
def un_ (swT : Nat → List (Int32 × Nat) × Nat) (call : Cl_) (tb : List (List (Nat × E_))) (ct : List (Nat × List Bool)) (g : Go_) : Nat → Go_
  | 0 => g
  | n + 1 => fun pc lv st O => stp swT call (lk tb pc) pc lv st O (fun pc lv st O => match ctk ct pc with
    | some k => g pc (msk k lv) st O
    | none => un_ swT call tb ct g n pc lv st O)
/-- what some stage of a growing row of answers says -/
noncomputable def lim_ (f : Nat → Option Rs_) : Option Rs_ := @dite _ (∃ n, (f n).isSome = true) (Classical.propDecidable _) (fun h => f (Classical.choose h)) (fun _ => none)
/-- F asks its continuation at one place at most -/
def once (F : Go_ → Option Rs_) : Prop := ∀ (go : Go_) (r : Rs_), F go = some r → (∀ go' : Go_, F go' = some r) ∨ ∃ pc lv st O, go pc lv st O = some r ∧ ∀ go' : Go_, go' pc lv st O = some r → F go' = some r
theorem once_go (pc : Nat) (lv : Lv_) (st : List V_) (O : Mem_) : once (fun go => go pc lv st O) := fun _ _ h => Or.inr ⟨pc, lv, st, O, h, fun _ h => h⟩
theorem once_k (o : Option Rs_) : once (fun _ => o) := fun _ _ h => Or.inl fun _ => h
theorem once_ite {c : Prop} [Decidable c] {F G : Go_ → Option Rs_} (hF : once F) (hG : once G) : once (fun go => if c then F go else G go) := by
  intro go r h
  by_cases hc : c
  · simp only [hc, if_true] at h ⊢; exact hF go r h
  · simp only [hc, if_false] at h ⊢; exact hG go r h
theorem once_cond {c : Bool} {F G : Go_ → Option Rs_} (hF : once F) (hG : once G) : once (fun go => bif c then F go else G go) := by
  intro go r h
  cases c
  · exact hG go r h
  · exact hF go r h
theorem once_bind {o : Option Rs_} {g : Rs_ → Go_ → Option Rs_} (hg : ∀ a, once (g a)) : once (fun go => o.bind (fun a => g a go)) := by
  intro go r h
  cases o with
  | none => exact Or.inl fun _ => h
  | some a => exact hg a go r h
theorem once_pI {st : List V_} {g : Int32 → List V_ → Go_ → Option Rs_} (hg : ∀ a s, once (g a s)) : once (fun go => pI st (fun a s => g a s go)) := by
  intro go r h
  unfold pI at h ⊢
  split at h
  · exact hg _ _ go r h
  · cases h
theorem once_pII {st : List V_} {g : Int32 → Int32 → List V_ → Go_ → Option Rs_} (hg : ∀ a b s, once (g a b s)) : once (fun go => pII st (fun a b s => g a b s go)) := by
  intro go r h
  unfold pII at h ⊢
  split at h
  · exact hg _ _ _ go r h
  · cases h
theorem once_pL {st : List V_} {g : Int64 → List V_ → Go_ → Option Rs_} (hg : ∀ a s, once (g a s)) : once (fun go => pL st (fun a s => g a s go)) := by
  intro go r h
  unfold pL at h ⊢
  split at h
  · exact hg _ _ go r h
  · cases h
theorem once_pLL {st : List V_} {g : Int64 → Int64 → List V_ → Go_ → Option Rs_} (hg : ∀ a b s, once (g a b s)) : once (fun go => pLL st (fun a b s => g a b s go)) := by
  intro go r h
  unfold pLL at h ⊢
  split at h
  · exact hg _ _ _ go r h
  · cases h
theorem once_pLI {st : List V_} {g : Int64 → Int32 → List V_ → Go_ → Option Rs_} (hg : ∀ a b s, once (g a b s)) : once (fun go => pLI st (fun a b s => g a b s go)) := by
  intro go r h
  unfold pLI at h ⊢
  split at h
  · exact hg _ _ _ go r h
  · cases h
theorem once_pR {st : List V_} {g : Nat → Nat → Nat → List V_ → Go_ → Option Rs_} (hg : ∀ c n p s, once (g c n p s)) : once (fun go => pR st (fun c n p s => g c n p s go)) := by
  intro go r h
  unfold pR at h ⊢
  split at h
  · exact hg _ _ _ _ go r h
  · cases h
theorem once_pRI {st : List V_} {g : Nat → Nat → Nat → Int32 → List V_ → Go_ → Option Rs_} (hg : ∀ c n p i s, once (g c n p i s)) : once (fun go => pRI st (fun c n p i s => g c n p i s go)) := by
  intro go r h
  unfold pRI at h ⊢
  split at h
  · exact hg _ _ _ _ _ go r h
  · cases h
theorem once_pRII {st : List V_} {g : Nat → Nat → Nat → Int32 → Int32 → List V_ → Go_ → Option Rs_} (hg : ∀ c n p i v s, once (g c n p i v s)) : once (fun go => pRII st (fun c n p i v s => g c n p i v s go)) := by
  intro go r h
  unfold pRII at h ⊢
  split at h
  · exact hg _ _ _ _ _ _ go r h
  · cases h
theorem once_pRIL {st : List V_} {g : Nat → Nat → Nat → Int32 → Int64 → List V_ → Go_ → Option Rs_} (hg : ∀ c n p i v s, once (g c n p i v s)) : once (fun go => pRIL st (fun c n p i v s => g c n p i v s go)) := by
  intro go r h
  unfold pRIL at h ⊢
  split at h
  · exact hg _ _ _ _ _ _ go r h
  · cases h
theorem once_pRV {st : List V_} {g : Nat → Nat → Nat → V_ → List V_ → Go_ → Option Rs_} (hg : ∀ c n p v s, once (g c n p v s)) : once (fun go => pRV st (fun c n p v s => g c n p v s go)) := by
  intro go r h
  unfold pRV at h ⊢
  split at h
  · exact hg _ _ _ _ _ go r h
  · cases h
theorem once_gI {o : Option V_} {g : Int32 → Go_ → Option Rs_} (hg : ∀ a, once (g a)) : once (fun go => gI o (fun a => g a go)) := by
  intro go r h
  unfold gI at h ⊢
  split at h
  · exact hg _ go r h
  · cases h
theorem once_gL {o : Option V_} {g : Int64 → Go_ → Option Rs_} (hg : ∀ a, once (g a)) : once (fun go => gL o (fun a => g a go)) := by
  intro go r h
  unfold gL at h ⊢
  split at h
  · exact hg _ go r h
  · cases h
theorem once_gR {o : Option V_} {g : Nat → Nat → Nat → Go_ → Option Rs_} (hg : ∀ c n p, once (g c n p)) : once (fun go => gR o (fun c n p => g c n p go)) := by
  intro go r h
  unfold gR at h ⊢
  split at h
  · exact hg _ _ _ go r h
  · cases h
theorem once_jmp {c : ClassFile.Cond} {a b : Int32} {F G : Go_ → Option Rs_} (hF : once F) (hG : once G) : once (fun go => jmp c a b (F go) (G go)) := by
  unfold jmp
  cases c <;> first | exact once_ite hF hG | exact once_ite hG hF
theorem once_swg {a : Int32} {g : Nat → Go_ → Option Rs_} (hg : ∀ t, once (g t)) : ∀ (l : List (Int32 × Nat)) (d : Nat), once (fun go => swg a l d (fun t => g t go))
  | [], d => hg d
  | (k, t) :: l, d => by
    unfold swg
    exact once_ite (hg t) (once_swg hg l d)
section
variable {swT : Nat → List (Int32 × Nat) × Nat} {call : Cl_}
theorem once_pN {g : List V_ → List V_ → Go_ → Option Rs_} (hg : ∀ a t, once (g a t)) : ∀ (n : Nat) (a s : List V_), once (fun go => pN n a s (fun a t => g a t go))
  | 0, a, s => hg a s
  | n + 1, a, v :: s => once_pN hg n (v :: a) s
  | n + 1, a, [] => once_k none
theorem once_inv (virt : Bool) (x y z pc : Nat) (lv : Lv_) (s : List V_) (O : Mem_) : once (fun go => inv call virt x y z pc lv s O go) := by
  unfold inv
  refine once_pN (fun a t => once_cond (once_bind fun r => ?_) (once_k none)) _ _ _
  cases z
  · exact once_go _ _ _ _
  · exact once_go _ _ _ _
set_option maxHeartbeats 4000000 in
theorem once_stp (en : E_) (pc : Nat) (lv : Lv_) (st : List V_) (O : Mem_) : once (fun go => stp swT call en pc lv st O go) := by
  obtain ⟨ins, len, x, y, z, k, kl⟩ := en
  cases ins <;> dsimp only [stp] <;> first
    | exact once_k _
    | exact once_go _ _ _ _
    | exact once_inv _ _ _ _ _ _ _ _
    | exact once_gI fun _ => once_go _ _ _ _
    | exact once_gL fun _ => once_go _ _ _ _
    | exact once_gR fun _ _ _ => once_go _ _ _ _
    | exact once_pI fun _ _ => once_go _ _ _ _
    | exact once_pII fun _ _ _ => once_go _ _ _ _
    | exact once_pL fun _ _ => once_go _ _ _ _
    | exact once_pLL fun _ _ _ => once_go _ _ _ _
    | exact once_pLI fun _ _ _ => once_go _ _ _ _
    | exact once_pR fun _ _ _ _ => once_go _ _ _ _
    | exact once_pRI fun _ _ _ _ _ => once_go _ _ _ _
    | exact once_pII fun _ _ _ => once_ite (once_k none) (once_go _ _ _ _)
    | exact once_pLL fun _ _ _ => once_ite (once_k none) (once_go _ _ _ _)
    | exact once_pRIL fun _ _ _ _ _ _ => once_cond (once_ite (once_go _ _ _ _) (once_k none)) (once_k none)
    | exact once_pI fun _ _ => once_jmp (once_go _ _ _ _) (once_go _ _ _ _)
    | exact once_pII fun _ _ _ => once_jmp (once_go _ _ _ _) (once_go _ _ _ _)
    | exact once_pI fun _ _ => once_swg (fun _ => once_go _ _ _ _) _ _
    | exact once_cond (once_go _ _ _ _) (once_go _ _ _ _)
    | exact once_pR fun _ _ _ _ => once_cond (once_go _ _ _ _) (once_k none)
    | exact once_pRI fun _ _ _ _ _ => once_cond (once_ite (once_go _ _ _ _) (once_k none)) (once_cond (once_ite (once_go _ _ _ _) (once_k none)) (once_k none))
    | exact once_pRI fun _ _ _ _ _ => once_cond (once_ite (once_go _ _ _ _) (once_k none)) (once_k none)
    | exact once_pRII fun _ _ _ _ _ _ => once_cond (once_ite (once_go _ _ _ _) (once_k none)) (once_k none)
    | exact once_pRII fun _ _ _ _ _ _ => once_cond (once_ite (once_ite (once_go _ _ _ _) (once_k none)) (once_k none)) (once_k none)
    | (split <;> first | exact once_go _ _ _ _ | exact once_k _)
    | (refine once_pRV fun c n p v s => once_cond ?_ (once_k none)
       split <;> first | exact once_go _ _ _ _ | exact once_k _ | exact once_ite (once_go _ _ _ _) (once_k none) | exact once_cond (once_go _ _ _ _) (once_k none))
end
/-- the runs at depth d: which method, from where -/
noncomputable def ex_ (swT : Nat → List (Int32 × Nat) × Nat) (tbs : List (List (List (Nat × E_)))) (cts : List (List (Nat × List Bool))) : Nat → Nat → Go_
  | 0, _ => fun _ _ _ _ => none
  | d + 1, mi => fun pc lv st O => lim_ (fun n => rn_ swT (cl_ (ex_ swT tbs cts d)) (tbs.getD mi []) (cts.getD mi []) n pc lv st O)
section
variable {swT : Nat → List (Int32 × Nat) × Nat} {call : Cl_} {tb : List (List (Nat × E_))} {ct : List (Nat × List Bool)}
theorem rn_s (n pc : Nat) (lv : Lv_) (st : List V_) (O : Mem_) : rn_ swT call tb ct (n + 1) pc lv st O = stp swT call (lk tb pc) pc lv st O (fun pc lv st O => rn_ swT call tb ct n pc (ctl ct pc lv) st O) := rfl
theorem rn_mono : ∀ (n : Nat) (pc : Nat) (lv : Lv_) (st : List V_) (O : Mem_) (r : Rs_), rn_ swT call tb ct n pc lv st O = some r → rn_ swT call tb ct (n + 1) pc lv st O = some r
  | 0, _, _, _, _, _, h => by cases h
  | n + 1, pc, lv, st, O, r, h => by
    rw [rn_s] at h
    rw [rn_s]
    rcases once_stp (swT := swT) (call := call) (lk tb pc) pc lv st O (fun pc lv st O => rn_ swT call tb ct n pc (ctl ct pc lv) st O) r h with h1 | ⟨pc', lv', st', O', h1, h2⟩
    · exact h1 (fun pc lv st O => rn_ swT call tb ct (n + 1) pc (ctl ct pc lv) st O)
    · exact h2 (fun pc lv st O => rn_ swT call tb ct (n + 1) pc (ctl ct pc lv) st O) (rn_mono n _ _ _ _ r h1)
theorem rn_le {n m : Nat} (h : n ≤ m) {pc : Nat} {lv : Lv_} {st : List V_} {O : Mem_} {r : Rs_} (hr : rn_ swT call tb ct n pc lv st O = some r) : rn_ swT call tb ct m pc lv st O = some r := by
  induction h with
  | refl => exact hr
  | step _ ih => exact rn_mono _ _ _ _ _ r ih
theorem lim_some {f : Nat → Option Rs_} {r : Rs_} (hm : ∀ n m r, n ≤ m → f n = some r → f m = some r) : lim_ f = some r ↔ ∃ n, f n = some r := by
  unfold lim_
  constructor
  · intro h
    split at h
    · exact ⟨_, h⟩
    · cases h
  · rintro ⟨n, hn⟩
    have he : ∃ n, (f n).isSome = true := ⟨n, by rw [hn]; rfl⟩
    rw [dif_pos he]
    obtain ⟨r', hr'⟩ := Option.isSome_iff_exists.mp (Classical.choose_spec he)
    rw [hr']
    rcases Nat.le_total n (Classical.choose he) with q | q
    · have := hm _ _ _ q hn
      rw [this] at hr'
      exact hr'.symm
    · have := hm _ _ _ q hr'
      rw [this] at hn
      exact hn
theorem opt_ext {a b : Option Rs_} (h : ∀ r, a = some r ↔ b = some r) : a = b := by
  cases a with
  | none => cases b with
    | none => rfl
    | some r => exact ((h r).mpr rfl)
  | some r => exact ((h r).mp rfl).symm
theorem lim_rn (pc : Nat) (lv : Lv_) (st : List V_) (O : Mem_) : lim_ (fun n => rn_ swT call tb ct n pc lv st O) = stp swT call (lk tb pc) pc lv st O (fun pc lv st O => lim_ (fun n => rn_ swT call tb ct n pc (ctl ct pc lv) st O)) := by
  refine opt_ext fun r => ?_
  rw [lim_some (fun n m r h hr => rn_le h hr)]
  constructor
  · rintro ⟨n, hn⟩
    cases n with
    | zero => cases hn
    | succ n =>
      rw [rn_s] at hn
      rcases once_stp (swT := swT) (call := call) (lk tb pc) pc lv st O (fun pc lv st O => rn_ swT call tb ct n pc (ctl ct pc lv) st O) r hn with h1 | ⟨pc', lv', st', O', h1, h2⟩
      · exact h1 (fun pc lv st O => lim_ (fun n => rn_ swT call tb ct n pc (ctl ct pc lv) st O))
      · exact h2 (fun pc lv st O => lim_ (fun n => rn_ swT call tb ct n pc (ctl ct pc lv) st O)) ((lim_some (fun n m r h hr => rn_le h hr)).mpr ⟨n, h1⟩)
  · intro h
    rcases once_stp (swT := swT) (call := call) (lk tb pc) pc lv st O (fun pc lv st O => lim_ (fun n => rn_ swT call tb ct n pc (ctl ct pc lv) st O)) r h with h1 | ⟨pc', lv', st', O', h1, h2⟩
    · exact ⟨1, h1 (fun pc lv st O => rn_ swT call tb ct 0 pc (ctl ct pc lv) st O)⟩
    · obtain ⟨n, hn⟩ := (lim_some (fun n m r h hr => rn_le h hr)).mp h1
      exact ⟨n + 1, h2 (fun pc lv st O => rn_ swT call tb ct n pc (ctl ct pc lv) st O) hn⟩
end
section
variable {swT : Nat → List (Int32 × Nat) × Nat} {tbs : List (List (List (Nat × E_)))} {cts : List (List (Nat × List Bool))}
theorem ex_eq (d mi pc : Nat) (lv : Lv_) (st : List V_) (O : Mem_) : ex_ swT tbs cts (d + 1) mi pc lv st O = stp swT (cl_ (ex_ swT tbs cts d)) (lk (tbs.getD mi []) pc) pc lv st O (fun pc lv st O => ex_ swT tbs cts (d + 1) mi pc (ctl (cts.getD mi []) pc lv) st O) := lim_rn pc lv st O
theorem ex_un_ (d mi : Nat) : ∀ (n pc : Nat) (lv : Lv_) (st : List V_) (O : Mem_), ex_ swT tbs cts (d + 1) mi pc lv st O = un_ swT (cl_ (ex_ swT tbs cts d)) (tbs.getD mi []) (cts.getD mi []) (ex_ swT tbs cts (d + 1) mi) n pc lv st O
  | 0, pc, lv, st, O => rfl
  | n + 1, pc, lv, st, O => by
    rw [ex_eq]
    unfold un_
    congr 1
    funext pc lv st O
    unfold ctl
    split
    · rfl
    · exact ex_un_ d mi n pc lv st O
end
