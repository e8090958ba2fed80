section
/-! AN ABSTRACT MACHINE over the claim's own instructions: values, a memory by (class, which one, part, place), one step, a run, its limit. Depth d bounds the calls that stand open. -/
abbrev V_ : Type := Int32 ⊕ (Int64 ⊕ (Nat × Nat × Nat))
abbrev vi (x : Int32) : V_ := Sum.inl x
abbrev vl (x : Int64) : V_ := Sum.inr (Sum.inl x)
abbrev vr (c n k : Nat) : V_ := Sum.inr (Sum.inr (c, n, k))
abbrev Mem_ : Type := Nat → Nat → Nat → Nat → Int32
abbrev Lv_ : Type := List (Option V_)
abbrev Rs_ : Type := Int32 × Mem_
abbrev Go_ : Type := Nat → Lv_ → List V_ → Mem_ → Option Rs_
abbrev Cl_ : Type := Nat → List V_ → Mem_ → Option Rs_
abbrev E_ : Type := Instr × Nat × Nat × Nat × Nat × Int32 × Int64
def up (O : Mem_) (c n p j : Nat) (v : Int32) : Mem_ := fun c' n' p' j' => if c' = c ∧ n' = n ∧ p' = p ∧ j' = j then v else O c' n' p' j'
def cpy (O : Mem_) (c0 n0 p0 c n p sp dp len : Nat) : Mem_ := fun c' n' p' j' => if c' = c ∧ n' = n ∧ p' = p ∧ dp ≤ j' ∧ j' < dp + len then O c0 n0 p0 (sp + (j' - dp)) else O c' n' p' j'
def ib (i : Int32) (N : Nat) : Bool := decide (¬ i < 0) && decide (i.toNatClampNeg < N)
def sel (x : Int32) : Nat := if x = 0 then 0 else 1
def ln : Lv_ → Nat → Option V_
  | [], _ => none
  | x :: _, 0 => x
  | _ :: l, i + 1 => ln l i
def unl : Option V_ → Option V_
  | some (Sum.inr (Sum.inl _)) => none
  | x => x
def ls0 : Lv_ → V_ → Lv_
  | l, Sum.inr (Sum.inl x) => some (vl x) :: none :: l.tail.tail
  | [], v => [some v]
  | _ :: l, v => some v :: l
def lst : Lv_ → Nat → V_ → Lv_
  | l, 0, v => ls0 l v
  | [], 1, v => none :: ls0 [] v
  | x :: l, 1, v => unl x :: ls0 l v
  | [], i + 2, v => none :: lst [] (i + 1) v
  | x :: l, i + 2, v => x :: lst l (i + 1) v
def lay : List V_ → Lv_
  | [] => []
  | Sum.inr (Sum.inl x) :: l => some (vl x) :: none :: lay l
  | v :: l => some v :: lay l
/-- the parts that are rows: kind of their places (0 int, 1 boolean, 2.. references), how many -/
def atb : List (List (Nat × Nat)) := [
  [(9, 0), (9, 0), (0, 24), (0, 24), (0, 6), (0, 6), (0, 4)],
  [(9, 0), (9, 0), (0, 24), (0, 24), (1, 24), (9, 0), (9, 0), (0, 12), (1, 12)],
  [(9, 0), (0, 4), (0, 4), (4, 4), (0, 40), (0, 40), (0, 40), (0, 40)],
  [(9, 0), (0, 400)],
  [(9, 0), (9, 0), (9, 0), (9, 0), (9, 0), (0, 8), (0, 8), (0, 12), (0, 12), (0, 12), (0, 12), (0, 12), (0, 12), (0, 4), (0, 6), (0, 6), (0, 6), (1, 6), (0, 6), (0, 6)],
  [(9, 0), (0, 5), (9, 0), (0, 4), (9, 0), (0, 4), (3, 6), (3, 5)],
  [(9, 0), (9, 0), (9, 0), (9, 0), (9, 0), (2, 2)],
  [(9, 0), (9, 0), (0, 8), (9, 0), (0, 12), (0, 12), (9, 0), (0, 4), (9, 0), (0, 30), (9, 0), (0, 8), (9, 0), (0, 12), (0, 12), (9, 0), (0, 4), (9, 0), (0, 30), (0, 12), (0, 400), (9, 0), (9, 0), (9, 0), (9, 0), (9, 0), (9, 0), (9, 0), (0, 210), (9, 0), (0, 72), (0, 5), (0, 4), (0, 4), (9, 0), (9, 0), (0, 12), (1, 12), (1, 2), (0, 6), (0, 144), (0, 48), (0, 4), (0, 4), (0, 160)]]
def aty (c p : Nat) : Nat := ((atb.getD c []).getD p (9, 0)).1
def aln (c p : Nat) : Nat := ((atb.getD c []).getD p (9, 0)).2
def aref : Nat → Nat → Nat → Nat → V_
  | 6, _, _, i => vr 1 (1 + i) 0
  | 5, _, 6, i => vr 0 (2 + i) 0
  | 5, _, _, i => vr 0 (8 + i) 0
  | c, n, _, i => vr c n (4 + i)
def gfv : Nat → Nat → Nat → Nat → Mem_ → V_
  | 0, c, n, k, O => vi (O c n 0 k)
  | 1, c, n, k, _ => vr c n (k + 1)
  | 2, c, n, k, O => vr 4 (sel (O c n 0 k)) 0
  | m + 3, _, _, _, _ => vr (m / 16) (m % 16) 0
def swg {α : Type} (a : Int32) : List (Int32 × Nat) → Nat → (Nat → α) → α
  | [], d, g => g d
  | (k, t) :: r, d, g => if a = k then g t else swg a r d g
def fw_ : Nat → List V_ → Bool
  | _, [] => true
  | n + 2, Sum.inr (Sum.inl _) :: l => fw_ n l
  | n + 1, Sum.inl _ :: l => fw_ n l
  | n + 1, Sum.inr (Sum.inr _) :: l => fw_ n l
  | _, _ => false
/-- what lies under a call's arguments takes eight words at most -/
def few (l : List V_) : Bool := fw_ 8 l
def sT : List (List Int32) := [[116, 104, 105, 110, 103], [109, 101, 97, 110, 115], [119, 111, 114, 100], [112, 108, 97, 105, 110], [108, 97, 115, 116], [99, 97, 114, 101, 102, 117, 108], [112, 114, 111, 117, 100], [110, 111, 116], [115, 101, 101, 115], [102, 101, 97, 114, 115], [117, 110, 108, 105, 107, 101], [99, 104, 97, 110, 99, 101]]
/-- k places of a row hold 0 or 1 -/
def bok (O : Mem_) (c n p sp k : Nat) : Bool := (List.range k).all fun i => decide (O c n p (sp + i) = 0) || decide (O c n p (sp + i) = 1)
/-- what stands behind a call that is the JDK's: 1000 arraycopy, 1001 max, 1002 min, 1003 length, 1004 charAt -/
def intr : Cl_
  | 1000, [Sum.inr (Sum.inr (c0, n0, p0)), Sum.inl sp, Sum.inr (Sum.inr (c, n, p)), Sum.inl dp, Sum.inl k], O =>
    bif (aty c0 p0).blt 2 && (aty c p).beq (aty c0 p0) then
      if ¬ sp < 0 ∧ ¬ dp < 0 ∧ ¬ k < 0 ∧ sp.toNatClampNeg + k.toNatClampNeg ≤ aln c0 p0 ∧ dp.toNatClampNeg + k.toNatClampNeg ≤ aln c p then
        (bif (aty c0 p0).beq 0 then some (0, cpy O c0 n0 p0 c n p sp.toNatClampNeg dp.toNatClampNeg k.toNatClampNeg)
        else if bok O c0 n0 p0 sp.toNatClampNeg k.toNatClampNeg then some (0, cpy O c0 n0 p0 c n p sp.toNatClampNeg dp.toNatClampNeg k.toNatClampNeg) else none)
      else none
    else none
  | 1001, [Sum.inl x, Sum.inl y], O => some (if x < y then y else x, O)
  | 1002, [Sum.inl x, Sum.inl y], O => some (if y < x then y else x, O)
  | 1003, [Sum.inr (Sum.inr (9, i, 0))], O => some (nI (sT.getD i []).length, O)
  | 1004, [Sum.inr (Sum.inr (9, i, 0)), Sum.inl k], O => if ib k (sT.getD i []).length then some ((sT.getD i []).getD k.toNatClampNeg 0, O) else none
  | _, _, _ => none
def cl_ (f : Nat → Nat → Lv_ → List V_ → Mem_ → Option Rs_) : Cl_ := fun mi a O => bif mi.blt 1000 then f mi 0 (lay a) [] O else intr mi a O
def jmp (c : ClassFile.Cond) (a b : Int32) (t f : Option Rs_) : Option Rs_ := match c with
  | .eq => if a = b then t else f
  | .ne => if a = b then f else t
  | .lt => if a < b then t else f
  | .ge => if a < b then f else t
  | .gt => if b < a then t else f
  | .le => if b < a then f else t
def pI (st : List V_) (g : Int32 → List V_ → Option Rs_) : Option Rs_ := match st with
  | Sum.inl a :: s => g a s
  | _ => none
def pII (st : List V_) (g : Int32 → Int32 → List V_ → Option Rs_) : Option Rs_ := match st with
  | Sum.inl b :: Sum.inl a :: s => g a b s
  | _ => none
def pL (st : List V_) (g : Int64 → List V_ → Option Rs_) : Option Rs_ := match st with
  | Sum.inr (Sum.inl a) :: s => g a s
  | _ => none
def pLL (st : List V_) (g : Int64 → Int64 → List V_ → Option Rs_) : Option Rs_ := match st with
  | Sum.inr (Sum.inl b) :: Sum.inr (Sum.inl a) :: s => g a b s
  | _ => none
def pLI (st : List V_) (g : Int64 → Int32 → List V_ → Option Rs_) : Option Rs_ := match st with
  | Sum.inl b :: Sum.inr (Sum.inl a) :: s => g a b s
  | _ => none
def pR (st : List V_) (g : Nat → Nat → Nat → List V_ → Option Rs_) : Option Rs_ := match st with
  | Sum.inr (Sum.inr (c, n, p)) :: s => g c n p s
  | _ => none
def pRI (st : List V_) (g : Nat → Nat → Nat → Int32 → List V_ → Option Rs_) : Option Rs_ := match st with
  | Sum.inl i :: Sum.inr (Sum.inr (c, n, p)) :: s => g c n p i s
  | _ => none
def pRII (st : List V_) (g : Nat → Nat → Nat → Int32 → Int32 → List V_ → Option Rs_) : Option Rs_ := match st with
  | Sum.inl v :: Sum.inl i :: Sum.inr (Sum.inr (c, n, p)) :: s => g c n p i v s
  | _ => none
def pRV (st : List V_) (g : Nat → Nat → Nat → V_ → List V_ → Option Rs_) : Option Rs_ := match st with
  | v :: Sum.inr (Sum.inr (c, n, p)) :: s => g c n p v s
  | _ => none
def gI (o : Option V_) (g : Int32 → Option Rs_) : Option Rs_ := match o with
  | some (Sum.inl a) => g a
  | _ => none
def gL (o : Option V_) (g : Int64 → Option Rs_) : Option Rs_ := match o with
  | some (Sum.inr (Sum.inl a)) => g a
  | _ => none
def gR (o : Option V_) (g : Nat → Nat → Nat → Option Rs_) : Option Rs_ := match o with
  | some (Sum.inr (Sum.inr (c, n, p))) => g c n p
  | _ => none
/-- n arguments from the stack, the first pushed first -/
def pN : Nat → List V_ → List V_ → (List V_ → List V_ → Option Rs_) → Option Rs_
  | 0, a, s, g => g a s
  | n + 1, a, v :: s, g => pN n (v :: a) s g
  | _ + 1, _, [], _ => none
/-- the first argument is an object of class c -/
def rcv (c : Nat) : List V_ → Bool
  | Sum.inr (Sum.inr (c', _, p)) :: _ => c'.beq c && p.beq 0
  | _ => false
/-- no argument is the script -/
def no8 : List V_ → Bool
  | [] => true
  | Sum.inr (Sum.inr (c, _, _)) :: l => !(c.beq 8) && no8 l
  | _ :: l => no8 l
/-- a call: method x; y holds its number of arguments, its locals (times 16), its receiver's class (times 1024); z: whether it answers -/
def inv (call : Cl_) (virt : Bool) (x y z pc : Nat) (lv : Lv_) (s : List V_) (O : Mem_) (go : Go_) : Option Rs_ :=
  pN (y % 16) [] s fun a t => bif (bif virt then rcv (y / 1024) a else true) && ((lay a).length.ble (y / 16 % 64) && (few t && no8 a)) then (call x a O).bind (fun r => match z with
    | 0 => go (pc + 3) lv t r.2
    | _ => go (pc + 3) lv (vi r.1 :: t) r.2) else none
def stp (swT : Nat → List (Int32 × Nat) × Nat) (call : Cl_) (en : E_) (pc : Nat) (lv : Lv_) (st : List V_) (O : Mem_) (go : Go_) : Option Rs_ :=
  match en with
  | (ins, _, x, y, z, k, kl) =>
    match ins with
    | .iconst _ => go (pc + 1) lv (vi k :: st) O
    | .bipush _ => go (pc + 2) lv (vi k :: st) O
    | .sipush _ => go (pc + 3) lv (vi k :: st) O
    | .lconst _ => go (pc + 1) lv (vl kl :: st) O
    | .ldc _ => bif z.beq 0 then go (pc + 2) lv (vi k :: st) O else go (pc + 2) lv (vr 9 x 0 :: st) O
    | .ldc_w _ => go (pc + 3) lv (vi k :: st) O
    | .ldc2_w _ => go (pc + 3) lv (vl kl :: st) O
    | .iload_n _ => gI (ln lv x) fun a => go (pc + 1) lv (vi a :: st) O
    | .iload _ => gI (ln lv x) fun a => go (pc + 2) lv (vi a :: st) O
    | .lload_n _ => gL (ln lv x) fun a => go (pc + 1) lv (vl a :: st) O
    | .lload _ => gL (ln lv x) fun a => go (pc + 2) lv (vl a :: st) O
    | .aload_n _ => gR (ln lv x) fun c n p => go (pc + 1) lv (vr c n p :: st) O
    | .aload _ => gR (ln lv x) fun c n p => go (pc + 2) lv (vr c n p :: st) O
    | .istore_n _ => pI st fun a s => go (pc + 1) (lst lv x (vi a)) s O
    | .istore _ => pI st fun a s => go (pc + 2) (lst lv x (vi a)) s O
    | .lstore_n _ => pL st fun a s => go (pc + 1) (lst lv x (vl a)) s O
    | .lstore _ => pL st fun a s => go (pc + 2) (lst lv x (vl a)) s O
    | .astore_n _ => pR st fun c n p s => go (pc + 1) (lst lv x (vr c n p)) s O
    | .astore _ => pR st fun c n p s => go (pc + 2) (lst lv x (vr c n p)) s O
    | .iinc _ _ => gI (ln lv x) fun a => go (pc + 3) (lst lv x (vi (a + k))) st O
    | .iadd => pII st fun a b s => go (pc + 1) lv (vi (a + b) :: s) O
    | .isub => pII st fun a b s => go (pc + 1) lv (vi (a - b) :: s) O
    | .imul => pII st fun a b s => go (pc + 1) lv (vi (a * b) :: s) O
    | .iand => pII st fun a b s => go (pc + 1) lv (vi (a &&& b) :: s) O
    | .ior => pII st fun a b s => go (pc + 1) lv (vi (a ||| b) :: s) O
    | .ixor => pII st fun a b s => go (pc + 1) lv (vi (a ^^^ b) :: s) O
    | .ishl => pII st fun a b s => go (pc + 1) lv (vi (a <<< (b &&& 31)) :: s) O
    | .ishr => pII st fun a b s => go (pc + 1) lv (vi (a >>> (b &&& 31)) :: s) O
    | .iushr => pII st fun a b s => go (pc + 1) lv (vi (a.toUInt32 >>> (b.toUInt32 &&& Int32.toUInt32 31)).toInt32 :: s) O
    | .idiv => pII st fun a b s => if b = 0 then none else go (pc + 1) lv (vi (a / b) :: s) O
    | .irem => pII st fun a b s => if b = 0 then none else go (pc + 1) lv (vi (a - a / b * b) :: s) O
    | .ladd => pLL st fun a b s => go (pc + 1) lv (vl (a + b) :: s) O
    | .land => pLL st fun a b s => go (pc + 1) lv (vl (a &&& b) :: s) O
    | .lor => pLL st fun a b s => go (pc + 1) lv (vl (a ||| b) :: s) O
    | .lshl => pLI st fun a b s => go (pc + 1) lv (vl (a <<< (b.toInt64 &&& 63)) :: s) O
    | .lshr => pLI st fun a b s => go (pc + 1) lv (vl (a >>> (b.toInt64 &&& 63)) :: s) O
    | .lushr => pLI st fun a b s => go (pc + 1) lv (vl (a.toUInt64 >>> (b.toInt64.toUInt64 &&& Int64.toUInt64 63)).toInt64 :: s) O
    | .lcmp => pLL st fun a b s => go (pc + 1) lv (vi (lg_cmp a b) :: s) O
    | .i2l => pI st fun a s => go (pc + 1) lv (vl a.toInt64 :: s) O
    | .l2i => pL st fun a s => go (pc + 1) lv (vi a.toInt32 :: s) O
    | .i2b => pI st fun a s => go (pc + 1) lv (vi a.toInt8.toInt32 :: s) O
    | .i2s => pI st fun a s => go (pc + 1) lv (vi a.toInt16.toInt32 :: s) O
    | .dup => match st with
      | Sum.inl a :: s => go (pc + 1) lv (vi a :: vi a :: s) O
      | Sum.inr (Sum.inr (c, n, p)) :: s => go (pc + 1) lv (vr c n p :: vr c n p :: s) O
      | _ => none
    | .dup2 => pRI st fun c n p a s => go (pc + 1) lv (vi a :: vr c n p :: vi a :: vr c n p :: s) O
    | .pop => pI st fun _ s => go (pc + 1) lv s O
    | .ifCond c _ => pI st fun a s => jmp c a 0 (go x lv s O) (go (pc + 3) lv s O)
    | .if_icmp c _ => pII st fun a b s => jmp c a b (go x lv s O) (go (pc + 3) lv s O)
    | .goto _ => go x lv st O
    | .tableswitch _ _ _ _ => pI st fun a s => swg a (swT x).1 (swT x).2 (fun t => go t lv s O)
    | .lookupswitch _ _ => pI st fun a s => swg a (swT x).1 (swT x).2 (fun t => go t lv s O)
    | .getfield _ => pR st fun c n p s => bif c.beq x && p.beq 0 then go (pc + 3) lv (gfv z c n y O :: s) O else none
    | .putfield _ => pRV st fun c n p v s => bif c.beq x && p.beq 0 then
        (match z, v with
        | 0, Sum.inl a => go (pc + 3) lv s (up O c n 0 y a)
        | 1, Sum.inl a => if a = 0 ∨ a = 1 then go (pc + 3) lv s (up O c n 0 y a) else none
        | 2, Sum.inr (Sum.inr (c2, n2, p2)) => bif c2.beq 4 && p2.beq 0 then go (pc + 3) lv s (up O c n 0 y (nI n2)) else none
        | _, _ => none) else none
    | .iaload => pRI st fun c n p i s =>
        bif c.beq 8 then (if ib i (O 8 0 1 0).toNatClampNeg then go (pc + 1) lv (vi (O 8 0 0 i.toNatClampNeg) :: s) O else none)
        else bif (aty c p).beq 0 then (if ib i (aln c p) then go (pc + 1) lv (vi (O c n p i.toNatClampNeg) :: s) O else none) else none
    | .baload => pRI st fun c n p i s =>
        bif (aty c p).beq 1 then (if ib i (aln c p) then go (pc + 1) lv (vi (O c n p i.toNatClampNeg) :: s) O else none) else none
    | .aaload => pRI st fun c n p i s =>
        bif Nat.blt 1 (aty c p) && (aty c p).blt 5 then (if ib i (aln c p) then go (pc + 1) lv (aref c n p i.toNatClampNeg :: s) O else none) else none
    | .iastore => pRII st fun c n p i v s =>
        bif (aty c p).beq 0 then (if ib i (aln c p) then go (pc + 1) lv s (up O c n p i.toNatClampNeg v) else none) else none
    | .bastore => pRII st fun c n p i v s =>
        bif (aty c p).beq 1 then (if ib i (aln c p) then (if v = 0 ∨ v = 1 then go (pc + 1) lv s (up O c n p i.toNatClampNeg v) else none) else none) else none
    | .arraylength => pR st fun c n p s => bif c.beq 8 then go (pc + 1) lv (vi (O 8 0 1 0) :: s) O else none
    | .invokevirtual _ => inv call true x y z pc lv st O go
    | .invokestatic _ => inv call false x y z pc lv st O go
    | .ireturn => match st with
      | [Sum.inl a] => bif z.beq 0 then some (a, O) else if a = 0 ∨ a = 1 then some (a, O) else none
      | _ => none
    | .return_ => match st with
      | [] => some (0, O)
      | _ => none
    | _ => none
def lk1 : List (Nat × E_) → Nat → E_
  | [], _ => (.nop, 0, 0, 0, 0, 0, 0)
  | (q, e) :: l, pc => bif q.beq pc then e else lk1 l pc
def lk (tb : List (List (Nat × E_))) (pc : Nat) : E_ := lk1 (tb.getD (pc / 32) []) pc
/-- the places where a run is cut, and which locals it keeps there -/
def ctk : List (Nat × List Bool) → Nat → Option (List Bool)
  | [], _ => none
  | (q, k) :: l, pc => bif q.beq pc then some k else ctk l pc
def msk : List Bool → Lv_ → Lv_
  | [], _ => []
  | _, [] => []
  | b :: m, x :: l => (bif b then x else none) :: msk m l
def ctl (ct : List (Nat × List Bool)) (pc : Nat) (lv : Lv_) : Lv_ := match ctk ct pc with
  | some k => msk k lv
  | none => lv
def rn_ (swT : Nat → List (Int32 × Nat) × Nat) (call : Cl_) (tb : List (List (Nat × E_))) (ct : List (Nat × List Bool)) : Nat → Go_
  | 0 => fun _ _ _ _ => none
  | n + 1 => fun pc lv st O => stp swT call (lk tb pc) pc lv st O (fun pc lv st O => rn_ swT call tb ct n pc (ctl ct pc lv) st O)
/-- k steps, but no further than the next place where runs are cut; from there on g -/
def un_ (swT : Nat → List (Int32 × Nat) × Nat) (call : Cl_) (tb : List (List (Nat × E_))) (ct : List (Nat × List Bool)) (g : Go_) : Nat → Go_
  | 0 => g
  | n + 1 => fun pc lv st O => stp swT call (lk tb pc) pc lv st O (fun pc lv st O => match ctk ct pc with
    | some k => g pc (msk k lv) st O
    | none => un_ swT call tb ct g n pc lv st O)
/-- what some stage of a growing row of answers says -/
noncomputable def lim_ (f : Nat → Option Rs_) : Option Rs_ := @dite _ (∃ n, (f n).isSome = true) (Classical.propDecidable _) (fun h => f (Classical.choose h)) (fun _ => none)
/-- F asks its continuation at one place at most -/
def once (F : Go_ → Option Rs_) : Prop := ∀ (go : Go_) (r : Rs_), F go = some r → (∀ go' : Go_, F go' = some r) ∨ ∃ pc lv st O, go pc lv st O = some r ∧ ∀ go' : Go_, go' pc lv st O = some r → F go' = some r
theorem once_go (pc : Nat) (lv : Lv_) (st : List V_) (O : Mem_) : once (fun go => go pc lv st O) := fun _ _ h => Or.inr ⟨pc, lv, st, O, h, fun _ h => h⟩
theorem once_k (o : Option Rs_) : once (fun _ => o) := fun _ _ h => Or.inl fun _ => h
theorem once_ite {c : Prop} [Decidable c] {F G : Go_ → Option Rs_} (hF : once F) (hG : once G) : once (fun go => if c then F go else G go) := by
  intro go r h
  by_cases hc : c
  · simp only [hc, if_true] at h ⊢; exact hF go r h
  · simp only [hc, if_false] at h ⊢; exact hG go r h
theorem once_cond {c : Bool} {F G : Go_ → Option Rs_} (hF : once F) (hG : once G) : once (fun go => bif c then F go else G go) := by
  intro go r h
  cases c
  · exact hG go r h
  · exact hF go r h
theorem once_bind {o : Option Rs_} {g : Rs_ → Go_ → Option Rs_} (hg : ∀ a, once (g a)) : once (fun go => o.bind (fun a => g a go)) := by
  intro go r h
  cases o with
  | none => exact Or.inl fun _ => h
  | some a => exact hg a go r h
theorem once_pI {st : List V_} {g : Int32 → List V_ → Go_ → Option Rs_} (hg : ∀ a s, once (g a s)) : once (fun go => pI st (fun a s => g a s go)) := by
  intro go r h
  unfold pI at h ⊢
  split at h
  · exact hg _ _ go r h
  · cases h
theorem once_pII {st : List V_} {g : Int32 → Int32 → List V_ → Go_ → Option Rs_} (hg : ∀ a b s, once (g a b s)) : once (fun go => pII st (fun a b s => g a b s go)) := by
  intro go r h
  unfold pII at h ⊢
  split at h
  · exact hg _ _ _ go r h
  · cases h
theorem once_pL {st : List V_} {g : Int64 → List V_ → Go_ → Option Rs_} (hg : ∀ a s, once (g a s)) : once (fun go => pL st (fun a s => g a s go)) := by
  intro go r h
  unfold pL at h ⊢
  split at h
  · exact hg _ _ go r h
  · cases h
theorem once_pLL {st : List V_} {g : Int64 → Int64 → List V_ → Go_ → Option Rs_} (hg : ∀ a b s, once (g a b s)) : once (fun go => pLL st (fun a b s => g a b s go)) := by
  intro go r h
  unfold pLL at h ⊢
  split at h
  · exact hg _ _ _ go r h
  · cases h
theorem once_pLI {st : List V_} {g : Int64 → Int32 → List V_ → Go_ → Option Rs_} (hg : ∀ a b s, once (g a b s)) : once (fun go => pLI st (fun a b s => g a b s go)) := by
  intro go r h
  unfold pLI at h ⊢
  split at h
  · exact hg _ _ _ go r h
  · cases h
theorem once_pR {st : List V_} {g : Nat → Nat → Nat → List V_ → Go_ → Option Rs_} (hg : ∀ c n p s, once (g c n p s)) : once (fun go => pR st (fun c n p s => g c n p s go)) := by
  intro go r h
  unfold pR at h ⊢
  split at h
  · exact hg _ _ _ _ go r h
  · cases h
theorem once_pRI {st : List V_} {g : Nat → Nat → Nat → Int32 → List V_ → Go_ → Option Rs_} (hg : ∀ c n p i s, once (g c n p i s)) : once (fun go => pRI st (fun c n p i s => g c n p i s go)) := by
  intro go r h
  unfold pRI at h ⊢
  split at h
  · exact hg _ _ _ _ _ go r h
  · cases h
theorem once_pRII {st : List V_} {g : Nat → Nat → Nat → Int32 → Int32 → List V_ → Go_ → Option Rs_} (hg : ∀ c n p i v s, once (g c n p i v s)) : once (fun go => pRII st (fun c n p i v s => g c n p i v s go)) := by
  intro go r h
  unfold pRII at h ⊢
  split at h
  · exact hg _ _ _ _ _ _ go r h
  · cases h
theorem once_pRV {st : List V_} {g : Nat → Nat → Nat → V_ → List V_ → Go_ → Option Rs_} (hg : ∀ c n p v s, once (g c n p v s)) : once (fun go => pRV st (fun c n p v s => g c n p v s go)) := by
  intro go r h
  unfold pRV at h ⊢
  split at h
  · exact hg _ _ _ _ _ go r h
  · cases h
theorem once_gI {o : Option V_} {g : Int32 → Go_ → Option Rs_} (hg : ∀ a, once (g a)) : once (fun go => gI o (fun a => g a go)) := by
  intro go r h
  unfold gI at h ⊢
  split at h
  · exact hg _ go r h
  · cases h
theorem once_gL {o : Option V_} {g : Int64 → Go_ → Option Rs_} (hg : ∀ a, once (g a)) : once (fun go => gL o (fun a => g a go)) := by
  intro go r h
  unfold gL at h ⊢
  split at h
  · exact hg _ go r h
  · cases h
theorem once_gR {o : Option V_} {g : Nat → Nat → Nat → Go_ → Option Rs_} (hg : ∀ c n p, once (g c n p)) : once (fun go => gR o (fun c n p => g c n p go)) := by
  intro go r h
  unfold gR at h ⊢
  split at h
  · exact hg _ _ _ go r h
  · cases h
theorem once_jmp {c : ClassFile.Cond} {a b : Int32} {F G : Go_ → Option Rs_} (hF : once F) (hG : once G) : once (fun go => jmp c a b (F go) (G go)) := by
  unfold jmp
  cases c <;> first | exact once_ite hF hG | exact once_ite hG hF
theorem once_swg {a : Int32} {g : Nat → Go_ → Option Rs_} (hg : ∀ t, once (g t)) : ∀ (l : List (Int32 × Nat)) (d : Nat), once (fun go => swg a l d (fun t => g t go))
  | [], d => hg d
  | (k, t) :: l, d => by
    unfold swg
    exact once_ite (hg t) (once_swg hg l d)
section
variable {swT : Nat → List (Int32 × Nat) × Nat} {call : Cl_}
theorem once_pN {g : List V_ → List V_ → Go_ → Option Rs_} (hg : ∀ a t, once (g a t)) : ∀ (n : Nat) (a s : List V_), once (fun go => pN n a s (fun a t => g a t go))
  | 0, a, s => hg a s
  | n + 1, a, v :: s => once_pN hg n (v :: a) s
  | n + 1, a, [] => once_k none
theorem once_inv (virt : Bool) (x y z pc : Nat) (lv : Lv_) (s : List V_) (O : Mem_) : once (fun go => inv call virt x y z pc lv s O go) := by
  unfold inv
  refine once_pN (fun a t => once_cond (once_bind fun r => ?_) (once_k none)) _ _ _
  cases z
  · exact once_go _ _ _ _
  · exact once_go _ _ _ _
set_option maxHeartbeats 4000000 in
theorem once_stp (en : E_) (pc : Nat) (lv : Lv_) (st : List V_) (O : Mem_) : once (fun go => stp swT call en pc lv st O go) := by
  obtain ⟨ins, len, x, y, z, k, kl⟩ := en
  cases ins <;> dsimp only [stp] <;> first
    | exact once_k _
    | exact once_go _ _ _ _
    | exact once_inv _ _ _ _ _ _ _ _
    | exact once_gI fun _ => once_go _ _ _ _
    | exact once_gL fun _ => once_go _ _ _ _
    | exact once_gR fun _ _ _ => once_go _ _ _ _
    | exact once_pI fun _ _ => once_go _ _ _ _
    | exact once_pII fun _ _ _ => once_go _ _ _ _
    | exact once_pL fun _ _ => once_go _ _ _ _
    | exact once_pLL fun _ _ _ => once_go _ _ _ _
    | exact once_pLI fun _ _ _ => once_go _ _ _ _
    | exact once_pR fun _ _ _ _ => once_go _ _ _ _
    | exact once_pRI fun _ _ _ _ _ => once_go _ _ _ _
    | exact once_pII fun _ _ _ => once_ite (once_k none) (once_go _ _ _ _)
    | exact once_pI fun _ _ => once_jmp (once_go _ _ _ _) (once_go _ _ _ _)
    | exact once_pII fun _ _ _ => once_jmp (once_go _ _ _ _) (once_go _ _ _ _)
    | exact once_pI fun _ _ => once_swg (fun _ => once_go _ _ _ _) _ _
    | exact once_cond (once_go _ _ _ _) (once_go _ _ _ _)
    | exact once_pR fun _ _ _ _ => once_cond (once_go _ _ _ _) (once_k none)
    | exact once_pRI fun _ _ _ _ _ => once_cond (once_ite (once_go _ _ _ _) (once_k none)) (once_cond (once_ite (once_go _ _ _ _) (once_k none)) (once_k none))
    | exact once_pRI fun _ _ _ _ _ => once_cond (once_ite (once_go _ _ _ _) (once_k none)) (once_k none)
    | exact once_pRII fun _ _ _ _ _ _ => once_cond (once_ite (once_go _ _ _ _) (once_k none)) (once_k none)
    | exact once_pRII fun _ _ _ _ _ _ => once_cond (once_ite (once_ite (once_go _ _ _ _) (once_k none)) (once_k none)) (once_k none)
    | (split <;> first | exact once_go _ _ _ _ | exact once_k _)
    | (refine once_pRV fun c n p v s => once_cond ?_ (once_k none)
       split <;> first | exact once_go _ _ _ _ | exact once_k _ | exact once_ite (once_go _ _ _ _) (once_k none) | exact once_cond (once_go _ _ _ _) (once_k none))
end
/-- the runs at depth d: which method, from where -/
noncomputable def ex_ (swT : Nat → List (Int32 × Nat) × Nat) (tbs : List (List (List (Nat × E_)))) (cts : List (List (Nat × List Bool))) : Nat → Nat → Go_
  | 0, _ => fun _ _ _ _ => none
  | d + 1, mi => fun pc lv st O => lim_ (fun n => rn_ swT (cl_ (ex_ swT tbs cts d)) (tbs.getD mi []) (cts.getD mi []) n pc lv st O)
section
variable {swT : Nat → List (Int32 × Nat) × Nat} {call : Cl_} {tb : List (List (Nat × E_))} {ct : List (Nat × List Bool)}
theorem rn_s (n pc : Nat) (lv : Lv_) (st : List V_) (O : Mem_) : rn_ swT call tb ct (n + 1) pc lv st O = stp swT call (lk tb pc) pc lv st O (fun pc lv st O => rn_ swT call tb ct n pc (ctl ct pc lv) st O) := rfl
theorem rn_mono : ∀ (n : Nat) (pc : Nat) (lv : Lv_) (st : List V_) (O : Mem_) (r : Rs_), rn_ swT call tb ct n pc lv st O = some r → rn_ swT call tb ct (n + 1) pc lv st O = some r
  | 0, _, _, _, _, _, h => by cases h
  | n + 1, pc, lv, st, O, r, h => by
    rw [rn_s] at h
    rw [rn_s]
    rcases once_stp (swT := swT) (call := call) (lk tb pc) pc lv st O (fun pc lv st O => rn_ swT call tb ct n pc (ctl ct pc lv) st O) r h with h1 | ⟨pc', lv', st', O', h1, h2⟩
    · exact h1 (fun pc lv st O => rn_ swT call tb ct (n + 1) pc (ctl ct pc lv) st O)
    · exact h2 (fun pc lv st O => rn_ swT call tb ct (n + 1) pc (ctl ct pc lv) st O) (rn_mono n _ _ _ _ r h1)
theorem rn_le {n m : Nat} (h : n ≤ m) {pc : Nat} {lv : Lv_} {st : List V_} {O : Mem_} {r : Rs_} (hr : rn_ swT call tb ct n pc lv st O = some r) : rn_ swT call tb ct m pc lv st O = some r := by
  induction h with
  | refl => exact hr
  | step _ ih => exact rn_mono _ _ _ _ _ r ih
theorem lim_some {f : Nat → Option Rs_} {r : Rs_} (hm : ∀ n m r, n ≤ m → f n = some r → f m = some r) : lim_ f = some r ↔ ∃ n, f n = some r := by
  unfold lim_
  constructor
  · intro h
    split at h
    · exact ⟨_, h⟩
    · cases h
  · rintro ⟨n, hn⟩
    have he : ∃ n, (f n).isSome = true := ⟨n, by rw [hn]; rfl⟩
    rw [dif_pos he]
    obtain ⟨r', hr'⟩ := Option.isSome_iff_exists.mp (Classical.choose_spec he)
    rw [hr']
    rcases Nat.le_total n (Classical.choose he) with q | q
    · have := hm _ _ _ q hn
      rw [this] at hr'
      exact hr'.symm
    · have := hm _ _ _ q hr'
      rw [this] at hn
      exact hn
theorem opt_ext {a b : Option Rs_} (h : ∀ r, a = some r ↔ b = some r) : a = b := by
  cases a with
  | none => cases b with
    | none => rfl
    | some r => exact ((h r).mpr rfl)
  | some r => exact ((h r).mp rfl).symm
theorem lim_rn (pc : Nat) (lv : Lv_) (st : List V_) (O : Mem_) : lim_ (fun n => rn_ swT call tb ct n pc lv st O) = stp swT call (lk tb pc) pc lv st O (fun pc lv st O => lim_ (fun n => rn_ swT call tb ct n pc (ctl ct pc lv) st O)) := by
  refine opt_ext fun r => ?_
  rw [lim_some (fun n m r h hr => rn_le h hr)]
  constructor
  · rintro ⟨n, hn⟩
    cases n with
    | zero => cases hn
    | succ n =>
      rw [rn_s] at hn
      rcases once_stp (swT := swT) (call := call) (lk tb pc) pc lv st O (fun pc lv st O => rn_ swT call tb ct n pc (ctl ct pc lv) st O) r hn with h1 | ⟨pc', lv', st', O', h1, h2⟩
      · exact h1 (fun pc lv st O => lim_ (fun n => rn_ swT call tb ct n pc (ctl ct pc lv) st O))
      · exact h2 (fun pc lv st O => lim_ (fun n => rn_ swT call tb ct n pc (ctl ct pc lv) st O)) ((lim_some (fun n m r h hr => rn_le h hr)).mpr ⟨n, h1⟩)
  · intro h
    rcases once_stp (swT := swT) (call := call) (lk tb pc) pc lv st O (fun pc lv st O => lim_ (fun n => rn_ swT call tb ct n pc (ctl ct pc lv) st O)) r h with h1 | ⟨pc', lv', st', O', h1, h2⟩
    · exact ⟨1, h1 (fun pc lv st O => rn_ swT call tb ct 0 pc (ctl ct pc lv) st O)⟩
    · obtain ⟨n, hn⟩ := (lim_some (fun n m r h hr => rn_le h hr)).mp h1
      exact ⟨n + 1, h2 (fun pc lv st O => rn_ swT call tb ct n pc (ctl ct pc lv) st O) hn⟩
end
section
variable {swT : Nat → List (Int32 × Nat) × Nat} {tbs : List (List (List (Nat × E_)))} {cts : List (List (Nat × List Bool))}
theorem ex_eq (d mi pc : Nat) (lv : Lv_) (st : List V_) (O : Mem_) : ex_ swT tbs cts (d + 1) mi pc lv st O = stp swT (cl_ (ex_ swT tbs cts d)) (lk (tbs.getD mi []) pc) pc lv st O (fun pc lv st O => ex_ swT tbs cts (d + 1) mi pc (ctl (cts.getD mi []) pc lv) st O) := lim_rn pc lv st O
theorem ex_un_ (d mi : Nat) : ∀ (n pc : Nat) (lv : Lv_) (st : List V_) (O : Mem_), ex_ swT tbs cts (d + 1) mi pc lv st O = un_ swT (cl_ (ex_ swT tbs cts d)) (tbs.getD mi []) (cts.getD mi []) (ex_ swT tbs cts (d + 1) mi) n pc lv st O
  | 0, pc, lv, st, O => rfl
  | n + 1, pc, lv, st, O => by
    rw [ex_eq]
    unfold un_
    congr 1
    funext pc lv st O
    unfold ctl
    split
    · rfl
    · exact ex_un_ d mi n pc lv st O
end
end
section
/-! the program: its methods' instructions with what they name, by program out of the listing; 219 methods -/
def tX0_blank : List (List (Nat × E_)) := [[(0, (.aload_n 0, 1, 0, 0, 0, 0, 0)), (1, (.iconst 0, 1, 0, 0, 0, 0, 0)), (2, (.putfield 27, 3, 0, 0, 0, 422, 0)), (5, (.iconst 0, 1, 0, 0, 0, 0, 0)), (6, (.istore_n 2, 1, 2, 0, 0, 0, 0)), (7, (.iload_n 2, 1, 2, 0, 0, 0, 0)), (8, (.bipush 24, 2, 0, 0, 0, 24, 0)), (10, (.if_icmp .ge 24, 3, 34, 0, 0, 0, 0)), (13, (.aload_n 0, 1, 0, 0, 0, 0, 0)), (14, (.getfield 9, 3, 0, 1, 1, 79, 0)), (17, (.iload_n 2, 1, 2, 0, 0, 0, 0)), (18, (.bipush (-4), 2, 0, 0, 0, (-4), 0)), (20, (.iastore, 1, 0, 0, 0, 0, 0)), (21, (.aload_n 0, 1, 0, 0, 0, 0, 0)), (22, (.getfield 15, 3, 0, 2, 1, 80, 0)), (25, (.iload_n 2, 1, 2, 0, 0, 0, 0)), (26, (.iconst 0, 1, 0, 0, 0, 0, 0)), (27, (.iastore, 1, 0, 0, 0, 0, 0)), (28, (.iinc 2 1, 3, 2, 0, 0, 1, 0)), (31, (.goto (-24), 3, 7, 0, 0, 0, 0))],
  [(34, (.iconst 0, 1, 0, 0, 0, 0, 0)), (35, (.istore_n 2, 1, 2, 0, 0, 0, 0)), (36, (.iload_n 2, 1, 2, 0, 0, 0, 0)), (37, (.bipush 6, 2, 0, 0, 0, 6, 0)), (39, (.if_icmp .ge 25, 3, 64, 0, 0, 0, 0)), (42, (.aload_n 0, 1, 0, 0, 0, 0, 0)), (43, (.getfield 18, 3, 0, 3, 1, 81, 0)), (46, (.iload_n 2, 1, 2, 0, 0, 0, 0)), (47, (.bipush (-4), 2, 0, 0, 0, (-4), 0)), (49, (.iastore, 1, 0, 0, 0, 0, 0)), (50, (.aload_n 0, 1, 0, 0, 0, 0, 0)), (51, (.getfield 21, 3, 0, 4, 1, 82, 0)), (54, (.iload_n 2, 1, 2, 0, 0, 0, 0)), (55, (.bipush (-4), 2, 0, 0, 0, (-4), 0)), (57, (.iastore, 1, 0, 0, 0, 0, 0)), (58, (.iinc 2 1, 3, 2, 0, 0, 1, 0)), (61, (.goto (-25), 3, 36, 0, 0, 0, 0))],
  [(64, (.iconst 0, 1, 0, 0, 0, 0, 0)), (65, (.istore_n 2, 1, 2, 0, 0, 0, 0)), (66, (.iload_n 2, 1, 2, 0, 0, 0, 0)), (67, (.iconst 4, 1, 0, 0, 0, 4, 0)), (68, (.if_icmp .ge 19, 3, 87, 0, 0, 0, 0)), (71, (.aload_n 0, 1, 0, 0, 0, 0, 0)), (72, (.getfield 24, 3, 0, 5, 1, 83, 0)), (75, (.iload_n 2, 1, 2, 0, 0, 0, 0)), (76, (.aload_n 1, 1, 1, 0, 0, 0, 0)), (77, (.invokevirtual 31, 3, 49, 4113, 1, 423, 0)), (80, (.iastore, 1, 0, 0, 0, 0, 0)), (81, (.iinc 2 1, 3, 2, 0, 0, 1, 0)), (84, (.goto (-18), 3, 66, 0, 0, 0, 0)), (87, (.return_, 1, 0, 0, 0, 0, 0))]]
def tX0_become : List (List (Nat × E_)) := [[(0, (.aload_n 0, 1, 0, 0, 0, 0, 0)), (1, (.aload_n 1, 1, 1, 0, 0, 0, 0)), (2, (.getfield 27, 3, 0, 0, 0, 422, 0)), (5, (.putfield 27, 3, 0, 0, 0, 422, 0)), (8, (.aload_n 1, 1, 1, 0, 0, 0, 0)), (9, (.getfield 9, 3, 0, 1, 1, 79, 0)), (12, (.iconst 0, 1, 0, 0, 0, 0, 0)), (13, (.aload_n 0, 1, 0, 0, 0, 0, 0)), (14, (.getfield 9, 3, 0, 1, 1, 79, 0)), (17, (.iconst 0, 1, 0, 0, 0, 0, 0)), (18, (.bipush 24, 2, 0, 0, 0, 24, 0)), (20, (.invokestatic 37, 3, 1000, 261, 0, 818, 0)), (23, (.aload_n 1, 1, 1, 0, 0, 0, 0)), (24, (.getfield 15, 3, 0, 2, 1, 80, 0)), (27, (.iconst 0, 1, 0, 0, 0, 0, 0)), (28, (.aload_n 0, 1, 0, 0, 0, 0, 0)), (29, (.getfield 15, 3, 0, 2, 1, 80, 0))],
  [(32, (.iconst 0, 1, 0, 0, 0, 0, 0)), (33, (.bipush 24, 2, 0, 0, 0, 24, 0)), (35, (.invokestatic 37, 3, 1000, 261, 0, 818, 0)), (38, (.aload_n 1, 1, 1, 0, 0, 0, 0)), (39, (.getfield 18, 3, 0, 3, 1, 81, 0)), (42, (.iconst 0, 1, 0, 0, 0, 0, 0)), (43, (.aload_n 0, 1, 0, 0, 0, 0, 0)), (44, (.getfield 18, 3, 0, 3, 1, 81, 0)), (47, (.iconst 0, 1, 0, 0, 0, 0, 0)), (48, (.bipush 6, 2, 0, 0, 0, 6, 0)), (50, (.invokestatic 37, 3, 1000, 261, 0, 818, 0)), (53, (.aload_n 1, 1, 1, 0, 0, 0, 0)), (54, (.getfield 21, 3, 0, 4, 1, 82, 0)), (57, (.iconst 0, 1, 0, 0, 0, 0, 0)), (58, (.aload_n 0, 1, 0, 0, 0, 0, 0)), (59, (.getfield 21, 3, 0, 4, 1, 82, 0)), (62, (.iconst 0, 1, 0, 0, 0, 0, 0)), (63, (.bipush 6, 2, 0, 0, 0, 6, 0))],
  [(65, (.invokestatic 37, 3, 1000, 261, 0, 818, 0)), (68, (.aload_n 1, 1, 1, 0, 0, 0, 0)), (69, (.getfield 24, 3, 0, 5, 1, 83, 0)), (72, (.iconst 0, 1, 0, 0, 0, 0, 0)), (73, (.aload_n 0, 1, 0, 0, 0, 0, 0)), (74, (.getfield 24, 3, 0, 5, 1, 83, 0)), (77, (.iconst 0, 1, 0, 0, 0, 0, 0)), (78, (.iconst 4, 1, 0, 0, 0, 4, 0)), (79, (.invokestatic 37, 3, 1000, 261, 0, 818, 0)), (82, (.return_, 1, 0, 0, 0, 0, 0))]]
def tX0_witness : List (List (Nat × E_)) := [[(0, (.aload_n 1, 1, 1, 0, 0, 0, 0)), (1, (.iload_n 3, 1, 3, 0, 0, 0, 0)), (2, (.invokevirtual 43, 3, 45, 4130, 1, 599, 0)), (5, (.ifCond .eq 12, 3, 17, 0, 0, 0, 0)), (8, (.aload_n 1, 1, 1, 0, 0, 0, 0)), (9, (.iload 4, 2, 4, 0, 0, 0, 0)), (11, (.invokevirtual 47, 3, 43, 4130, 1, 600, 0)), (14, (.ifCond .ne 5, 3, 19, 0, 0, 0, 0)), (17, (.iconst 0, 1, 0, 0, 0, 0, 0)), (18, (.ireturn, 1, 0, 0, 1, 0, 0)), (19, (.aload_n 0, 1, 0, 0, 0, 0, 0)), (20, (.getfield 24, 3, 0, 5, 1, 83, 0)), (23, (.iload_n 3, 1, 3, 0, 0, 0, 0)), (24, (.iaload, 1, 0, 0, 0, 0, 0)), (25, (.istore 6, 2, 6, 0, 0, 0, 0)), (27, (.aload_n 0, 1, 0, 0, 0, 0, 0)), (28, (.getfield 24, 3, 0, 5, 1, 83, 0)), (31, (.iload_n 3, 1, 3, 0, 0, 0, 0))],
  [(32, (.dup2, 1, 0, 0, 0, 0, 0)), (33, (.iaload, 1, 0, 0, 0, 0, 0)), (34, (.aload_n 1, 1, 1, 0, 0, 0, 0)), (35, (.iload 4, 2, 4, 0, 0, 0, 0)), (37, (.iload 5, 2, 5, 0, 0, 0, 0)), (39, (.invokevirtual 50, 3, 52, 4147, 1, 601, 0)), (42, (.iand, 1, 0, 0, 0, 0, 0)), (43, (.iastore, 1, 0, 0, 0, 0, 0)), (44, (.aload_n 0, 1, 0, 0, 0, 0, 0)), (45, (.getfield 24, 3, 0, 5, 1, 83, 0)), (48, (.iload_n 3, 1, 3, 0, 0, 0, 0)), (49, (.iaload, 1, 0, 0, 0, 0, 0)), (50, (.iload 6, 2, 6, 0, 0, 0, 0)), (52, (.if_icmp .eq 7, 3, 59, 0, 0, 0, 0)), (55, (.iconst 1, 1, 0, 0, 0, 1, 0)), (56, (.goto 4, 3, 60, 0, 0, 0, 0)), (59, (.iconst 0, 1, 0, 0, 0, 0, 0)), (60, (.istore 7, 2, 7, 0, 0, 0, 0)), (62, (.iconst 0, 1, 0, 0, 0, 0, 0)), (63, (.istore 8, 2, 8, 0, 0, 0, 0))],
  [(65, (.iload 8, 2, 8, 0, 0, 0, 0)), (67, (.aload_n 1, 1, 1, 0, 0, 0, 0)), (68, (.getfield 54, 3, 4, 3, 0, 597, 0)), (71, (.if_icmp .ge 75, 3, 146, 0, 0, 0, 0)), (74, (.iload 8, 2, 8, 0, 0, 0, 0)), (76, (.iload_n 2, 1, 2, 0, 0, 0, 0)), (77, (.invokestatic 57, 3, 109, 34, 1, -3, 0)), (80, (.ifCond .eq 60, 3, 140, 0, 0, 0, 0)), (83, (.aload_n 0, 1, 0, 0, 0, 0, 0)), (84, (.getfield 21, 3, 0, 4, 1, 82, 0)), (87, (.iload 8, 2, 8, 0, 0, 0, 0)), (89, (.iaload, 1, 0, 0, 0, 0, 0)), (90, (.bipush (-4), 2, 0, 0, 0, (-4), 0)), (92, (.if_icmp .eq 6, 3, 98, 0, 0, 0, 0)), (95, (.goto 45, 3, 140, 0, 0, 0, 0))],
  [(98, (.aload_n 1, 1, 1, 0, 0, 0, 0)), (99, (.getfield 61, 3, 4, 15, 1, 598, 0)), (102, (.iload 8, 2, 8, 0, 0, 0, 0)), (104, (.iaload, 1, 0, 0, 0, 0, 0)), (105, (.iload 4, 2, 4, 0, 0, 0, 0)), (107, (.if_icmp .ne 15, 3, 122, 0, 0, 0, 0)), (110, (.aload_n 0, 1, 0, 0, 0, 0, 0)), (111, (.iload 8, 2, 8, 0, 0, 0, 0)), (113, (.invokevirtual 64, 3, 3, 50, 0, 607, 0)), (116, (.iconst 1, 1, 0, 0, 0, 1, 0)), (117, (.istore 7, 2, 7, 0, 0, 0, 0)), (119, (.goto 21, 3, 140, 0, 0, 0, 0)), (122, (.aload_n 0, 1, 0, 0, 0, 0, 0)), (123, (.aload_n 1, 1, 1, 0, 0, 0, 0)), (124, (.iload 8, 2, 8, 0, 0, 0, 0)), (126, (.iload_n 3, 1, 3, 0, 0, 0, 0)), (127, (.iload 4, 2, 4, 0, 0, 0, 0))],
  [(129, (.iload 5, 2, 5, 0, 0, 0, 0)), (131, (.invokevirtual 68, 3, 4, 198, 1, 611, 0)), (134, (.ifCond .eq 6, 3, 140, 0, 0, 0, 0)), (137, (.iconst 1, 1, 0, 0, 0, 1, 0)), (138, (.istore 7, 2, 7, 0, 0, 0, 0)), (140, (.iinc 8 1, 3, 8, 0, 0, 1, 0)), (143, (.goto (-78), 3, 65, 0, 0, 0, 0)), (146, (.aload_n 0, 1, 0, 0, 0, 0, 0)), (147, (.dup, 1, 0, 0, 0, 0, 0)), (148, (.getfield 27, 3, 0, 0, 0, 422, 0)), (151, (.iconst 1, 1, 0, 0, 0, 1, 0)), (152, (.iadd, 1, 0, 0, 0, 0, 0)), (153, (.putfield 27, 3, 0, 0, 0, 422, 0)), (156, (.iload 7, 2, 7, 0, 0, 0, 0)), (158, (.ireturn, 1, 0, 0, 1, 0, 0))]]
def tX0_frighten : List (List (Nat × E_)) := [[(0, (.aload_n 0, 1, 0, 0, 0, 0, 0)), (1, (.getfield 21, 3, 0, 4, 1, 82, 0)), (4, (.iload_n 1, 1, 1, 0, 0, 0, 0)), (5, (.aload_n 0, 1, 0, 0, 0, 0, 0)), (6, (.getfield 27, 3, 0, 0, 0, 422, 0)), (9, (.iastore, 1, 0, 0, 0, 0, 0)), (10, (.iconst 0, 1, 0, 0, 0, 0, 0)), (11, (.istore_n 2, 1, 2, 0, 0, 0, 0)), (12, (.iload_n 2, 1, 2, 0, 0, 0, 0)), (13, (.iconst 4, 1, 0, 0, 0, 4, 0)), (14, (.if_icmp .ge 32, 3, 46, 0, 0, 0, 0)), (17, (.aload_n 0, 1, 0, 0, 0, 0, 0)), (18, (.getfield 9, 3, 0, 1, 1, 79, 0)), (21, (.iload_n 1, 1, 1, 0, 0, 0, 0)), (22, (.iconst 4, 1, 0, 0, 0, 4, 0)), (23, (.imul, 1, 0, 0, 0, 0, 0)), (24, (.iload_n 2, 1, 2, 0, 0, 0, 0)), (25, (.iadd, 1, 0, 0, 0, 0, 0)), (26, (.bipush (-4), 2, 0, 0, 0, (-4), 0)), (28, (.iastore, 1, 0, 0, 0, 0, 0)), (29, (.aload_n 0, 1, 0, 0, 0, 0, 0)), (30, (.getfield 15, 3, 0, 2, 1, 80, 0))],
  [(33, (.iload_n 1, 1, 1, 0, 0, 0, 0)), (34, (.iconst 4, 1, 0, 0, 0, 4, 0)), (35, (.imul, 1, 0, 0, 0, 0, 0)), (36, (.iload_n 2, 1, 2, 0, 0, 0, 0)), (37, (.iadd, 1, 0, 0, 0, 0, 0)), (38, (.iconst 0, 1, 0, 0, 0, 0, 0)), (39, (.iastore, 1, 0, 0, 0, 0, 0)), (40, (.iinc 2 1, 3, 2, 0, 0, 1, 0)), (43, (.goto (-31), 3, 12, 0, 0, 0, 0)), (46, (.return_, 1, 0, 0, 0, 0, 0))]]
def tX0_look : List (List (Nat × E_)) := [[(0, (.iload_n 2, 1, 2, 0, 0, 0, 0)), (1, (.iconst 4, 1, 0, 0, 0, 4, 0)), (2, (.imul, 1, 0, 0, 0, 0, 0)), (3, (.iload_n 3, 1, 3, 0, 0, 0, 0)), (4, (.iadd, 1, 0, 0, 0, 0, 0)), (5, (.istore 6, 2, 6, 0, 0, 0, 0)), (7, (.aload_n 0, 1, 0, 0, 0, 0, 0)), (8, (.getfield 9, 3, 0, 1, 1, 79, 0)), (11, (.iload 6, 2, 6, 0, 0, 0, 0)), (13, (.iaload, 1, 0, 0, 0, 0, 0)), (14, (.istore 7, 2, 7, 0, 0, 0, 0)), (16, (.aload_n 0, 1, 0, 0, 0, 0, 0)), (17, (.getfield 15, 3, 0, 2, 1, 80, 0)), (20, (.iload 6, 2, 6, 0, 0, 0, 0)), (22, (.iaload, 1, 0, 0, 0, 0, 0)), (23, (.istore 8, 2, 8, 0, 0, 0, 0)), (25, (.aload_n 0, 1, 0, 0, 0, 0, 0)), (26, (.getfield 18, 3, 0, 3, 1, 81, 0)), (29, (.iload_n 2, 1, 2, 0, 0, 0, 0)), (30, (.iaload, 1, 0, 0, 0, 0, 0)), (31, (.istore 9, 2, 9, 0, 0, 0, 0))],
  [(33, (.aload_n 0, 1, 0, 0, 0, 0, 0)), (34, (.aload_n 1, 1, 1, 0, 0, 0, 0)), (35, (.iload_n 2, 1, 2, 0, 0, 0, 0)), (36, (.iload_n 3, 1, 3, 0, 0, 0, 0)), (37, (.invokevirtual 72, 3, 6, 116, 1, 617, 0)), (40, (.istore 10, 2, 10, 0, 0, 0, 0)), (42, (.aload_n 1, 1, 1, 0, 0, 0, 0)), (43, (.iload 10, 2, 10, 0, 0, 0, 0)), (45, (.invokevirtual 76, 3, 51, 4146, 1, 628, 0)), (48, (.istore 11, 2, 11, 0, 0, 0, 0)), (50, (.aload_n 1, 1, 1, 0, 0, 0, 0)), (51, (.getfield 80, 3, 4, 13, 1, 615, 0)), (54, (.iload_n 2, 1, 2, 0, 0, 0, 0)), (55, (.iaload, 1, 0, 0, 0, 0, 0)), (56, (.tableswitch 131 1 3 #[28, 63, 102], 28, 0, 0, 0, 0, 0))],
  [(84, (.aload_n 0, 1, 0, 0, 0, 0, 0)), (85, (.getfield 9, 3, 0, 1, 1, 79, 0)), (88, (.iload 6, 2, 6, 0, 0, 0, 0)), (90, (.aload_n 0, 1, 0, 0, 0, 0, 0)), (91, (.getfield 18, 3, 0, 3, 1, 81, 0)), (94, (.iload_n 2, 1, 2, 0, 0, 0, 0)), (95, (.iaload, 1, 0, 0, 0, 0, 0))],
  [(96, (.iload 10, 2, 10, 0, 0, 0, 0)), (98, (.invokestatic 57, 3, 109, 34, 1, -3, 0)), (101, (.ifCond .eq 12, 3, 113, 0, 0, 0, 0)), (104, (.aload_n 0, 1, 0, 0, 0, 0, 0)), (105, (.getfield 18, 3, 0, 3, 1, 81, 0)), (108, (.iload_n 2, 1, 2, 0, 0, 0, 0)), (109, (.iaload, 1, 0, 0, 0, 0, 0)), (110, (.goto 5, 3, 115, 0, 0, 0, 0)), (113, (.iload 11, 2, 11, 0, 0, 0, 0)), (115, (.iastore, 1, 0, 0, 0, 0, 0)), (116, (.goto 80, 3, 196, 0, 0, 0, 0)), (119, (.aload_n 0, 1, 0, 0, 0, 0, 0)), (120, (.getfield 9, 3, 0, 1, 1, 79, 0)), (123, (.iload 6, 2, 6, 0, 0, 0, 0)), (125, (.iload 11, 2, 11, 0, 0, 0, 0)), (127, (.bipush (-4), 2, 0, 0, 0, (-4), 0))],
  [(129, (.if_icmp .eq 23, 3, 152, 0, 0, 0, 0)), (132, (.iload 10, 2, 10, 0, 0, 0, 0)), (134, (.aload_n 1, 1, 1, 0, 0, 0, 0)), (135, (.getfield 83, 3, 4, 10, 1, 616, 0)), (138, (.iload 11, 2, 11, 0, 0, 0, 0)), (140, (.iaload, 1, 0, 0, 0, 0, 0)), (141, (.iconst (-1), 1, 0, 0, 0, (-1), 0)), (142, (.ixor, 1, 0, 0, 0, 0, 0)), (143, (.iand, 1, 0, 0, 0, 0, 0)), (144, (.ifCond .ne 8, 3, 152, 0, 0, 0, 0)), (147, (.iload 11, 2, 11, 0, 0, 0, 0)), (149, (.goto 5, 3, 154, 0, 0, 0, 0)), (152, (.bipush (-4), 2, 0, 0, 0, (-4), 0)), (154, (.iastore, 1, 0, 0, 0, 0, 0)), (155, (.goto 41, 3, 196, 0, 0, 0, 0)), (158, (.aload_n 0, 1, 0, 0, 0, 0, 0)), (159, (.iload 6, 2, 6, 0, 0, 0, 0))],
  [(161, (.iload 11, 2, 11, 0, 0, 0, 0)), (163, (.aload_n 0, 1, 0, 0, 0, 0, 0)), (164, (.getfield 9, 3, 0, 1, 1, 79, 0)), (167, (.iload 6, 2, 6, 0, 0, 0, 0)), (169, (.iaload, 1, 0, 0, 0, 0, 0)), (170, (.aload_n 1, 1, 1, 0, 0, 0, 0)), (171, (.iload 4, 2, 4, 0, 0, 0, 0)), (173, (.iload 5, 2, 5, 0, 0, 0, 0)), (175, (.invokevirtual 50, 3, 52, 4147, 1, 601, 0)), (178, (.invokestatic 57, 3, 109, 34, 1, -3, 0)), (181, (.invokevirtual 86, 3, 5, 84, 0, 632, 0)), (184, (.goto 12, 3, 196, 0, 0, 0, 0)), (187, (.aload_n 0, 1, 0, 0, 0, 0, 0)), (188, (.getfield 9, 3, 0, 1, 1, 79, 0)), (191, (.iload 6, 2, 6, 0, 0, 0, 0))],
  [(193, (.iload 11, 2, 11, 0, 0, 0, 0)), (195, (.iastore, 1, 0, 0, 0, 0, 0)), (196, (.aload_n 0, 1, 0, 0, 0, 0, 0)), (197, (.getfield 9, 3, 0, 1, 1, 79, 0)), (200, (.iload 6, 2, 6, 0, 0, 0, 0)), (202, (.iaload, 1, 0, 0, 0, 0, 0)), (203, (.bipush (-4), 2, 0, 0, 0, (-4), 0)), (205, (.if_icmp .eq 16, 3, 221, 0, 0, 0, 0)), (208, (.aload_n 0, 1, 0, 0, 0, 0, 0)), (209, (.getfield 18, 3, 0, 3, 1, 81, 0)), (212, (.iload_n 2, 1, 2, 0, 0, 0, 0)), (213, (.aload_n 0, 1, 0, 0, 0, 0, 0)), (214, (.getfield 9, 3, 0, 1, 1, 79, 0)), (217, (.iload 6, 2, 6, 0, 0, 0, 0)), (219, (.iaload, 1, 0, 0, 0, 0, 0)), (220, (.iastore, 1, 0, 0, 0, 0, 0)), (221, (.aload_n 0, 1, 0, 0, 0, 0, 0)), (222, (.getfield 9, 3, 0, 1, 1, 79, 0))],
  [(225, (.iload 6, 2, 6, 0, 0, 0, 0)), (227, (.iaload, 1, 0, 0, 0, 0, 0)), (228, (.iload 7, 2, 7, 0, 0, 0, 0)), (230, (.if_icmp .ne 26, 3, 256, 0, 0, 0, 0)), (233, (.aload_n 0, 1, 0, 0, 0, 0, 0)), (234, (.getfield 15, 3, 0, 2, 1, 80, 0)), (237, (.iload 6, 2, 6, 0, 0, 0, 0)), (239, (.iaload, 1, 0, 0, 0, 0, 0)), (240, (.iload 8, 2, 8, 0, 0, 0, 0)), (242, (.if_icmp .ne 14, 3, 256, 0, 0, 0, 0)), (245, (.aload_n 0, 1, 0, 0, 0, 0, 0)), (246, (.getfield 18, 3, 0, 3, 1, 81, 0)), (249, (.iload_n 2, 1, 2, 0, 0, 0, 0)), (250, (.iaload, 1, 0, 0, 0, 0, 0)), (251, (.iload 9, 2, 9, 0, 0, 0, 0)), (253, (.if_icmp .eq 7, 3, 260, 0, 0, 0, 0))],
  [(256, (.iconst 1, 1, 0, 0, 0, 1, 0)), (257, (.goto 4, 3, 261, 0, 0, 0, 0)), (260, (.iconst 0, 1, 0, 0, 0, 0, 0)), (261, (.ireturn, 1, 0, 0, 1, 0, 0))]]
def tX0_holdOrTurn : List (List (Nat × E_)) := [[(0, (.aload_n 0, 1, 0, 0, 0, 0, 0)), (1, (.getfield 9, 3, 0, 1, 1, 79, 0)), (4, (.iload_n 1, 1, 1, 0, 0, 0, 0)), (5, (.iaload, 1, 0, 0, 0, 0, 0)), (6, (.bipush (-4), 2, 0, 0, 0, (-4), 0)), (8, (.if_icmp .eq 7, 3, 15, 0, 0, 0, 0)), (11, (.iconst 1, 1, 0, 0, 0, 1, 0)), (12, (.goto 4, 3, 16, 0, 0, 0, 0)), (15, (.iconst 0, 1, 0, 0, 0, 0, 0)), (16, (.istore 4, 2, 4, 0, 0, 0, 0)), (18, (.iload 4, 2, 4, 0, 0, 0, 0)), (20, (.ifCond .eq 17, 3, 37, 0, 0, 0, 0)), (23, (.iload_n 3, 1, 3, 0, 0, 0, 0)), (24, (.ifCond .ne 13, 3, 37, 0, 0, 0, 0)), (27, (.aload_n 0, 1, 0, 0, 0, 0, 0)), (28, (.getfield 15, 3, 0, 2, 1, 80, 0)), (31, (.iload_n 1, 1, 1, 0, 0, 0, 0))],
  [(32, (.dup2, 1, 0, 0, 0, 0, 0)), (33, (.iaload, 1, 0, 0, 0, 0, 0)), (34, (.iconst 1, 1, 0, 0, 0, 1, 0)), (35, (.iadd, 1, 0, 0, 0, 0, 0)), (36, (.iastore, 1, 0, 0, 0, 0, 0)), (37, (.iload 4, 2, 4, 0, 0, 0, 0)), (39, (.ifCond .eq 13, 3, 52, 0, 0, 0, 0)), (42, (.aload_n 0, 1, 0, 0, 0, 0, 0)), (43, (.getfield 15, 3, 0, 2, 1, 80, 0)), (46, (.iload_n 1, 1, 1, 0, 0, 0, 0)), (47, (.iaload, 1, 0, 0, 0, 0, 0)), (48, (.iconst 2, 1, 0, 0, 0, 2, 0)), (49, (.if_icmp .lt 17, 3, 66, 0, 0, 0, 0)), (52, (.aload_n 0, 1, 0, 0, 0, 0, 0)), (53, (.getfield 9, 3, 0, 1, 1, 79, 0)), (56, (.iload_n 1, 1, 1, 0, 0, 0, 0)), (57, (.iload_n 2, 1, 2, 0, 0, 0, 0)), (58, (.iastore, 1, 0, 0, 0, 0, 0)), (59, (.aload_n 0, 1, 0, 0, 0, 0, 0)), (60, (.getfield 15, 3, 0, 2, 1, 80, 0)), (63, (.iload_n 1, 1, 1, 0, 0, 0, 0))],
  [(64, (.iconst 0, 1, 0, 0, 0, 0, 0)), (65, (.iastore, 1, 0, 0, 0, 0, 0)), (66, (.return_, 1, 0, 0, 0, 0, 0))]]
def tX0_choices : List (List (Nat × E_)) := [[(0, (.aload_n 0, 1, 0, 0, 0, 0, 0)), (1, (.getfield 24, 3, 0, 5, 1, 83, 0)), (4, (.iload_n 3, 1, 3, 0, 0, 0, 0)), (5, (.iaload, 1, 0, 0, 0, 0, 0)), (6, (.aload_n 1, 1, 1, 0, 0, 0, 0)), (7, (.getfield 90, 3, 4, 18, 1, 621, 0)), (10, (.iload_n 2, 1, 2, 0, 0, 0, 0)), (11, (.iaload, 1, 0, 0, 0, 0, 0)), (12, (.iand, 1, 0, 0, 0, 0, 0)), (13, (.istore 4, 2, 4, 0, 0, 0, 0)), (15, (.iconst 0, 1, 0, 0, 0, 0, 0)), (16, (.istore 5, 2, 5, 0, 0, 0, 0)), (18, (.iload 5, 2, 5, 0, 0, 0, 0)), (20, (.aload_n 1, 1, 1, 0, 0, 0, 0)), (21, (.getfield 93, 3, 4, 2, 0, 622, 0)), (24, (.if_icmp .ge 51, 3, 75, 0, 0, 0, 0)), (27, (.aload_n 1, 1, 1, 0, 0, 0, 0)), (28, (.getfield 96, 3, 4, 16, 1, 623, 0)), (31, (.iload_n 2, 1, 2, 0, 0, 0, 0))],
  [(32, (.baload, 1, 0, 0, 0, 0, 0)), (33, (.ifCond .eq 42, 3, 75, 0, 0, 0, 0)), (36, (.aload_n 0, 1, 0, 0, 0, 0, 0)), (37, (.iload_n 2, 1, 2, 0, 0, 0, 0)), (38, (.iload 5, 2, 5, 0, 0, 0, 0)), (40, (.invokevirtual 100, 3, 7, 67, 1, 624, 0)), (43, (.istore 6, 2, 6, 0, 0, 0, 0)), (45, (.iload 5, 2, 5, 0, 0, 0, 0)), (47, (.iload_n 3, 1, 3, 0, 0, 0, 0)), (48, (.if_icmp .eq 21, 3, 69, 0, 0, 0, 0)), (51, (.iload 6, 2, 6, 0, 0, 0, 0)), (53, (.bipush (-4), 2, 0, 0, 0, (-4), 0)), (55, (.if_icmp .eq 14, 3, 69, 0, 0, 0, 0)), (58, (.iload 4, 2, 4, 0, 0, 0, 0)), (60, (.iconst 1, 1, 0, 0, 0, 1, 0)), (61, (.iload 6, 2, 6, 0, 0, 0, 0)), (63, (.ishl, 1, 0, 0, 0, 0, 0))],
  [(64, (.iconst (-1), 1, 0, 0, 0, (-1), 0)), (65, (.ixor, 1, 0, 0, 0, 0, 0)), (66, (.iand, 1, 0, 0, 0, 0, 0)), (67, (.istore 4, 2, 4, 0, 0, 0, 0)), (69, (.iinc 5 1, 3, 5, 0, 0, 1, 0)), (72, (.goto (-54), 3, 18, 0, 0, 0, 0)), (75, (.iload 4, 2, 4, 0, 0, 0, 0)), (77, (.ireturn, 1, 0, 0, 0, 0, 0))]]
def tX0_thoughtOf : List (List (Nat × E_)) := [[(0, (.iload_n 1, 1, 1, 0, 0, 0, 0)), (1, (.iconst 4, 1, 0, 0, 0, 4, 0)), (2, (.imul, 1, 0, 0, 0, 0, 0)), (3, (.iload_n 2, 1, 2, 0, 0, 0, 0)), (4, (.iadd, 1, 0, 0, 0, 0, 0)), (5, (.istore_n 3, 1, 3, 0, 0, 0, 0)), (6, (.iload_n 3, 1, 3, 0, 0, 0, 0)), (7, (.ifCond .lt 18, 3, 25, 0, 0, 0, 0)), (10, (.iload_n 3, 1, 3, 0, 0, 0, 0)), (11, (.bipush 24, 2, 0, 0, 0, 24, 0)), (13, (.if_icmp .ge 12, 3, 25, 0, 0, 0, 0)), (16, (.aload_n 0, 1, 0, 0, 0, 0, 0)), (17, (.getfield 9, 3, 0, 1, 1, 79, 0)), (20, (.iload_n 3, 1, 3, 0, 0, 0, 0)), (21, (.iaload, 1, 0, 0, 0, 0, 0)), (22, (.goto 5, 3, 27, 0, 0, 0, 0)), (25, (.bipush (-4), 2, 0, 0, 0, (-4), 0)), (27, (.ireturn, 1, 0, 0, 0, 0, 0))]]
def tX0_isSame : List (List (Nat × E_)) := [[(0, (.aload_n 0, 1, 0, 0, 0, 0, 0)), (1, (.iload_n 2, 1, 2, 0, 0, 0, 0)), (2, (.iload_n 3, 1, 3, 0, 0, 0, 0)), (3, (.invokevirtual 100, 3, 7, 67, 1, 624, 0)), (6, (.aload_n 1, 1, 1, 0, 0, 0, 0)), (7, (.iload_n 3, 1, 3, 0, 0, 0, 0)), (8, (.invokevirtual 104, 3, 54, 4130, 1, 727, 0)), (11, (.invokestatic 57, 3, 109, 34, 1, -3, 0)), (14, (.ireturn, 1, 0, 0, 1, 0, 0))]]
def tX0_isSameForAll : List (List (Nat × E_)) := [[(0, (.iconst 0, 1, 0, 0, 0, 0, 0)), (1, (.istore 4, 2, 4, 0, 0, 0, 0)), (3, (.iload 4, 2, 4, 0, 0, 0, 0)), (5, (.aload_n 1, 1, 1, 0, 0, 0, 0)), (6, (.getfield 54, 3, 4, 3, 0, 597, 0)), (9, (.if_icmp .ge 31, 3, 40, 0, 0, 0, 0)), (12, (.iload 4, 2, 4, 0, 0, 0, 0)), (14, (.iload_n 2, 1, 2, 0, 0, 0, 0)), (15, (.invokestatic 57, 3, 109, 34, 1, -3, 0)), (18, (.ifCond .eq 16, 3, 34, 0, 0, 0, 0)), (21, (.aload_n 0, 1, 0, 0, 0, 0, 0)), (22, (.aload_n 1, 1, 1, 0, 0, 0, 0)), (23, (.iload 4, 2, 4, 0, 0, 0, 0)), (25, (.iload_n 3, 1, 3, 0, 0, 0, 0)), (26, (.invokevirtual 107, 3, 8, 68, 1, 770, 0)), (29, (.ifCond .ne 5, 3, 34, 0, 0, 0, 0))],
  [(32, (.iconst 0, 1, 0, 0, 0, 0, 0)), (33, (.ireturn, 1, 0, 0, 1, 0, 0)), (34, (.iinc 4 1, 3, 4, 0, 0, 1, 0)), (37, (.goto (-34), 3, 3, 0, 0, 0, 0)), (40, (.iconst 1, 1, 0, 0, 0, 1, 0)), (41, (.ireturn, 1, 0, 0, 1, 0, 0))]]
def tX0_chanceOfSame : List (List (Nat × E_)) := [[(0, (.iconst 0, 1, 0, 0, 0, 0, 0)), (1, (.istore_n 3, 1, 3, 0, 0, 0, 0)), (2, (.iconst 0, 1, 0, 0, 0, 0, 0)), (3, (.istore 4, 2, 4, 0, 0, 0, 0)), (5, (.iload 4, 2, 4, 0, 0, 0, 0)), (7, (.aload_n 1, 1, 1, 0, 0, 0, 0)), (8, (.getfield 54, 3, 4, 3, 0, 597, 0)), (11, (.if_icmp .ge 30, 3, 41, 0, 0, 0, 0)), (14, (.aload_n 0, 1, 0, 0, 0, 0, 0)), (15, (.aload_n 1, 1, 1, 0, 0, 0, 0)), (16, (.iload 4, 2, 4, 0, 0, 0, 0)), (18, (.iload_n 2, 1, 2, 0, 0, 0, 0)), (19, (.invokevirtual 107, 3, 8, 68, 1, 770, 0)), (22, (.ifCond .eq 13, 3, 35, 0, 0, 0, 0)), (25, (.iload_n 3, 1, 3, 0, 0, 0, 0)), (26, (.aload_n 1, 1, 1, 0, 0, 0, 0)), (27, (.getfield 111, 3, 4, 17, 1, 914, 0)), (30, (.iload 4, 2, 4, 0, 0, 0, 0))],
  [(32, (.iaload, 1, 0, 0, 0, 0, 0)), (33, (.iadd, 1, 0, 0, 0, 0, 0)), (34, (.istore_n 3, 1, 3, 0, 0, 0, 0)), (35, (.iinc 4 1, 3, 4, 0, 0, 1, 0)), (38, (.goto (-33), 3, 5, 0, 0, 0, 0)), (41, (.iload_n 3, 1, 3, 0, 0, 0, 0)), (42, (.ireturn, 1, 0, 0, 0, 0, 0))]]
def tX0_answerOf : List (List (Nat × E_)) := [[(0, (.aload_n 0, 1, 0, 0, 0, 0, 0)), (1, (.iload_n 2, 1, 2, 0, 0, 0, 0)), (2, (.iload_n 3, 1, 3, 0, 0, 0, 0)), (3, (.invokevirtual 100, 3, 7, 67, 1, 624, 0)), (6, (.istore 5, 2, 5, 0, 0, 0, 0)), (8, (.aload_n 1, 1, 1, 0, 0, 0, 0)), (9, (.iload 5, 2, 5, 0, 0, 0, 0)), (11, (.invokevirtual 114, 3, 44, 4130, 1, 962, 0)), (14, (.ifCond .ne 6, 3, 20, 0, 0, 0, 0)), (17, (.bipush (-4), 2, 0, 0, 0, (-4), 0)), (19, (.ireturn, 1, 0, 0, 0, 0, 0)), (20, (.iload 4, 2, 4, 0, 0, 0, 0)), (22, (.aload_n 1, 1, 1, 0, 0, 0, 0)), (23, (.getfield 117, 3, 4, 9, 1, 961, 0)), (26, (.iload 5, 2, 5, 0, 0, 0, 0)), (28, (.iaload, 1, 0, 0, 0, 0, 0)), (29, (.invokestatic 57, 3, 109, 34, 1, -3, 0))],
  [(32, (.ifCond .eq 7, 3, 39, 0, 0, 0, 0)), (35, (.iconst 1, 1, 0, 0, 0, 1, 0)), (36, (.goto 4, 3, 40, 0, 0, 0, 0)), (39, (.iconst 0, 1, 0, 0, 0, 0, 0)), (40, (.ireturn, 1, 0, 0, 0, 0, 0))]]
def tX0_kindsThatAnswer : List (List (Nat × E_)) := [[(0, (.iconst 0, 1, 0, 0, 0, 0, 0)), (1, (.istore 5, 2, 5, 0, 0, 0, 0)), (3, (.iconst 0, 1, 0, 0, 0, 0, 0)), (4, (.istore 6, 2, 6, 0, 0, 0, 0)), (6, (.iload 6, 2, 6, 0, 0, 0, 0)), (8, (.aload_n 1, 1, 1, 0, 0, 0, 0)), (9, (.getfield 54, 3, 4, 3, 0, 597, 0)), (12, (.if_icmp .ge 32, 3, 44, 0, 0, 0, 0)), (15, (.aload_n 0, 1, 0, 0, 0, 0, 0)), (16, (.aload_n 1, 1, 1, 0, 0, 0, 0)), (17, (.iload 6, 2, 6, 0, 0, 0, 0)), (19, (.iload_n 2, 1, 2, 0, 0, 0, 0)), (20, (.iload_n 3, 1, 3, 0, 0, 0, 0)), (21, (.invokevirtual 120, 3, 11, 101, 1, 979, 0)), (24, (.iload 4, 2, 4, 0, 0, 0, 0)), (26, (.if_icmp .ne 12, 3, 38, 0, 0, 0, 0)), (29, (.iload 5, 2, 5, 0, 0, 0, 0)), (31, (.iconst 1, 1, 0, 0, 0, 1, 0))],
  [(32, (.iload 6, 2, 6, 0, 0, 0, 0)), (34, (.ishl, 1, 0, 0, 0, 0, 0)), (35, (.ior, 1, 0, 0, 0, 0, 0)), (36, (.istore 5, 2, 5, 0, 0, 0, 0)), (38, (.iinc 6 1, 3, 6, 0, 0, 1, 0)), (41, (.goto (-35), 3, 6, 0, 0, 0, 0)), (44, (.iload 5, 2, 5, 0, 0, 0, 0)), (46, (.ireturn, 1, 0, 0, 0, 0, 0))]]
def tX1_empty : List (List (Nat × E_)) := [[(0, (.aload_n 0, 1, 0, 0, 0, 0, 0)), (1, (.iconst 0, 1, 0, 0, 0, 0, 0)), (2, (.putfield 28, 3, 1, 0, 0, 411, 0)), (5, (.aload_n 0, 1, 0, 0, 0, 0, 0)), (6, (.iconst 0, 1, 0, 0, 0, 0, 0)), (7, (.putfield 32, 3, 1, 5, 0, 412, 0)), (10, (.aload_n 0, 1, 0, 0, 0, 0, 0)), (11, (.aload_n 1, 1, 1, 0, 0, 0, 0)), (12, (.invokevirtual 35, 3, 50, 4113, 1, 414, 0)), (15, (.putfield 41, 3, 1, 4, 0, 413, 0)), (18, (.return_, 1, 0, 0, 0, 0, 0))]]
def tX1_become : List (List (Nat × E_)) := [[(0, (.aload_n 0, 1, 0, 0, 0, 0, 0)), (1, (.aload_n 1, 1, 1, 0, 0, 0, 0)), (2, (.getfield 28, 3, 1, 0, 0, 411, 0)), (5, (.putfield 28, 3, 1, 0, 0, 411, 0)), (8, (.aload_n 0, 1, 0, 0, 0, 0, 0)), (9, (.aload_n 1, 1, 1, 0, 0, 0, 0)), (10, (.getfield 41, 3, 1, 4, 0, 413, 0)), (13, (.putfield 41, 3, 1, 4, 0, 413, 0)), (16, (.aload_n 0, 1, 0, 0, 0, 0, 0)), (17, (.aload_n 1, 1, 1, 0, 0, 0, 0)), (18, (.getfield 32, 3, 1, 5, 0, 412, 0)), (21, (.putfield 32, 3, 1, 5, 0, 412, 0)), (24, (.aload_n 1, 1, 1, 0, 0, 0, 0)), (25, (.getfield 9, 3, 1, 1, 1, 70, 0)), (28, (.iconst 0, 1, 0, 0, 0, 0, 0)), (29, (.aload_n 0, 1, 0, 0, 0, 0, 0)), (30, (.getfield 9, 3, 1, 1, 1, 70, 0))],
  [(33, (.iconst 0, 1, 0, 0, 0, 0, 0)), (34, (.bipush 24, 2, 0, 0, 0, 24, 0)), (36, (.invokestatic 44, 3, 1000, 261, 0, 1116, 0)), (39, (.aload_n 1, 1, 1, 0, 0, 0, 0)), (40, (.getfield 15, 3, 1, 2, 1, 71, 0)), (43, (.iconst 0, 1, 0, 0, 0, 0, 0)), (44, (.aload_n 0, 1, 0, 0, 0, 0, 0)), (45, (.getfield 15, 3, 1, 2, 1, 71, 0)), (48, (.iconst 0, 1, 0, 0, 0, 0, 0)), (49, (.bipush 24, 2, 0, 0, 0, 24, 0)), (51, (.invokestatic 44, 3, 1000, 261, 0, 1116, 0)), (54, (.aload_n 1, 1, 1, 0, 0, 0, 0)), (55, (.getfield 18, 3, 1, 3, 1, 72, 0)), (58, (.iconst 0, 1, 0, 0, 0, 0, 0)), (59, (.aload_n 0, 1, 0, 0, 0, 0, 0)), (60, (.getfield 18, 3, 1, 3, 1, 72, 0)), (63, (.iconst 0, 1, 0, 0, 0, 0, 0))],
  [(64, (.bipush 24, 2, 0, 0, 0, 24, 0)), (66, (.invokestatic 44, 3, 1000, 261, 0, 1116, 0)), (69, (.aload_n 1, 1, 1, 0, 0, 0, 0)), (70, (.getfield 22, 3, 1, 6, 1, 73, 0)), (73, (.iconst 0, 1, 0, 0, 0, 0, 0)), (74, (.aload_n 0, 1, 0, 0, 0, 0, 0)), (75, (.getfield 22, 3, 1, 6, 1, 73, 0)), (78, (.iconst 0, 1, 0, 0, 0, 0, 0)), (79, (.bipush 12, 2, 0, 0, 0, 12, 0)), (81, (.invokestatic 44, 3, 1000, 261, 0, 1116, 0)), (84, (.aload_n 1, 1, 1, 0, 0, 0, 0)), (85, (.getfield 25, 3, 1, 7, 1, 74, 0)), (88, (.iconst 0, 1, 0, 0, 0, 0, 0)), (89, (.aload_n 0, 1, 0, 0, 0, 0, 0)), (90, (.getfield 25, 3, 1, 7, 1, 74, 0)), (93, (.iconst 0, 1, 0, 0, 0, 0, 0)), (94, (.bipush 12, 2, 0, 0, 0, 12, 0))],
  [(96, (.invokestatic 44, 3, 1000, 261, 0, 1116, 0)), (99, (.return_, 1, 0, 0, 0, 0, 0))]]
def tX2_renew : List (List (Nat × E_)) := [[(0, (.iload_n 1, 1, 1, 0, 0, 0, 0)), (1, (.ifCond .lt 18, 3, 19, 0, 0, 0, 0)), (4, (.iload_n 1, 1, 1, 0, 0, 0, 0)), (5, (.iconst 4, 1, 0, 0, 0, 4, 0)), (6, (.if_icmp .ge 13, 3, 19, 0, 0, 0, 0)), (9, (.iload_n 3, 1, 3, 0, 0, 0, 0)), (10, (.ifCond .lt 9, 3, 19, 0, 0, 0, 0)), (13, (.iload_n 3, 1, 3, 0, 0, 0, 0)), (14, (.bipush 40, 2, 0, 0, 0, 40, 0)), (16, (.if_icmp .le 4, 3, 20, 0, 0, 0, 0)), (19, (.return_, 1, 0, 0, 0, 0, 0)), (20, (.aload_n 0, 1, 0, 0, 0, 0, 0)), (21, (.getfield 15, 3, 2, 1, 1, 100, 0)), (24, (.iload_n 1, 1, 1, 0, 0, 0, 0)), (25, (.iload_n 2, 1, 2, 0, 0, 0, 0)), (26, (.iastore, 1, 0, 0, 0, 0, 0)), (27, (.aload_n 0, 1, 0, 0, 0, 0, 0)), (28, (.getfield 9, 3, 2, 0, 1, 99, 0)), (31, (.iload_n 1, 1, 1, 0, 0, 0, 0))],
  [(32, (.iload_n 3, 1, 3, 0, 0, 0, 0)), (33, (.iastore, 1, 0, 0, 0, 0, 0)), (34, (.iconst 0, 1, 0, 0, 0, 0, 0)), (35, (.istore 4, 2, 4, 0, 0, 0, 0)), (37, (.iload 4, 2, 4, 0, 0, 0, 0)), (39, (.bipush 40, 2, 0, 0, 0, 40, 0)), (41, (.if_icmp .ge 19, 3, 60, 0, 0, 0, 0)), (44, (.aload_n 0, 1, 0, 0, 0, 0, 0)), (45, (.getfield 20, 3, 2, 2, 1, 102, 0)), (48, (.iload_n 1, 1, 1, 0, 0, 0, 0)), (49, (.aaload, 1, 0, 0, 0, 0, 0)), (50, (.iload 4, 2, 4, 0, 0, 0, 0)), (52, (.iconst 0, 1, 0, 0, 0, 0, 0)), (53, (.iastore, 1, 0, 0, 0, 0, 0)), (54, (.iinc 4 1, 3, 4, 0, 0, 1, 0)), (57, (.goto (-20), 3, 37, 0, 0, 0, 0)), (60, (.return_, 1, 0, 0, 0, 0, 0))]]
def tX2_write : List (List (Nat × E_)) := [[(0, (.iload_n 1, 1, 1, 0, 0, 0, 0)), (1, (.ifCond .lt 19, 3, 20, 0, 0, 0, 0)), (4, (.iload_n 1, 1, 1, 0, 0, 0, 0)), (5, (.iconst 4, 1, 0, 0, 0, 4, 0)), (6, (.if_icmp .ge 14, 3, 20, 0, 0, 0, 0)), (9, (.aload_n 0, 1, 0, 0, 0, 0, 0)), (10, (.getfield 9, 3, 2, 0, 1, 99, 0)), (13, (.iload_n 1, 1, 1, 0, 0, 0, 0)), (14, (.iaload, 1, 0, 0, 0, 0, 0)), (15, (.bipush (-4), 2, 0, 0, 0, (-4), 0)), (17, (.if_icmp .ne 5, 3, 22, 0, 0, 0, 0)), (20, (.iconst 1, 1, 0, 0, 0, 1, 0)), (21, (.ireturn, 1, 0, 0, 0, 0, 0)), (22, (.iload_n 2, 1, 2, 0, 0, 0, 0)), (23, (.ifCond .lt 19, 3, 42, 0, 0, 0, 0)), (26, (.iload_n 2, 1, 2, 0, 0, 0, 0)), (27, (.aload_n 0, 1, 0, 0, 0, 0, 0)), (28, (.getfield 9, 3, 2, 0, 1, 99, 0)), (31, (.iload_n 1, 1, 1, 0, 0, 0, 0))],
  [(32, (.iaload, 1, 0, 0, 0, 0, 0)), (33, (.if_icmp .ge 9, 3, 42, 0, 0, 0, 0)), (36, (.iload_n 2, 1, 2, 0, 0, 0, 0)), (37, (.bipush 40, 2, 0, 0, 0, 40, 0)), (39, (.if_icmp .lt 5, 3, 44, 0, 0, 0, 0)), (42, (.iconst 2, 1, 0, 0, 0, 2, 0)), (43, (.ireturn, 1, 0, 0, 0, 0, 0)), (44, (.aload_n 0, 1, 0, 0, 0, 0, 0)), (45, (.getfield 20, 3, 2, 2, 1, 102, 0)), (48, (.iload_n 1, 1, 1, 0, 0, 0, 0)), (49, (.aaload, 1, 0, 0, 0, 0, 0)), (50, (.iload_n 2, 1, 2, 0, 0, 0, 0)), (51, (.aload_n 0, 1, 0, 0, 0, 0, 0)), (52, (.getfield 15, 3, 2, 1, 1, 100, 0)), (55, (.iload_n 1, 1, 1, 0, 0, 0, 0)), (56, (.iaload, 1, 0, 0, 0, 0, 0)), (57, (.ifCond .ne 8, 3, 65, 0, 0, 0, 0)), (60, (.iload_n 3, 1, 3, 0, 0, 0, 0)), (61, (.i2b, 1, 0, 0, 0, 0, 0)), (62, (.goto 19, 3, 81, 0, 0, 0, 0))],
  [(65, (.aload_n 0, 1, 0, 0, 0, 0, 0)), (66, (.getfield 15, 3, 2, 1, 1, 100, 0)), (69, (.iload_n 1, 1, 1, 0, 0, 0, 0)), (70, (.iaload, 1, 0, 0, 0, 0, 0)), (71, (.iconst 1, 1, 0, 0, 0, 1, 0)), (72, (.if_icmp .ne 8, 3, 80, 0, 0, 0, 0)), (75, (.iload_n 3, 1, 3, 0, 0, 0, 0)), (76, (.i2s, 1, 0, 0, 0, 0, 0)), (77, (.goto 4, 3, 81, 0, 0, 0, 0)), (80, (.iload_n 3, 1, 3, 0, 0, 0, 0)), (81, (.iastore, 1, 0, 0, 0, 0, 0)), (82, (.iconst 0, 1, 0, 0, 0, 0, 0)), (83, (.ireturn, 1, 0, 0, 0, 0, 0))]]
def tX2_refusal : List (List (Nat × E_)) := [[(0, (.iload_n 1, 1, 1, 0, 0, 0, 0)), (1, (.ifCond .lt 19, 3, 20, 0, 0, 0, 0)), (4, (.iload_n 1, 1, 1, 0, 0, 0, 0)), (5, (.iconst 4, 1, 0, 0, 0, 4, 0)), (6, (.if_icmp .ge 14, 3, 20, 0, 0, 0, 0)), (9, (.aload_n 0, 1, 0, 0, 0, 0, 0)), (10, (.getfield 9, 3, 2, 0, 1, 99, 0)), (13, (.iload_n 1, 1, 1, 0, 0, 0, 0)), (14, (.iaload, 1, 0, 0, 0, 0, 0)), (15, (.bipush (-4), 2, 0, 0, 0, (-4), 0)), (17, (.if_icmp .ne 5, 3, 22, 0, 0, 0, 0)), (20, (.iconst 1, 1, 0, 0, 0, 1, 0)), (21, (.ireturn, 1, 0, 0, 0, 0, 0)), (22, (.aload_n 0, 1, 0, 0, 0, 0, 0)), (23, (.getfield 15, 3, 2, 1, 1, 100, 0)), (26, (.iload_n 1, 1, 1, 0, 0, 0, 0)), (27, (.iaload, 1, 0, 0, 0, 0, 0)), (28, (.iload_n 2, 1, 2, 0, 0, 0, 0)), (29, (.if_icmp .ne 7, 3, 36, 0, 0, 0, 0))],
  [(32, (.iconst 0, 1, 0, 0, 0, 0, 0)), (33, (.goto 4, 3, 37, 0, 0, 0, 0)), (36, (.iconst 3, 1, 0, 0, 0, 3, 0)), (37, (.ireturn, 1, 0, 0, 0, 0, 0))]]
def tX2_wholeShowings : List (List (Nat × E_)) := [[(0, (.iload_n 1, 1, 1, 0, 0, 0, 0)), (1, (.ifCond .lt 22, 3, 23, 0, 0, 0, 0)), (4, (.iload_n 1, 1, 1, 0, 0, 0, 0)), (5, (.iconst 4, 1, 0, 0, 0, 4, 0)), (6, (.if_icmp .ge 17, 3, 23, 0, 0, 0, 0)), (9, (.iload_n 2, 1, 2, 0, 0, 0, 0)), (10, (.ifCond .lt 13, 3, 23, 0, 0, 0, 0)), (13, (.iload_n 2, 1, 2, 0, 0, 0, 0)), (14, (.aload_n 0, 1, 0, 0, 0, 0, 0)), (15, (.getfield 9, 3, 2, 0, 1, 99, 0)), (18, (.iload_n 1, 1, 1, 0, 0, 0, 0)), (19, (.iaload, 1, 0, 0, 0, 0, 0)), (20, (.if_icmp .le 5, 3, 25, 0, 0, 0, 0)), (23, (.iconst 0, 1, 0, 0, 0, 0, 0)), (24, (.ireturn, 1, 0, 0, 0, 0, 0)), (25, (.iload_n 3, 1, 3, 0, 0, 0, 0)), (26, (.aload_n 0, 1, 0, 0, 0, 0, 0)), (27, (.getfield 9, 3, 2, 0, 1, 99, 0)), (30, (.iload_n 1, 1, 1, 0, 0, 0, 0)), (31, (.iaload, 1, 0, 0, 0, 0, 0))],
  [(32, (.iload_n 2, 1, 2, 0, 0, 0, 0)), (33, (.isub, 1, 0, 0, 0, 0, 0)), (34, (.iconst 3, 1, 0, 0, 0, 3, 0)), (35, (.idiv, 1, 0, 0, 0, 0, 0)), (36, (.invokestatic 23, 3, 1002, 258, 1, 1169, 0)), (39, (.ireturn, 1, 0, 0, 0, 0, 0))]]
def tX2_cell : List (List (Nat × E_)) := [[(0, (.iload_n 1, 1, 1, 0, 0, 0, 0)), (1, (.ifCond .lt 29, 3, 30, 0, 0, 0, 0)), (4, (.iload_n 1, 1, 1, 0, 0, 0, 0)), (5, (.iconst 4, 1, 0, 0, 0, 4, 0)), (6, (.if_icmp .ge 24, 3, 30, 0, 0, 0, 0)), (9, (.iload_n 2, 1, 2, 0, 0, 0, 0)), (10, (.ifCond .lt 20, 3, 30, 0, 0, 0, 0)), (13, (.iload_n 2, 1, 2, 0, 0, 0, 0)), (14, (.bipush 40, 2, 0, 0, 0, 40, 0)), (16, (.if_icmp .ge 14, 3, 30, 0, 0, 0, 0)), (19, (.aload_n 0, 1, 0, 0, 0, 0, 0)), (20, (.getfield 20, 3, 2, 2, 1, 102, 0)), (23, (.iload_n 1, 1, 1, 0, 0, 0, 0)), (24, (.aaload, 1, 0, 0, 0, 0, 0)), (25, (.iload_n 2, 1, 2, 0, 0, 0, 0)), (26, (.iaload, 1, 0, 0, 0, 0, 0)), (27, (.goto 4, 3, 31, 0, 0, 0, 0)), (30, (.iconst 0, 1, 0, 0, 0, 0, 0)), (31, (.ireturn, 1, 0, 0, 0, 0, 0))]]
def tX3_put : List (List (Nat × E_)) := [[(0, (.aload_n 0, 1, 0, 0, 0, 0, 0)), (1, (.getfield 15, 3, 3, 1, 0, 220, 0)), (4, (.ifCond .lt 33, 3, 37, 0, 0, 0, 0)), (7, (.aload_n 0, 1, 0, 0, 0, 0, 0)), (8, (.getfield 15, 3, 3, 1, 0, 220, 0)), (11, (.sipush 400, 3, 0, 0, 0, 400, 0)), (14, (.if_icmp .ge 23, 3, 37, 0, 0, 0, 0)), (17, (.aload_n 0, 1, 0, 0, 0, 0, 0)), (18, (.getfield 9, 3, 3, 0, 1, 45, 0)), (21, (.aload_n 0, 1, 0, 0, 0, 0, 0)), (22, (.getfield 15, 3, 3, 1, 0, 220, 0)), (25, (.iload_n 1, 1, 1, 0, 0, 0, 0)), (26, (.iastore, 1, 0, 0, 0, 0, 0)), (27, (.aload_n 0, 1, 0, 0, 0, 0, 0)), (28, (.dup, 1, 0, 0, 0, 0, 0)), (29, (.getfield 15, 3, 3, 1, 0, 220, 0))],
  [(32, (.iconst 1, 1, 0, 0, 0, 1, 0)), (33, (.iadd, 1, 0, 0, 0, 0, 0)), (34, (.putfield 15, 3, 3, 1, 0, 220, 0)), (37, (.return_, 1, 0, 0, 0, 0, 0))]]
def tX3_readInto : List (List (Nat × E_)) := [[(0, (.aload_n 1, 1, 1, 0, 0, 0, 0)), (1, (.invokevirtual 19, 3, 36, 4113, 0, 251, 0)), (4, (.aload_n 0, 1, 0, 0, 0, 0, 0)), (5, (.iconst 0, 1, 0, 0, 0, 0, 0)), (6, (.putfield 24, 3, 3, 2, 0, 246, 0)), (9, (.aload_n 0, 1, 0, 0, 0, 0, 0)), (10, (.iconst 0, 1, 0, 0, 0, 0, 0)), (11, (.putfield 27, 3, 3, 3, 0, 247, 0)), (14, (.aload_n 0, 1, 0, 0, 0, 0, 0)), (15, (.iconst 0, 1, 0, 0, 0, 0, 0)), (16, (.putfield 30, 3, 3, 4, 0, 248, 0)), (19, (.aload_n 0, 1, 0, 0, 0, 0, 0)), (20, (.iconst 0, 1, 0, 0, 0, 0, 0)), (21, (.putfield 33, 3, 3, 5, 0, 249, 0)), (24, (.aload_n 0, 1, 0, 0, 0, 0, 0)), (25, (.invokevirtual 36, 3, 25, 3089, 0, 259, 0)), (28, (.iconst 0, 1, 0, 0, 0, 0, 0)), (29, (.istore_n 2, 1, 2, 0, 0, 0, 0)), (30, (.iload_n 2, 1, 2, 0, 0, 0, 0)), (31, (.sipush 400, 3, 0, 0, 0, 400, 0))],
  [(34, (.if_icmp .ge 38, 3, 72, 0, 0, 0, 0)), (37, (.aload_n 0, 1, 0, 0, 0, 0, 0)), (38, (.getfield 24, 3, 3, 2, 0, 246, 0)), (41, (.ifCond .ne 31, 3, 72, 0, 0, 0, 0)), (44, (.aload_n 0, 1, 0, 0, 0, 0, 0)), (45, (.getfield 39, 3, 3, 6, 0, 250, 0)), (48, (.ifCond .eq 24, 3, 72, 0, 0, 0, 0)), (51, (.aload_n 0, 1, 0, 0, 0, 0, 0)), (52, (.aload_n 1, 1, 1, 0, 0, 0, 0)), (53, (.invokevirtual 42, 3, 27, 3122, 0, 277, 0)), (56, (.aload_n 0, 1, 0, 0, 0, 0, 0)), (57, (.dup, 1, 0, 0, 0, 0, 0)), (58, (.getfield 30, 3, 3, 4, 0, 248, 0)), (61, (.iconst 1, 1, 0, 0, 0, 1, 0)), (62, (.iadd, 1, 0, 0, 0, 0, 0)), (63, (.putfield 30, 3, 3, 4, 0, 248, 0))],
  [(66, (.iinc 2 1, 3, 2, 0, 0, 1, 0)), (69, (.goto (-39), 3, 30, 0, 0, 0, 0)), (72, (.aload_n 0, 1, 0, 0, 0, 0, 0)), (73, (.getfield 24, 3, 3, 2, 0, 246, 0)), (76, (.ifCond .ne 7, 3, 83, 0, 0, 0, 0)), (79, (.aload_n 1, 1, 1, 0, 0, 0, 0)), (80, (.invokevirtual 46, 3, 41, 4145, 0, 399, 0)), (83, (.aload_n 0, 1, 0, 0, 0, 0, 0)), (84, (.getfield 24, 3, 3, 2, 0, 246, 0)), (87, (.ifCond .ne 7, 3, 94, 0, 0, 0, 0)), (90, (.iconst 1, 1, 0, 0, 0, 1, 0)), (91, (.goto 4, 3, 95, 0, 0, 0, 0)), (94, (.iconst 0, 1, 0, 0, 0, 0, 0)), (95, (.ireturn, 1, 0, 0, 1, 0, 0))]]
def tX3_blame : List (List (Nat × E_)) := [[(0, (.aload_n 0, 1, 0, 0, 0, 0, 0)), (1, (.iload_n 1, 1, 1, 0, 0, 0, 0)), (2, (.putfield 24, 3, 3, 2, 0, 246, 0)), (5, (.aload_n 0, 1, 0, 0, 0, 0, 0)), (6, (.aload_n 0, 1, 0, 0, 0, 0, 0)), (7, (.getfield 49, 3, 3, 7, 0, 263, 0)), (10, (.putfield 27, 3, 3, 3, 0, 247, 0)), (13, (.return_, 1, 0, 0, 0, 0, 0))]]
def tX3_byteAt : List (List (Nat × E_)) := [[(0, (.iload_n 1, 1, 1, 0, 0, 0, 0)), (1, (.ifCond .lt 27, 3, 28, 0, 0, 0, 0)), (4, (.iload_n 1, 1, 1, 0, 0, 0, 0)), (5, (.aload_n 0, 1, 0, 0, 0, 0, 0)), (6, (.getfield 15, 3, 3, 1, 0, 220, 0)), (9, (.if_icmp .ge 19, 3, 28, 0, 0, 0, 0)), (12, (.iload_n 1, 1, 1, 0, 0, 0, 0)), (13, (.sipush 400, 3, 0, 0, 0, 400, 0)), (16, (.if_icmp .ge 12, 3, 28, 0, 0, 0, 0)), (19, (.aload_n 0, 1, 0, 0, 0, 0, 0)), (20, (.getfield 9, 3, 3, 0, 1, 45, 0)), (23, (.iload_n 1, 1, 1, 0, 0, 0, 0)), (24, (.iaload, 1, 0, 0, 0, 0, 0)), (25, (.goto 4, 3, 29, 0, 0, 0, 0)), (28, (.iconst 0, 1, 0, 0, 0, 0, 0)), (29, (.ireturn, 1, 0, 0, 0, 0, 0))]]
def tX3_tokenAt : List (List (Nat × E_)) := [[(0, (.aload_n 0, 1, 0, 0, 0, 0, 0)), (1, (.iload_n 1, 1, 1, 0, 0, 0, 0)), (2, (.invokevirtual 52, 3, 23, 3106, 1, 265, 0)), (5, (.istore_n 2, 1, 2, 0, 0, 0, 0)), (6, (.iload_n 1, 1, 1, 0, 0, 0, 0)), (7, (.aload_n 0, 1, 0, 0, 0, 0, 0)), (8, (.getfield 15, 3, 3, 1, 0, 220, 0)), (11, (.if_icmp .lt 5, 3, 16, 0, 0, 0, 0)), (14, (.iconst 0, 1, 0, 0, 0, 0, 0)), (15, (.ireturn, 1, 0, 0, 0, 0, 0)), (16, (.iload_n 2, 1, 2, 0, 0, 0, 0)), (17, (.bipush 97, 2, 0, 0, 0, 97, 0)), (19, (.if_icmp .lt 11, 3, 30, 0, 0, 0, 0)), (22, (.iload_n 2, 1, 2, 0, 0, 0, 0)), (23, (.bipush 122, 2, 0, 0, 0, 122, 0)), (25, (.if_icmp .gt 5, 3, 30, 0, 0, 0, 0)), (28, (.iconst 1, 1, 0, 0, 0, 1, 0)), (29, (.ireturn, 1, 0, 0, 0, 0, 0)), (30, (.iload_n 2, 1, 2, 0, 0, 0, 0)), (31, (.bipush 48, 2, 0, 0, 0, 48, 0))],
  [(33, (.if_icmp .lt 11, 3, 44, 0, 0, 0, 0)), (36, (.iload_n 2, 1, 2, 0, 0, 0, 0)), (37, (.bipush 57, 2, 0, 0, 0, 57, 0)), (39, (.if_icmp .gt 5, 3, 44, 0, 0, 0, 0)), (42, (.iconst 2, 1, 0, 0, 0, 2, 0)), (43, (.ireturn, 1, 0, 0, 0, 0, 0)), (44, (.iload_n 2, 1, 2, 0, 0, 0, 0)), (45, (.bipush 59, 2, 0, 0, 0, 59, 0)), (47, (.if_icmp .ne 7, 3, 54, 0, 0, 0, 0)), (50, (.iconst 3, 1, 0, 0, 0, 3, 0)), (51, (.goto 14, 3, 65, 0, 0, 0, 0)), (54, (.iload_n 2, 1, 2, 0, 0, 0, 0)), (55, (.bipush 45, 2, 0, 0, 0, 45, 0)), (57, (.if_icmp .ne 7, 3, 64, 0, 0, 0, 0)), (60, (.iconst 4, 1, 0, 0, 0, 4, 0)), (61, (.goto 4, 3, 65, 0, 0, 0, 0))],
  [(64, (.iconst 5, 1, 0, 0, 0, 5, 0)), (65, (.ireturn, 1, 0, 0, 0, 0, 0))]]
def tX3_nextToken : List (List (Nat × E_)) := [[(0, (.aload_n 0, 1, 0, 0, 0, 0, 0)), (1, (.getfield 33, 3, 3, 5, 0, 249, 0)), (4, (.aload_n 0, 1, 0, 0, 0, 0, 0)), (5, (.getfield 15, 3, 3, 1, 0, 220, 0)), (8, (.if_icmp .ge 29, 3, 37, 0, 0, 0, 0)), (11, (.aload_n 0, 1, 0, 0, 0, 0, 0)), (12, (.aload_n 0, 1, 0, 0, 0, 0, 0)), (13, (.getfield 33, 3, 3, 5, 0, 249, 0)), (16, (.invokevirtual 52, 3, 23, 3106, 1, 265, 0)), (19, (.bipush 32, 2, 0, 0, 0, 32, 0)), (21, (.if_icmp .ne 16, 3, 37, 0, 0, 0, 0)), (24, (.aload_n 0, 1, 0, 0, 0, 0, 0)), (25, (.dup, 1, 0, 0, 0, 0, 0)), (26, (.getfield 33, 3, 3, 5, 0, 249, 0)), (29, (.iconst 1, 1, 0, 0, 0, 1, 0)), (30, (.iadd, 1, 0, 0, 0, 0, 0)), (31, (.putfield 33, 3, 3, 5, 0, 249, 0))],
  [(34, (.goto (-34), 3, 0, 0, 0, 0, 0)), (37, (.aload_n 0, 1, 0, 0, 0, 0, 0)), (38, (.aload_n 0, 1, 0, 0, 0, 0, 0)), (39, (.getfield 33, 3, 3, 5, 0, 249, 0)), (42, (.putfield 49, 3, 3, 7, 0, 263, 0)), (45, (.aload_n 0, 1, 0, 0, 0, 0, 0)), (46, (.aload_n 0, 1, 0, 0, 0, 0, 0)), (47, (.aload_n 0, 1, 0, 0, 0, 0, 0)), (48, (.getfield 33, 3, 3, 5, 0, 249, 0)), (51, (.invokevirtual 56, 3, 24, 3122, 1, 269, 0)), (54, (.putfield 39, 3, 3, 6, 0, 250, 0)), (57, (.aload_n 0, 1, 0, 0, 0, 0, 0)), (58, (.getfield 39, 3, 3, 6, 0, 250, 0)), (61, (.ifCond .eq 13, 3, 74, 0, 0, 0, 0))],
  [(64, (.aload_n 0, 1, 0, 0, 0, 0, 0)), (65, (.dup, 1, 0, 0, 0, 0, 0)), (66, (.getfield 33, 3, 3, 5, 0, 249, 0)), (69, (.iconst 1, 1, 0, 0, 0, 1, 0)), (70, (.iadd, 1, 0, 0, 0, 0, 0)), (71, (.putfield 33, 3, 3, 5, 0, 249, 0)), (74, (.aload_n 0, 1, 0, 0, 0, 0, 0)), (75, (.getfield 33, 3, 3, 5, 0, 249, 0)), (78, (.aload_n 0, 1, 0, 0, 0, 0, 0)), (79, (.getfield 15, 3, 3, 1, 0, 220, 0)), (82, (.if_icmp .ge 47, 3, 129, 0, 0, 0, 0)), (85, (.aload_n 0, 1, 0, 0, 0, 0, 0)), (86, (.getfield 39, 3, 3, 6, 0, 250, 0)), (89, (.iconst 1, 1, 0, 0, 0, 1, 0)), (90, (.if_icmp .eq 11, 3, 101, 0, 0, 0, 0)), (93, (.aload_n 0, 1, 0, 0, 0, 0, 0)), (94, (.getfield 39, 3, 3, 6, 0, 250, 0))],
  [(97, (.iconst 2, 1, 0, 0, 0, 2, 0)), (98, (.if_icmp .ne 31, 3, 129, 0, 0, 0, 0)), (101, (.aload_n 0, 1, 0, 0, 0, 0, 0)), (102, (.aload_n 0, 1, 0, 0, 0, 0, 0)), (103, (.getfield 33, 3, 3, 5, 0, 249, 0)), (106, (.invokevirtual 56, 3, 24, 3122, 1, 269, 0)), (109, (.aload_n 0, 1, 0, 0, 0, 0, 0)), (110, (.getfield 39, 3, 3, 6, 0, 250, 0)), (113, (.if_icmp .ne 16, 3, 129, 0, 0, 0, 0)), (116, (.aload_n 0, 1, 0, 0, 0, 0, 0)), (117, (.dup, 1, 0, 0, 0, 0, 0)), (118, (.getfield 33, 3, 3, 5, 0, 249, 0)), (121, (.iconst 1, 1, 0, 0, 0, 1, 0)), (122, (.iadd, 1, 0, 0, 0, 0, 0)), (123, (.putfield 33, 3, 3, 5, 0, 249, 0)), (126, (.goto (-52), 3, 74, 0, 0, 0, 0))],
  [(129, (.aload_n 0, 1, 0, 0, 0, 0, 0)), (130, (.aload_n 0, 1, 0, 0, 0, 0, 0)), (131, (.getfield 33, 3, 3, 5, 0, 249, 0)), (134, (.putfield 59, 3, 3, 8, 0, 264, 0)), (137, (.aload_n 0, 1, 0, 0, 0, 0, 0)), (138, (.getfield 39, 3, 3, 6, 0, 250, 0)), (141, (.iconst 5, 1, 0, 0, 0, 5, 0)), (142, (.if_icmp .eq 24, 3, 166, 0, 0, 0, 0)), (145, (.aload_n 0, 1, 0, 0, 0, 0, 0)), (146, (.getfield 39, 3, 3, 6, 0, 250, 0)), (149, (.iconst 2, 1, 0, 0, 0, 2, 0)), (150, (.if_icmp .ne 21, 3, 171, 0, 0, 0, 0)), (153, (.aload_n 0, 1, 0, 0, 0, 0, 0)), (154, (.getfield 59, 3, 3, 8, 0, 264, 0)), (157, (.aload_n 0, 1, 0, 0, 0, 0, 0)), (158, (.getfield 49, 3, 3, 7, 0, 263, 0))],
  [(161, (.isub, 1, 0, 0, 0, 0, 0)), (162, (.iconst 2, 1, 0, 0, 0, 2, 0)), (163, (.if_icmp .le 8, 3, 171, 0, 0, 0, 0)), (166, (.aload_n 0, 1, 0, 0, 0, 0, 0)), (167, (.iconst 1, 1, 0, 0, 0, 1, 0)), (168, (.invokevirtual 62, 3, 22, 3106, 0, 273, 0)), (171, (.return_, 1, 0, 0, 0, 0, 0))]]
def tX3_isNamed : List (List (Nat × E_)) := [[(0, (.aload_n 0, 1, 0, 0, 0, 0, 0)), (1, (.getfield 39, 3, 3, 6, 0, 250, 0)), (4, (.iconst 1, 1, 0, 0, 0, 1, 0)), (5, (.if_icmp .ne 19, 3, 24, 0, 0, 0, 0)), (8, (.aload_n 1, 1, 1, 0, 0, 0, 0)), (9, (.invokevirtual 66, 3, 1003, 9233, 1, 289, 0)), (12, (.aload_n 0, 1, 0, 0, 0, 0, 0)), (13, (.getfield 59, 3, 3, 8, 0, 264, 0)), (16, (.aload_n 0, 1, 0, 0, 0, 0, 0)), (17, (.getfield 49, 3, 3, 7, 0, 263, 0)), (20, (.isub, 1, 0, 0, 0, 0, 0)), (21, (.if_icmp .eq 5, 3, 26, 0, 0, 0, 0)), (24, (.iconst 0, 1, 0, 0, 0, 0, 0)), (25, (.ireturn, 1, 0, 0, 1, 0, 0)), (26, (.iconst 0, 1, 0, 0, 0, 0, 0)), (27, (.istore_n 2, 1, 2, 0, 0, 0, 0)), (28, (.iload_n 2, 1, 2, 0, 0, 0, 0)), (29, (.aload_n 1, 1, 1, 0, 0, 0, 0)), (30, (.invokevirtual 66, 3, 1003, 9233, 1, 289, 0))],
  [(33, (.if_icmp .ge 29, 3, 62, 0, 0, 0, 0)), (36, (.aload_n 1, 1, 1, 0, 0, 0, 0)), (37, (.iload_n 2, 1, 2, 0, 0, 0, 0)), (38, (.invokevirtual 71, 3, 1004, 9250, 1, 301, 0)), (41, (.aload_n 0, 1, 0, 0, 0, 0, 0)), (42, (.aload_n 0, 1, 0, 0, 0, 0, 0)), (43, (.getfield 49, 3, 3, 7, 0, 263, 0)), (46, (.iload_n 2, 1, 2, 0, 0, 0, 0)), (47, (.iadd, 1, 0, 0, 0, 0, 0)), (48, (.invokevirtual 52, 3, 23, 3106, 1, 265, 0)), (51, (.if_icmp .eq 5, 3, 56, 0, 0, 0, 0)), (54, (.iconst 0, 1, 0, 0, 0, 0, 0)), (55, (.ireturn, 1, 0, 0, 1, 0, 0)), (56, (.iinc 2 1, 3, 2, 0, 0, 1, 0)), (59, (.goto (-31), 3, 28, 0, 0, 0, 0)), (62, (.iconst 1, 1, 0, 0, 0, 1, 0)), (63, (.ireturn, 1, 0, 0, 1, 0, 0))]]
def tX3_readLine : List (List (Nat × E_)) := [[(0, (.aload_n 0, 1, 0, 0, 0, 0, 0)), (1, (.invokevirtual 75, 3, 28, 3089, 1, 281, 0)), (4, (.istore_n 2, 1, 2, 0, 0, 0, 0)), (5, (.aload_n 0, 1, 0, 0, 0, 0, 0)), (6, (.ldc 78, 2, 0, 0, 1, 0, 0)), (8, (.invokevirtual 80, 3, 26, 3122, 1, 285, 0)), (11, (.ifCond .eq 11, 3, 22, 0, 0, 0, 0)), (14, (.aload_n 0, 1, 0, 0, 0, 0, 0)), (15, (.aload_n 1, 1, 1, 0, 0, 0, 0)), (16, (.invokevirtual 84, 3, 29, 3106, 0, 338, 0)), (19, (.goto 57, 3, 76, 0, 0, 0, 0)), (22, (.aload_n 0, 1, 0, 0, 0, 0, 0)), (23, (.ldc 87, 2, 1, 0, 1, 0, 0)), (25, (.invokevirtual 80, 3, 26, 3122, 1, 285, 0)), (28, (.ifCond .eq 11, 3, 39, 0, 0, 0, 0)), (31, (.aload_n 0, 1, 0, 0, 0, 0, 0))],
  [(32, (.aload_n 1, 1, 1, 0, 0, 0, 0)), (33, (.invokevirtual 89, 3, 30, 3138, 0, 353, 0)), (36, (.goto 40, 3, 76, 0, 0, 0, 0)), (39, (.aload_n 0, 1, 0, 0, 0, 0, 0)), (40, (.ldc 92, 2, 2, 0, 1, 0, 0)), (42, (.invokevirtual 80, 3, 26, 3122, 1, 285, 0)), (45, (.ifCond .eq 11, 3, 56, 0, 0, 0, 0)), (48, (.aload_n 0, 1, 0, 0, 0, 0, 0)), (49, (.aload_n 1, 1, 1, 0, 0, 0, 0)), (50, (.invokevirtual 94, 3, 31, 3106, 0, 369, 0)), (53, (.goto 23, 3, 76, 0, 0, 0, 0)), (56, (.iload_n 2, 1, 2, 0, 0, 0, 0)), (57, (.bipush (-4), 2, 0, 0, 0, (-4), 0)), (59, (.if_icmp .eq 12, 3, 71, 0, 0, 0, 0)), (62, (.aload_n 0, 1, 0, 0, 0, 0, 0)), (63, (.aload_n 1, 1, 1, 0, 0, 0, 0))],
  [(64, (.iload_n 2, 1, 2, 0, 0, 0, 0)), (65, (.invokevirtual 97, 3, 32, 3187, 0, 382, 0)), (68, (.goto 8, 3, 76, 0, 0, 0, 0)), (71, (.aload_n 0, 1, 0, 0, 0, 0, 0)), (72, (.iconst 2, 1, 0, 0, 0, 2, 0)), (73, (.invokevirtual 62, 3, 22, 3106, 0, 273, 0)), (76, (.aload_n 0, 1, 0, 0, 0, 0, 0)), (77, (.getfield 24, 3, 3, 2, 0, 246, 0)), (80, (.ifCond .ne 16, 3, 96, 0, 0, 0, 0)), (83, (.aload_n 0, 1, 0, 0, 0, 0, 0)), (84, (.getfield 39, 3, 3, 6, 0, 250, 0)), (87, (.iconst 3, 1, 0, 0, 0, 3, 0)), (88, (.if_icmp .eq 8, 3, 96, 0, 0, 0, 0)), (91, (.aload_n 0, 1, 0, 0, 0, 0, 0)), (92, (.iconst 2, 1, 0, 0, 0, 2, 0)), (93, (.invokevirtual 62, 3, 22, 3106, 0, 273, 0))],
  [(96, (.aload_n 0, 1, 0, 0, 0, 0, 0)), (97, (.getfield 24, 3, 3, 2, 0, 246, 0)), (100, (.ifCond .ne 7, 3, 107, 0, 0, 0, 0)), (103, (.aload_n 0, 1, 0, 0, 0, 0, 0)), (104, (.invokevirtual 36, 3, 25, 3089, 0, 259, 0)), (107, (.return_, 1, 0, 0, 0, 0, 0))]]
def tX3_sortNamed : List (List (Nat × E_)) := [[(0, (.aload_n 0, 1, 0, 0, 0, 0, 0)), (1, (.ldc 101, 2, 3, 0, 1, 0, 0)), (3, (.invokevirtual 80, 3, 26, 3122, 1, 285, 0)), (6, (.ifCond .eq 7, 3, 13, 0, 0, 0, 0)), (9, (.iconst 0, 1, 0, 0, 0, 0, 0)), (10, (.goto 44, 3, 54, 0, 0, 0, 0)), (13, (.aload_n 0, 1, 0, 0, 0, 0, 0)), (14, (.ldc 103, 2, 4, 0, 1, 0, 0)), (16, (.invokevirtual 80, 3, 26, 3122, 1, 285, 0)), (19, (.ifCond .eq 7, 3, 26, 0, 0, 0, 0)), (22, (.iconst 1, 1, 0, 0, 0, 1, 0)), (23, (.goto 31, 3, 54, 0, 0, 0, 0)), (26, (.aload_n 0, 1, 0, 0, 0, 0, 0)), (27, (.ldc 105, 2, 5, 0, 1, 0, 0)), (29, (.invokevirtual 80, 3, 26, 3122, 1, 285, 0))],
  [(32, (.ifCond .eq 7, 3, 39, 0, 0, 0, 0)), (35, (.iconst 2, 1, 0, 0, 0, 2, 0)), (36, (.goto 18, 3, 54, 0, 0, 0, 0)), (39, (.aload_n 0, 1, 0, 0, 0, 0, 0)), (40, (.ldc 107, 2, 6, 0, 1, 0, 0)), (42, (.invokevirtual 80, 3, 26, 3122, 1, 285, 0)), (45, (.ifCond .eq 7, 3, 52, 0, 0, 0, 0)), (48, (.iconst 3, 1, 0, 0, 0, 3, 0)), (49, (.goto 5, 3, 54, 0, 0, 0, 0)), (52, (.bipush (-4), 2, 0, 0, 0, (-4), 0)), (54, (.ireturn, 1, 0, 0, 0, 0, 0))]]
def tX3_readThing : List (List (Nat × E_)) := [[(0, (.aload_n 1, 1, 1, 0, 0, 0, 0)), (1, (.getfield 109, 3, 4, 0, 0, 342, 0)), (4, (.bipush 8, 2, 0, 0, 0, 8, 0)), (6, (.if_icmp .lt 9, 3, 15, 0, 0, 0, 0)), (9, (.aload_n 0, 1, 0, 0, 0, 0, 0)), (10, (.iconst 5, 1, 0, 0, 0, 5, 0)), (11, (.invokevirtual 62, 3, 22, 3106, 0, 273, 0)), (14, (.return_, 1, 0, 0, 0, 0, 0)), (15, (.aload_n 0, 1, 0, 0, 0, 0, 0)), (16, (.invokevirtual 36, 3, 25, 3089, 0, 259, 0)), (19, (.aload_n 1, 1, 1, 0, 0, 0, 0)), (20, (.aload_n 0, 1, 0, 0, 0, 0, 0)), (21, (.iconst 0, 1, 0, 0, 0, 0, 0)), (22, (.invokevirtual 112, 3, 34, 3154, 1, 343, 0)), (25, (.invokevirtual 115, 3, 37, 4130, 0, 349, 0)), (28, (.return_, 1, 0, 0, 0, 0, 0))]]
def tX3_readMeaning : List (List (Nat × E_)) := [[(0, (.aload_n 1, 1, 1, 0, 0, 0, 0)), (1, (.getfield 118, 3, 4, 1, 0, 357, 0)), (4, (.bipush 12, 2, 0, 0, 0, 12, 0)), (6, (.if_icmp .lt 9, 3, 15, 0, 0, 0, 0)), (9, (.aload_n 0, 1, 0, 0, 0, 0, 0)), (10, (.iconst 5, 1, 0, 0, 0, 5, 0)), (11, (.invokevirtual 62, 3, 22, 3106, 0, 273, 0)), (14, (.return_, 1, 0, 0, 0, 0, 0)), (15, (.aload_n 0, 1, 0, 0, 0, 0, 0)), (16, (.invokevirtual 36, 3, 25, 3089, 0, 259, 0)), (19, (.aload_n 0, 1, 0, 0, 0, 0, 0)), (20, (.iconst 0, 1, 0, 0, 0, 0, 0)), (21, (.invokevirtual 112, 3, 34, 3154, 1, 343, 0)), (24, (.istore_n 2, 1, 2, 0, 0, 0, 0)), (25, (.iconst 0, 1, 0, 0, 0, 0, 0)), (26, (.istore_n 3, 1, 3, 0, 0, 0, 0)), (27, (.aload_n 0, 1, 0, 0, 0, 0, 0)), (28, (.getfield 24, 3, 3, 2, 0, 246, 0)), (31, (.ifCond .ne 22, 3, 53, 0, 0, 0, 0))],
  [(34, (.aload_n 0, 1, 0, 0, 0, 0, 0)), (35, (.ldc 121, 2, 7, 0, 1, 0, 0)), (37, (.invokevirtual 80, 3, 26, 3122, 1, 285, 0)), (40, (.ifCond .eq 13, 3, 53, 0, 0, 0, 0)), (43, (.aload_n 0, 1, 0, 0, 0, 0, 0)), (44, (.invokevirtual 36, 3, 25, 3089, 0, 259, 0)), (47, (.aload_n 0, 1, 0, 0, 0, 0, 0)), (48, (.iload_n 2, 1, 2, 0, 0, 0, 0)), (49, (.invokevirtual 112, 3, 34, 3154, 1, 343, 0)), (52, (.istore_n 3, 1, 3, 0, 0, 0, 0)), (53, (.aload_n 1, 1, 1, 0, 0, 0, 0)), (54, (.iload_n 2, 1, 2, 0, 0, 0, 0)), (55, (.iload_n 3, 1, 3, 0, 0, 0, 0)), (56, (.invokevirtual 123, 3, 38, 4147, 0, 358, 0)), (59, (.return_, 1, 0, 0, 0, 0, 0))]]
def tX3_readWord : List (List (Nat × E_)) := [[(0, (.aload_n 1, 1, 1, 0, 0, 0, 0)), (1, (.getfield 127, 3, 4, 2, 0, 373, 0)), (4, (.iconst 4, 1, 0, 0, 0, 4, 0)), (5, (.if_icmp .lt 9, 3, 14, 0, 0, 0, 0)), (8, (.aload_n 0, 1, 0, 0, 0, 0, 0)), (9, (.iconst 5, 1, 0, 0, 0, 5, 0)), (10, (.invokevirtual 62, 3, 22, 3106, 0, 273, 0)), (13, (.return_, 1, 0, 0, 0, 0, 0)), (14, (.aload_n 0, 1, 0, 0, 0, 0, 0)), (15, (.invokevirtual 36, 3, 25, 3089, 0, 259, 0)), (18, (.aload_n 1, 1, 1, 0, 0, 0, 0)), (19, (.aload_n 0, 1, 0, 0, 0, 0, 0)), (20, (.aload_n 1, 1, 1, 0, 0, 0, 0)), (21, (.getfield 118, 3, 4, 1, 0, 357, 0)), (24, (.invokevirtual 130, 3, 35, 3138, 1, 374, 0)), (27, (.invokevirtual 133, 3, 39, 4130, 0, 378, 0)), (30, (.return_, 1, 0, 0, 0, 0, 0))]]
def tX3_readKind : List (List (Nat × E_)) := [[(0, (.aload_n 1, 1, 1, 0, 0, 0, 0)), (1, (.getfield 136, 3, 4, 3, 0, 386, 0)), (4, (.bipush 6, 2, 0, 0, 0, 6, 0)), (6, (.if_icmp .lt 9, 3, 15, 0, 0, 0, 0)), (9, (.aload_n 0, 1, 0, 0, 0, 0, 0)), (10, (.iconst 5, 1, 0, 0, 0, 5, 0)), (11, (.invokevirtual 62, 3, 22, 3106, 0, 273, 0)), (14, (.return_, 1, 0, 0, 0, 0, 0)), (15, (.aload_n 1, 1, 1, 0, 0, 0, 0)), (16, (.getfield 136, 3, 4, 3, 0, 386, 0)), (19, (.istore_n 3, 1, 3, 0, 0, 0, 0)), (20, (.aload_n 1, 1, 1, 0, 0, 0, 0)), (21, (.iload_n 2, 1, 2, 0, 0, 0, 0)), (22, (.invokevirtual 139, 3, 40, 4130, 0, 391, 0)), (25, (.aload_n 0, 1, 0, 0, 0, 0, 0)), (26, (.invokevirtual 36, 3, 25, 3089, 0, 259, 0)), (29, (.iconst 0, 1, 0, 0, 0, 0, 0)), (30, (.istore 4, 2, 4, 0, 0, 0, 0))],
  [(32, (.iconst 0, 1, 0, 0, 0, 0, 0)), (33, (.istore 5, 2, 5, 0, 0, 0, 0)), (35, (.iload 5, 2, 5, 0, 0, 0, 0)), (37, (.sipush 400, 3, 0, 0, 0, 400, 0)), (40, (.if_icmp .ge 148, 3, 188, 0, 0, 0, 0)), (43, (.aload_n 0, 1, 0, 0, 0, 0, 0)), (44, (.getfield 24, 3, 3, 2, 0, 246, 0)), (47, (.ifCond .ne 141, 3, 188, 0, 0, 0, 0)), (50, (.aload_n 0, 1, 0, 0, 0, 0, 0)), (51, (.getfield 39, 3, 3, 6, 0, 250, 0)), (54, (.iconst 1, 1, 0, 0, 0, 1, 0)), (55, (.if_icmp .ne 133, 3, 188, 0, 0, 0, 0)), (58, (.aload_n 0, 1, 0, 0, 0, 0, 0)), (59, (.invokevirtual 142, 3, 33, 3089, 1, 395, 0)), (62, (.istore 6, 2, 6, 0, 0, 0, 0))],
  [(64, (.iload 6, 2, 6, 0, 0, 0, 0)), (66, (.bipush (-4), 2, 0, 0, 0, (-4), 0)), (68, (.if_icmp .eq 13, 3, 81, 0, 0, 0, 0)), (71, (.iload 6, 2, 6, 0, 0, 0, 0)), (73, (.iload 4, 2, 4, 0, 0, 0, 0)), (75, (.invokestatic 145, 3, 109, 34, 1, -1, 0)), (78, (.ifCond .eq 20, 3, 98, 0, 0, 0, 0)), (81, (.aload_n 0, 1, 0, 0, 0, 0, 0)), (82, (.iload 6, 2, 6, 0, 0, 0, 0)), (84, (.bipush (-4), 2, 0, 0, 0, (-4), 0)), (86, (.if_icmp .ne 7, 3, 93, 0, 0, 0, 0)), (89, (.iconst 2, 1, 0, 0, 0, 2, 0)), (90, (.goto 4, 3, 94, 0, 0, 0, 0)), (93, (.iconst 4, 1, 0, 0, 0, 4, 0)), (94, (.invokevirtual 62, 3, 22, 3106, 0, 273, 0))],
  [(97, (.return_, 1, 0, 0, 0, 0, 0)), (98, (.iload 4, 2, 4, 0, 0, 0, 0)), (100, (.iconst 1, 1, 0, 0, 0, 1, 0)), (101, (.iload 6, 2, 6, 0, 0, 0, 0)), (103, (.ishl, 1, 0, 0, 0, 0, 0)), (104, (.ior, 1, 0, 0, 0, 0, 0)), (105, (.istore 4, 2, 4, 0, 0, 0, 0)), (107, (.aload_n 0, 1, 0, 0, 0, 0, 0)), (108, (.invokevirtual 36, 3, 25, 3089, 0, 259, 0)), (111, (.iload 6, 2, 6, 0, 0, 0, 0)), (113, (.iconst 1, 1, 0, 0, 0, 1, 0)), (114, (.if_icmp .ne 17, 3, 131, 0, 0, 0, 0)), (117, (.aload_n 1, 1, 1, 0, 0, 0, 0)), (118, (.getfield 149, 3, 4, 14, 1, 387, 0)), (121, (.iload_n 3, 1, 3, 0, 0, 0, 0)), (122, (.aload_n 0, 1, 0, 0, 0, 0, 0)), (123, (.iconst 0, 1, 0, 0, 0, 0, 0)), (124, (.invokevirtual 112, 3, 34, 3154, 1, 343, 0)), (127, (.iastore, 1, 0, 0, 0, 0, 0))],
  [(128, (.goto 54, 3, 182, 0, 0, 0, 0)), (131, (.iload 6, 2, 6, 0, 0, 0, 0)), (133, (.iconst 2, 1, 0, 0, 0, 2, 0)), (134, (.if_icmp .ne 20, 3, 154, 0, 0, 0, 0)), (137, (.aload_n 1, 1, 1, 0, 0, 0, 0)), (138, (.getfield 152, 3, 4, 15, 1, 388, 0)), (141, (.iload_n 3, 1, 3, 0, 0, 0, 0)), (142, (.aload_n 0, 1, 0, 0, 0, 0, 0)), (143, (.aload_n 1, 1, 1, 0, 0, 0, 0)), (144, (.getfield 109, 3, 4, 0, 0, 342, 0)), (147, (.invokevirtual 130, 3, 35, 3138, 1, 374, 0)), (150, (.iastore, 1, 0, 0, 0, 0, 0)), (151, (.goto 31, 3, 182, 0, 0, 0, 0)), (154, (.iload 6, 2, 6, 0, 0, 0, 0)), (156, (.iconst 4, 1, 0, 0, 0, 4, 0)), (157, (.if_icmp .ne 18, 3, 175, 0, 0, 0, 0))],
  [(160, (.aload_n 1, 1, 1, 0, 0, 0, 0)), (161, (.getfield 155, 3, 4, 17, 1, 389, 0)), (164, (.iload_n 3, 1, 3, 0, 0, 0, 0)), (165, (.aload_n 0, 1, 0, 0, 0, 0, 0)), (166, (.bipush 10, 2, 0, 0, 0, 10, 0)), (168, (.invokevirtual 130, 3, 35, 3138, 1, 374, 0)), (171, (.iastore, 1, 0, 0, 0, 0, 0)), (172, (.goto 10, 3, 182, 0, 0, 0, 0)), (175, (.aload_n 1, 1, 1, 0, 0, 0, 0)), (176, (.getfield 158, 3, 4, 16, 1, 390, 0)), (179, (.iload_n 3, 1, 3, 0, 0, 0, 0)), (180, (.iconst 1, 1, 0, 0, 0, 1, 0)), (181, (.bastore, 1, 0, 0, 0, 0, 0)), (182, (.iinc 5 1, 3, 5, 0, 0, 1, 0)), (185, (.goto (-150), 3, 35, 0, 0, 0, 0)), (188, (.return_, 1, 0, 0, 0, 0, 0))]]
def tX3_withNamed : List (List (Nat × E_)) := [[(0, (.aload_n 0, 1, 0, 0, 0, 0, 0)), (1, (.ldc 162, 2, 8, 0, 1, 0, 0)), (3, (.invokevirtual 80, 3, 26, 3122, 1, 285, 0)), (6, (.ifCond .eq 7, 3, 13, 0, 0, 0, 0)), (9, (.iconst 1, 1, 0, 0, 0, 1, 0)), (10, (.goto 44, 3, 54, 0, 0, 0, 0)), (13, (.aload_n 0, 1, 0, 0, 0, 0, 0)), (14, (.ldc 163, 2, 9, 0, 1, 0, 0)), (16, (.invokevirtual 80, 3, 26, 3122, 1, 285, 0)), (19, (.ifCond .eq 7, 3, 26, 0, 0, 0, 0)), (22, (.iconst 2, 1, 0, 0, 0, 2, 0)), (23, (.goto 31, 3, 54, 0, 0, 0, 0)), (26, (.aload_n 0, 1, 0, 0, 0, 0, 0)), (27, (.ldc 164, 2, 10, 0, 1, 0, 0)), (29, (.invokevirtual 80, 3, 26, 3122, 1, 285, 0))],
  [(32, (.ifCond .eq 7, 3, 39, 0, 0, 0, 0)), (35, (.iconst 3, 1, 0, 0, 0, 3, 0)), (36, (.goto 18, 3, 54, 0, 0, 0, 0)), (39, (.aload_n 0, 1, 0, 0, 0, 0, 0)), (40, (.ldc 165, 2, 11, 0, 1, 0, 0)), (42, (.invokevirtual 80, 3, 26, 3122, 1, 285, 0)), (45, (.ifCond .eq 7, 3, 52, 0, 0, 0, 0)), (48, (.iconst 4, 1, 0, 0, 0, 4, 0)), (49, (.goto 5, 3, 54, 0, 0, 0, 0)), (52, (.bipush (-4), 2, 0, 0, 0, (-4), 0)), (54, (.ireturn, 1, 0, 0, 0, 0, 0))]]
def tX3_takeLetters : List (List (Nat × E_)) := [[(0, (.aload_n 0, 1, 0, 0, 0, 0, 0)), (1, (.getfield 24, 3, 3, 2, 0, 246, 0)), (4, (.ifCond .eq 5, 3, 9, 0, 0, 0, 0)), (7, (.iconst 0, 1, 0, 0, 0, 0, 0)), (8, (.ireturn, 1, 0, 0, 0, 0, 0)), (9, (.aload_n 0, 1, 0, 0, 0, 0, 0)), (10, (.getfield 39, 3, 3, 6, 0, 250, 0)), (13, (.iconst 1, 1, 0, 0, 0, 1, 0)), (14, (.if_icmp .eq 18, 3, 32, 0, 0, 0, 0)), (17, (.aload_n 0, 1, 0, 0, 0, 0, 0)), (18, (.getfield 39, 3, 3, 6, 0, 250, 0)), (21, (.iconst 4, 1, 0, 0, 0, 4, 0)), (22, (.if_icmp .eq 10, 3, 32, 0, 0, 0, 0)), (25, (.aload_n 0, 1, 0, 0, 0, 0, 0)), (26, (.iconst 2, 1, 0, 0, 0, 2, 0)), (27, (.invokevirtual 62, 3, 22, 3106, 0, 273, 0)), (30, (.iconst 0, 1, 0, 0, 0, 0, 0)), (31, (.ireturn, 1, 0, 0, 0, 0, 0))],
  [(32, (.iconst 0, 1, 0, 0, 0, 0, 0)), (33, (.istore_n 2, 1, 2, 0, 0, 0, 0)), (34, (.aload_n 0, 1, 0, 0, 0, 0, 0)), (35, (.getfield 49, 3, 3, 7, 0, 263, 0)), (38, (.istore_n 3, 1, 3, 0, 0, 0, 0)), (39, (.iload_n 3, 1, 3, 0, 0, 0, 0)), (40, (.aload_n 0, 1, 0, 0, 0, 0, 0)), (41, (.getfield 59, 3, 3, 8, 0, 264, 0)), (44, (.if_icmp .ge 59, 3, 103, 0, 0, 0, 0)), (47, (.aload_n 0, 1, 0, 0, 0, 0, 0)), (48, (.getfield 39, 3, 3, 6, 0, 250, 0)), (51, (.iconst 1, 1, 0, 0, 0, 1, 0)), (52, (.if_icmp .ne 51, 3, 103, 0, 0, 0, 0)), (55, (.aload_n 0, 1, 0, 0, 0, 0, 0)), (56, (.iload_n 3, 1, 3, 0, 0, 0, 0)), (57, (.invokevirtual 52, 3, 23, 3106, 1, 265, 0)), (60, (.bipush 97, 2, 0, 0, 0, 97, 0)), (62, (.isub, 1, 0, 0, 0, 0, 0)), (63, (.istore 4, 2, 4, 0, 0, 0, 0))],
  [(65, (.iload 4, 2, 4, 0, 0, 0, 0)), (67, (.bipush 8, 2, 0, 0, 0, 8, 0)), (69, (.if_icmp .ge 14, 3, 83, 0, 0, 0, 0)), (72, (.iload 4, 2, 4, 0, 0, 0, 0)), (74, (.iload_n 2, 1, 2, 0, 0, 0, 0)), (75, (.iload_n 1, 1, 1, 0, 0, 0, 0)), (76, (.ior, 1, 0, 0, 0, 0, 0)), (77, (.invokestatic 145, 3, 109, 34, 1, -1, 0)), (80, (.ifCond .eq 10, 3, 90, 0, 0, 0, 0)), (83, (.aload_n 0, 1, 0, 0, 0, 0, 0)), (84, (.iconst 3, 1, 0, 0, 0, 3, 0)), (85, (.invokevirtual 62, 3, 22, 3106, 0, 273, 0)), (88, (.iconst 0, 1, 0, 0, 0, 0, 0)), (89, (.ireturn, 1, 0, 0, 0, 0, 0)), (90, (.iload_n 2, 1, 2, 0, 0, 0, 0)), (91, (.iconst 1, 1, 0, 0, 0, 1, 0)), (92, (.iload 4, 2, 4, 0, 0, 0, 0)), (94, (.ishl, 1, 0, 0, 0, 0, 0)), (95, (.ior, 1, 0, 0, 0, 0, 0))],
  [(96, (.istore_n 2, 1, 2, 0, 0, 0, 0)), (97, (.iinc 3 1, 3, 3, 0, 0, 1, 0)), (100, (.goto (-61), 3, 39, 0, 0, 0, 0)), (103, (.aload_n 0, 1, 0, 0, 0, 0, 0)), (104, (.invokevirtual 36, 3, 25, 3089, 0, 259, 0)), (107, (.iload_n 2, 1, 2, 0, 0, 0, 0)), (108, (.ireturn, 1, 0, 0, 0, 0, 0))]]
def tX3_takeNumber : List (List (Nat × E_)) := [[(0, (.aload_n 0, 1, 0, 0, 0, 0, 0)), (1, (.getfield 24, 3, 3, 2, 0, 246, 0)), (4, (.ifCond .eq 5, 3, 9, 0, 0, 0, 0)), (7, (.iconst 0, 1, 0, 0, 0, 0, 0)), (8, (.ireturn, 1, 0, 0, 0, 0, 0)), (9, (.aload_n 0, 1, 0, 0, 0, 0, 0)), (10, (.getfield 39, 3, 3, 6, 0, 250, 0)), (13, (.iconst 2, 1, 0, 0, 0, 2, 0)), (14, (.if_icmp .eq 10, 3, 24, 0, 0, 0, 0)), (17, (.aload_n 0, 1, 0, 0, 0, 0, 0)), (18, (.iconst 2, 1, 0, 0, 0, 2, 0)), (19, (.invokevirtual 62, 3, 22, 3106, 0, 273, 0)), (22, (.iconst 0, 1, 0, 0, 0, 0, 0)), (23, (.ireturn, 1, 0, 0, 0, 0, 0)), (24, (.iconst 0, 1, 0, 0, 0, 0, 0)), (25, (.istore_n 2, 1, 2, 0, 0, 0, 0)), (26, (.aload_n 0, 1, 0, 0, 0, 0, 0)), (27, (.getfield 49, 3, 3, 7, 0, 263, 0)), (30, (.istore_n 3, 1, 3, 0, 0, 0, 0)), (31, (.iload_n 3, 1, 3, 0, 0, 0, 0))],
  [(32, (.aload_n 0, 1, 0, 0, 0, 0, 0)), (33, (.getfield 59, 3, 3, 8, 0, 264, 0)), (36, (.if_icmp .ge 23, 3, 59, 0, 0, 0, 0)), (39, (.iload_n 2, 1, 2, 0, 0, 0, 0)), (40, (.bipush 10, 2, 0, 0, 0, 10, 0)), (42, (.imul, 1, 0, 0, 0, 0, 0)), (43, (.aload_n 0, 1, 0, 0, 0, 0, 0)), (44, (.iload_n 3, 1, 3, 0, 0, 0, 0)), (45, (.invokevirtual 52, 3, 23, 3106, 1, 265, 0)), (48, (.iadd, 1, 0, 0, 0, 0, 0)), (49, (.bipush 48, 2, 0, 0, 0, 48, 0)), (51, (.isub, 1, 0, 0, 0, 0, 0)), (52, (.istore_n 2, 1, 2, 0, 0, 0, 0)), (53, (.iinc 3 1, 3, 3, 0, 0, 1, 0)), (56, (.goto (-25), 3, 31, 0, 0, 0, 0)), (59, (.iload_n 2, 1, 2, 0, 0, 0, 0)), (60, (.iload_n 1, 1, 1, 0, 0, 0, 0)), (61, (.if_icmp .lt 10, 3, 71, 0, 0, 0, 0))],
  [(64, (.aload_n 0, 1, 0, 0, 0, 0, 0)), (65, (.iconst 3, 1, 0, 0, 0, 3, 0)), (66, (.invokevirtual 62, 3, 22, 3106, 0, 273, 0)), (69, (.iconst 0, 1, 0, 0, 0, 0, 0)), (70, (.ireturn, 1, 0, 0, 0, 0, 0)), (71, (.aload_n 0, 1, 0, 0, 0, 0, 0)), (72, (.invokevirtual 36, 3, 25, 3089, 0, 259, 0)), (75, (.iload_n 2, 1, 2, 0, 0, 0, 0)), (76, (.ireturn, 1, 0, 0, 0, 0, 0))]]
def tX4_empty : List (List (Nat × E_)) := [[(0, (.aload_n 0, 1, 0, 0, 0, 0, 0)), (1, (.iconst 0, 1, 0, 0, 0, 0, 0)), (2, (.putfield 58, 3, 4, 0, 0, 255, 0)), (5, (.aload_n 0, 1, 0, 0, 0, 0, 0)), (6, (.iconst 0, 1, 0, 0, 0, 0, 0)), (7, (.putfield 62, 3, 4, 1, 0, 256, 0)), (10, (.aload_n 0, 1, 0, 0, 0, 0, 0)), (11, (.iconst 0, 1, 0, 0, 0, 0, 0)), (12, (.putfield 65, 3, 4, 2, 0, 257, 0)), (15, (.aload_n 0, 1, 0, 0, 0, 0, 0)), (16, (.iconst 0, 1, 0, 0, 0, 0, 0)), (17, (.putfield 68, 3, 4, 3, 0, 258, 0)), (20, (.return_, 1, 0, 0, 0, 0, 0))]]
def tX4_addThing : List (List (Nat × E_)) := [[(0, (.aload_n 0, 1, 0, 0, 0, 0, 0)), (1, (.getfield 58, 3, 4, 0, 0, 255, 0)), (4, (.bipush 8, 2, 0, 0, 0, 8, 0)), (6, (.if_icmp .ge 23, 3, 29, 0, 0, 0, 0)), (9, (.aload_n 0, 1, 0, 0, 0, 0, 0)), (10, (.getfield 9, 3, 4, 4, 1, 50, 0)), (13, (.aload_n 0, 1, 0, 0, 0, 0, 0)), (14, (.getfield 58, 3, 4, 0, 0, 255, 0)), (17, (.iload_n 1, 1, 1, 0, 0, 0, 0)), (18, (.iastore, 1, 0, 0, 0, 0, 0)), (19, (.aload_n 0, 1, 0, 0, 0, 0, 0)), (20, (.dup, 1, 0, 0, 0, 0, 0)), (21, (.getfield 58, 3, 4, 0, 0, 255, 0)), (24, (.iconst 1, 1, 0, 0, 0, 1, 0)), (25, (.iadd, 1, 0, 0, 0, 0, 0)), (26, (.putfield 58, 3, 4, 0, 0, 255, 0)), (29, (.return_, 1, 0, 0, 0, 0, 0))]]
def tX4_addMeaning : List (List (Nat × E_)) := [[(0, (.aload_n 0, 1, 0, 0, 0, 0, 0)), (1, (.getfield 62, 3, 4, 1, 0, 256, 0)), (4, (.bipush 12, 2, 0, 0, 0, 12, 0)), (6, (.if_icmp .ge 48, 3, 54, 0, 0, 0, 0)), (9, (.aload_n 0, 1, 0, 0, 0, 0, 0)), (10, (.getfield 18, 3, 4, 6, 1, 52, 0)), (13, (.aload_n 0, 1, 0, 0, 0, 0, 0)), (14, (.getfield 62, 3, 4, 1, 0, 256, 0)), (17, (.iload_n 1, 1, 1, 0, 0, 0, 0)), (18, (.iastore, 1, 0, 0, 0, 0, 0)), (19, (.aload_n 0, 1, 0, 0, 0, 0, 0)), (20, (.getfield 21, 3, 4, 7, 1, 53, 0)), (23, (.aload_n 0, 1, 0, 0, 0, 0, 0)), (24, (.getfield 62, 3, 4, 1, 0, 256, 0)), (27, (.iload_n 2, 1, 2, 0, 0, 0, 0)), (28, (.iastore, 1, 0, 0, 0, 0, 0)), (29, (.aload_n 0, 1, 0, 0, 0, 0, 0)), (30, (.getfield 24, 3, 4, 8, 1, 54, 0))],
  [(33, (.aload_n 0, 1, 0, 0, 0, 0, 0)), (34, (.getfield 62, 3, 4, 1, 0, 256, 0)), (37, (.iload_n 1, 1, 1, 0, 0, 0, 0)), (38, (.iload_n 2, 1, 2, 0, 0, 0, 0)), (39, (.ior, 1, 0, 0, 0, 0, 0)), (40, (.invokestatic 71, 3, 217, 17, 1, 362, 0)), (43, (.iastore, 1, 0, 0, 0, 0, 0)), (44, (.aload_n 0, 1, 0, 0, 0, 0, 0)), (45, (.dup, 1, 0, 0, 0, 0, 0)), (46, (.getfield 62, 3, 4, 1, 0, 256, 0)), (49, (.iconst 1, 1, 0, 0, 0, 1, 0)), (50, (.iadd, 1, 0, 0, 0, 0, 0)), (51, (.putfield 62, 3, 4, 1, 0, 256, 0)), (54, (.return_, 1, 0, 0, 0, 0, 0))]]
def tX4_addSound : List (List (Nat × E_)) := [[(0, (.aload_n 0, 1, 0, 0, 0, 0, 0)), (1, (.getfield 65, 3, 4, 2, 0, 257, 0)), (4, (.iconst 4, 1, 0, 0, 0, 4, 0)), (5, (.if_icmp .ge 23, 3, 28, 0, 0, 0, 0)), (8, (.aload_n 0, 1, 0, 0, 0, 0, 0)), (9, (.getfield 36, 3, 4, 12, 1, 58, 0)), (12, (.aload_n 0, 1, 0, 0, 0, 0, 0)), (13, (.getfield 65, 3, 4, 2, 0, 257, 0)), (16, (.iload_n 1, 1, 1, 0, 0, 0, 0)), (17, (.iastore, 1, 0, 0, 0, 0, 0)), (18, (.aload_n 0, 1, 0, 0, 0, 0, 0)), (19, (.dup, 1, 0, 0, 0, 0, 0)), (20, (.getfield 65, 3, 4, 2, 0, 257, 0)), (23, (.iconst 1, 1, 0, 0, 0, 1, 0)), (24, (.iadd, 1, 0, 0, 0, 0, 0)), (25, (.putfield 65, 3, 4, 2, 0, 257, 0)), (28, (.return_, 1, 0, 0, 0, 0, 0))]]
def tX4_addKind : List (List (Nat × E_)) := [[(0, (.aload_n 0, 1, 0, 0, 0, 0, 0)), (1, (.getfield 68, 3, 4, 3, 0, 258, 0)), (4, (.bipush 6, 2, 0, 0, 0, 6, 0)), (6, (.if_icmp .ge 66, 3, 72, 0, 0, 0, 0)), (9, (.aload_n 0, 1, 0, 0, 0, 0, 0)), (10, (.getfield 39, 3, 4, 13, 1, 59, 0)), (13, (.aload_n 0, 1, 0, 0, 0, 0, 0)), (14, (.getfield 68, 3, 4, 3, 0, 258, 0)), (17, (.iload_n 1, 1, 1, 0, 0, 0, 0)), (18, (.iastore, 1, 0, 0, 0, 0, 0)), (19, (.aload_n 0, 1, 0, 0, 0, 0, 0)), (20, (.getfield 42, 3, 4, 14, 1, 60, 0)), (23, (.aload_n 0, 1, 0, 0, 0, 0, 0)), (24, (.getfield 68, 3, 4, 3, 0, 258, 0)), (27, (.sipush 255, 3, 0, 0, 0, 255, 0)), (30, (.iastore, 1, 0, 0, 0, 0, 0)), (31, (.aload_n 0, 1, 0, 0, 0, 0, 0))],
  [(32, (.getfield 45, 3, 4, 15, 1, 61, 0)), (35, (.aload_n 0, 1, 0, 0, 0, 0, 0)), (36, (.getfield 68, 3, 4, 3, 0, 258, 0)), (39, (.bipush (-4), 2, 0, 0, 0, (-4), 0)), (41, (.iastore, 1, 0, 0, 0, 0, 0)), (42, (.aload_n 0, 1, 0, 0, 0, 0, 0)), (43, (.getfield 48, 3, 4, 16, 1, 63, 0)), (46, (.aload_n 0, 1, 0, 0, 0, 0, 0)), (47, (.getfield 68, 3, 4, 3, 0, 258, 0)), (50, (.iconst 0, 1, 0, 0, 0, 0, 0)), (51, (.bastore, 1, 0, 0, 0, 0, 0)), (52, (.aload_n 0, 1, 0, 0, 0, 0, 0)), (53, (.getfield 52, 3, 4, 17, 1, 64, 0)), (56, (.aload_n 0, 1, 0, 0, 0, 0, 0)), (57, (.getfield 68, 3, 4, 3, 0, 258, 0)), (60, (.iconst 1, 1, 0, 0, 0, 1, 0)), (61, (.iastore, 1, 0, 0, 0, 0, 0)), (62, (.aload_n 0, 1, 0, 0, 0, 0, 0)), (63, (.dup, 1, 0, 0, 0, 0, 0))],
  [(64, (.getfield 68, 3, 4, 3, 0, 258, 0)), (67, (.iconst 1, 1, 0, 0, 0, 1, 0)), (68, (.iadd, 1, 0, 0, 0, 0, 0)), (69, (.putfield 68, 3, 4, 3, 0, 258, 0)), (72, (.return_, 1, 0, 0, 0, 0, 0))]]
def tX4_settle : List (List (Nat × E_)) := [[(0, (.iconst 0, 1, 0, 0, 0, 0, 0)), (1, (.istore_n 1, 1, 1, 0, 0, 0, 0)), (2, (.iload_n 1, 1, 1, 0, 0, 0, 0)), (3, (.aload_n 0, 1, 0, 0, 0, 0, 0)), (4, (.getfield 58, 3, 4, 0, 0, 255, 0)), (7, (.if_icmp .ge 16, 3, 23, 0, 0, 0, 0)), (10, (.aload_n 0, 1, 0, 0, 0, 0, 0)), (11, (.getfield 15, 3, 4, 5, 1, 51, 0)), (14, (.iload_n 1, 1, 1, 0, 0, 0, 0)), (15, (.iconst 0, 1, 0, 0, 0, 0, 0)), (16, (.iastore, 1, 0, 0, 0, 0, 0)), (17, (.iinc 1 1, 3, 1, 0, 0, 1, 0)), (20, (.goto (-18), 3, 2, 0, 0, 0, 0)), (23, (.iconst 0, 1, 0, 0, 0, 0, 0)), (24, (.istore_n 1, 1, 1, 0, 0, 0, 0)), (25, (.iload_n 1, 1, 1, 0, 0, 0, 0)), (26, (.aload_n 0, 1, 0, 0, 0, 0, 0)), (27, (.getfield 62, 3, 4, 1, 0, 256, 0)), (30, (.if_icmp .ge 94, 3, 124, 0, 0, 0, 0))],
  [(33, (.aload_n 0, 1, 0, 0, 0, 0, 0)), (34, (.getfield 27, 3, 4, 9, 1, 55, 0)), (37, (.iload_n 1, 1, 1, 0, 0, 0, 0)), (38, (.iconst 0, 1, 0, 0, 0, 0, 0)), (39, (.iastore, 1, 0, 0, 0, 0, 0)), (40, (.iconst 0, 1, 0, 0, 0, 0, 0)), (41, (.istore_n 2, 1, 2, 0, 0, 0, 0)), (42, (.iload_n 2, 1, 2, 0, 0, 0, 0)), (43, (.aload_n 0, 1, 0, 0, 0, 0, 0)), (44, (.getfield 58, 3, 4, 0, 0, 255, 0)), (47, (.if_icmp .ge 71, 3, 118, 0, 0, 0, 0)), (50, (.aload_n 0, 1, 0, 0, 0, 0, 0)), (51, (.getfield 9, 3, 4, 4, 1, 50, 0)), (54, (.iload_n 2, 1, 2, 0, 0, 0, 0)), (55, (.iaload, 1, 0, 0, 0, 0, 0)), (56, (.aload_n 0, 1, 0, 0, 0, 0, 0)), (57, (.getfield 18, 3, 4, 6, 1, 52, 0)), (60, (.iload_n 1, 1, 1, 0, 0, 0, 0)), (61, (.iaload, 1, 0, 0, 0, 0, 0)), (62, (.iand, 1, 0, 0, 0, 0, 0)), (63, (.aload_n 0, 1, 0, 0, 0, 0, 0))],
  [(64, (.getfield 18, 3, 4, 6, 1, 52, 0)), (67, (.iload_n 1, 1, 1, 0, 0, 0, 0)), (68, (.iaload, 1, 0, 0, 0, 0, 0)), (69, (.if_icmp .ne 43, 3, 112, 0, 0, 0, 0)), (72, (.aload_n 0, 1, 0, 0, 0, 0, 0)), (73, (.getfield 9, 3, 4, 4, 1, 50, 0)), (76, (.iload_n 2, 1, 2, 0, 0, 0, 0)), (77, (.iaload, 1, 0, 0, 0, 0, 0)), (78, (.aload_n 0, 1, 0, 0, 0, 0, 0)), (79, (.getfield 21, 3, 4, 7, 1, 53, 0)), (82, (.iload_n 1, 1, 1, 0, 0, 0, 0)), (83, (.iaload, 1, 0, 0, 0, 0, 0)), (84, (.iand, 1, 0, 0, 0, 0, 0)), (85, (.ifCond .ne 27, 3, 112, 0, 0, 0, 0)), (88, (.aload_n 0, 1, 0, 0, 0, 0, 0)), (89, (.getfield 27, 3, 4, 9, 1, 55, 0)), (92, (.iload_n 1, 1, 1, 0, 0, 0, 0)), (93, (.dup2, 1, 0, 0, 0, 0, 0)), (94, (.iaload, 1, 0, 0, 0, 0, 0)), (95, (.iconst 1, 1, 0, 0, 0, 1, 0))],
  [(96, (.iload_n 2, 1, 2, 0, 0, 0, 0)), (97, (.ishl, 1, 0, 0, 0, 0, 0)), (98, (.ior, 1, 0, 0, 0, 0, 0)), (99, (.iastore, 1, 0, 0, 0, 0, 0)), (100, (.aload_n 0, 1, 0, 0, 0, 0, 0)), (101, (.getfield 15, 3, 4, 5, 1, 51, 0)), (104, (.iload_n 2, 1, 2, 0, 0, 0, 0)), (105, (.dup2, 1, 0, 0, 0, 0, 0)), (106, (.iaload, 1, 0, 0, 0, 0, 0)), (107, (.iconst 1, 1, 0, 0, 0, 1, 0)), (108, (.iload_n 1, 1, 1, 0, 0, 0, 0)), (109, (.ishl, 1, 0, 0, 0, 0, 0)), (110, (.ior, 1, 0, 0, 0, 0, 0)), (111, (.iastore, 1, 0, 0, 0, 0, 0)), (112, (.iinc 2 1, 3, 2, 0, 0, 1, 0)), (115, (.goto (-73), 3, 42, 0, 0, 0, 0)), (118, (.iinc 1 1, 3, 1, 0, 0, 1, 0)), (121, (.goto (-96), 3, 25, 0, 0, 0, 0)), (124, (.iconst 0, 1, 0, 0, 0, 0, 0)), (125, (.istore_n 1, 1, 1, 0, 0, 0, 0)), (126, (.iload_n 1, 1, 1, 0, 0, 0, 0)), (127, (.aload_n 0, 1, 0, 0, 0, 0, 0))],
  [(128, (.getfield 68, 3, 4, 3, 0, 258, 0)), (131, (.if_icmp .ge 69, 3, 200, 0, 0, 0, 0)), (134, (.aload_n 0, 1, 0, 0, 0, 0, 0)), (135, (.getfield 55, 3, 4, 18, 1, 65, 0)), (138, (.iload_n 1, 1, 1, 0, 0, 0, 0)), (139, (.iconst 0, 1, 0, 0, 0, 0, 0)), (140, (.iastore, 1, 0, 0, 0, 0, 0)), (141, (.iconst 0, 1, 0, 0, 0, 0, 0)), (142, (.istore_n 2, 1, 2, 0, 0, 0, 0)), (143, (.iload_n 2, 1, 2, 0, 0, 0, 0)), (144, (.aload_n 0, 1, 0, 0, 0, 0, 0)), (145, (.getfield 62, 3, 4, 1, 0, 256, 0)), (148, (.if_icmp .ge 46, 3, 194, 0, 0, 0, 0)), (151, (.aload_n 0, 1, 0, 0, 0, 0, 0)), (152, (.getfield 18, 3, 4, 6, 1, 52, 0)), (155, (.iload_n 2, 1, 2, 0, 0, 0, 0)), (156, (.iaload, 1, 0, 0, 0, 0, 0)), (157, (.aload_n 0, 1, 0, 0, 0, 0, 0)), (158, (.getfield 21, 3, 4, 7, 1, 53, 0))],
  [(161, (.iload_n 2, 1, 2, 0, 0, 0, 0)), (162, (.iaload, 1, 0, 0, 0, 0, 0)), (163, (.ior, 1, 0, 0, 0, 0, 0)), (164, (.aload_n 0, 1, 0, 0, 0, 0, 0)), (165, (.getfield 42, 3, 4, 14, 1, 60, 0)), (168, (.iload_n 1, 1, 1, 0, 0, 0, 0)), (169, (.iaload, 1, 0, 0, 0, 0, 0)), (170, (.iconst (-1), 1, 0, 0, 0, (-1), 0)), (171, (.ixor, 1, 0, 0, 0, 0, 0)), (172, (.iand, 1, 0, 0, 0, 0, 0)), (173, (.ifCond .ne 15, 3, 188, 0, 0, 0, 0)), (176, (.aload_n 0, 1, 0, 0, 0, 0, 0)), (177, (.getfield 55, 3, 4, 18, 1, 65, 0)), (180, (.iload_n 1, 1, 1, 0, 0, 0, 0)), (181, (.dup2, 1, 0, 0, 0, 0, 0)), (182, (.iaload, 1, 0, 0, 0, 0, 0)), (183, (.iconst 1, 1, 0, 0, 0, 1, 0)), (184, (.iload_n 2, 1, 2, 0, 0, 0, 0)), (185, (.ishl, 1, 0, 0, 0, 0, 0)), (186, (.ior, 1, 0, 0, 0, 0, 0)), (187, (.iastore, 1, 0, 0, 0, 0, 0)), (188, (.iinc 2 1, 3, 2, 0, 0, 1, 0)), (191, (.goto (-48), 3, 143, 0, 0, 0, 0))],
  [(194, (.iinc 1 1, 3, 1, 0, 0, 1, 0)), (197, (.goto (-71), 3, 126, 0, 0, 0, 0)), (200, (.aload_n 0, 1, 0, 0, 0, 0, 0)), (201, (.invokevirtual 77, 3, 42, 4161, 0, 403, 0)), (204, (.return_, 1, 0, 0, 0, 0, 0))]]
def tX4_settleMeanings : List (List (Nat × E_)) := [[(0, (.iconst 0, 1, 0, 0, 0, 0, 0)), (1, (.istore_n 1, 1, 1, 0, 0, 0, 0)), (2, (.iload_n 1, 1, 1, 0, 0, 0, 0)), (3, (.aload_n 0, 1, 0, 0, 0, 0, 0)), (4, (.getfield 62, 3, 4, 1, 0, 256, 0)), (7, (.if_icmp .ge 59, 3, 66, 0, 0, 0, 0)), (10, (.aload_n 0, 1, 0, 0, 0, 0, 0)), (11, (.getfield 30, 3, 4, 10, 1, 56, 0)), (14, (.iload_n 1, 1, 1, 0, 0, 0, 0)), (15, (.iconst 0, 1, 0, 0, 0, 0, 0)), (16, (.iastore, 1, 0, 0, 0, 0, 0)), (17, (.iconst 0, 1, 0, 0, 0, 0, 0)), (18, (.istore_n 2, 1, 2, 0, 0, 0, 0)), (19, (.iload_n 2, 1, 2, 0, 0, 0, 0)), (20, (.aload_n 0, 1, 0, 0, 0, 0, 0)), (21, (.getfield 62, 3, 4, 1, 0, 256, 0)), (24, (.if_icmp .ge 36, 3, 60, 0, 0, 0, 0)), (27, (.aload_n 0, 1, 0, 0, 0, 0, 0)), (28, (.getfield 27, 3, 4, 9, 1, 55, 0)), (31, (.iload_n 1, 1, 1, 0, 0, 0, 0))],
  [(32, (.iaload, 1, 0, 0, 0, 0, 0)), (33, (.aload_n 0, 1, 0, 0, 0, 0, 0)), (34, (.getfield 27, 3, 4, 9, 1, 55, 0)), (37, (.iload_n 2, 1, 2, 0, 0, 0, 0)), (38, (.iaload, 1, 0, 0, 0, 0, 0)), (39, (.if_icmp .ne 15, 3, 54, 0, 0, 0, 0)), (42, (.aload_n 0, 1, 0, 0, 0, 0, 0)), (43, (.getfield 30, 3, 4, 10, 1, 56, 0)), (46, (.iload_n 1, 1, 1, 0, 0, 0, 0)), (47, (.dup2, 1, 0, 0, 0, 0, 0)), (48, (.iaload, 1, 0, 0, 0, 0, 0)), (49, (.iconst 1, 1, 0, 0, 0, 1, 0)), (50, (.iload_n 2, 1, 2, 0, 0, 0, 0)), (51, (.ishl, 1, 0, 0, 0, 0, 0)), (52, (.ior, 1, 0, 0, 0, 0, 0)), (53, (.iastore, 1, 0, 0, 0, 0, 0)), (54, (.iinc 2 1, 3, 2, 0, 0, 1, 0)), (57, (.goto (-38), 3, 19, 0, 0, 0, 0)), (60, (.iinc 1 1, 3, 1, 0, 0, 1, 0)), (63, (.goto (-61), 3, 2, 0, 0, 0, 0))],
  [(66, (.iconst 0, 1, 0, 0, 0, 0, 0)), (67, (.istore_n 1, 1, 1, 0, 0, 0, 0)), (68, (.iconst 0, 1, 0, 0, 0, 0, 0)), (69, (.istore_n 2, 1, 2, 0, 0, 0, 0)), (70, (.iload_n 2, 1, 2, 0, 0, 0, 0)), (71, (.bipush 8, 2, 0, 0, 0, 8, 0)), (73, (.if_icmp .gt 51, 3, 124, 0, 0, 0, 0)), (76, (.iconst 0, 1, 0, 0, 0, 0, 0)), (77, (.istore_n 3, 1, 3, 0, 0, 0, 0)), (78, (.iload_n 3, 1, 3, 0, 0, 0, 0)), (79, (.aload_n 0, 1, 0, 0, 0, 0, 0)), (80, (.getfield 62, 3, 4, 1, 0, 256, 0)), (83, (.if_icmp .ge 35, 3, 118, 0, 0, 0, 0)), (86, (.aload_n 0, 1, 0, 0, 0, 0, 0)), (87, (.getfield 24, 3, 4, 8, 1, 54, 0)), (90, (.iload_n 3, 1, 3, 0, 0, 0, 0)), (91, (.iaload, 1, 0, 0, 0, 0, 0)), (92, (.iload_n 2, 1, 2, 0, 0, 0, 0)), (93, (.if_icmp .ne 19, 3, 112, 0, 0, 0, 0))],
  [(96, (.iload_n 1, 1, 1, 0, 0, 0, 0)), (97, (.bipush 12, 2, 0, 0, 0, 12, 0)), (99, (.if_icmp .ge 13, 3, 112, 0, 0, 0, 0)), (102, (.aload_n 0, 1, 0, 0, 0, 0, 0)), (103, (.getfield 33, 3, 4, 11, 1, 57, 0)), (106, (.iload_n 1, 1, 1, 0, 0, 0, 0)), (107, (.iload_n 3, 1, 3, 0, 0, 0, 0)), (108, (.iastore, 1, 0, 0, 0, 0, 0)), (109, (.iinc 1 1, 3, 1, 0, 0, 1, 0)), (112, (.iinc 3 1, 3, 3, 0, 0, 1, 0)), (115, (.goto (-37), 3, 78, 0, 0, 0, 0)), (118, (.iinc 2 1, 3, 2, 0, 0, 1, 0)), (121, (.goto (-51), 3, 70, 0, 0, 0, 0)), (124, (.return_, 1, 0, 0, 0, 0, 0))]]
def tX4_hasThing : List (List (Nat × E_)) := [[(0, (.iload_n 1, 1, 1, 0, 0, 0, 0)), (1, (.ifCond .lt 15, 3, 16, 0, 0, 0, 0)), (4, (.iload_n 1, 1, 1, 0, 0, 0, 0)), (5, (.aload_n 0, 1, 0, 0, 0, 0, 0)), (6, (.getfield 58, 3, 4, 0, 0, 255, 0)), (9, (.if_icmp .ge 7, 3, 16, 0, 0, 0, 0)), (12, (.iconst 1, 1, 0, 0, 0, 1, 0)), (13, (.goto 4, 3, 17, 0, 0, 0, 0)), (16, (.iconst 0, 1, 0, 0, 0, 0, 0)), (17, (.ireturn, 1, 0, 0, 1, 0, 0))]]
def tX4_hasMeaning : List (List (Nat × E_)) := [[(0, (.iload_n 1, 1, 1, 0, 0, 0, 0)), (1, (.ifCond .lt 15, 3, 16, 0, 0, 0, 0)), (4, (.iload_n 1, 1, 1, 0, 0, 0, 0)), (5, (.aload_n 0, 1, 0, 0, 0, 0, 0)), (6, (.getfield 62, 3, 4, 1, 0, 256, 0)), (9, (.if_icmp .ge 7, 3, 16, 0, 0, 0, 0)), (12, (.iconst 1, 1, 0, 0, 0, 1, 0)), (13, (.goto 4, 3, 17, 0, 0, 0, 0)), (16, (.iconst 0, 1, 0, 0, 0, 0, 0)), (17, (.ireturn, 1, 0, 0, 1, 0, 0))]]
def tX4_hasSound : List (List (Nat × E_)) := [[(0, (.iload_n 1, 1, 1, 0, 0, 0, 0)), (1, (.ifCond .lt 15, 3, 16, 0, 0, 0, 0)), (4, (.iload_n 1, 1, 1, 0, 0, 0, 0)), (5, (.aload_n 0, 1, 0, 0, 0, 0, 0)), (6, (.getfield 65, 3, 4, 2, 0, 257, 0)), (9, (.if_icmp .ge 7, 3, 16, 0, 0, 0, 0)), (12, (.iconst 1, 1, 0, 0, 0, 1, 0)), (13, (.goto 4, 3, 17, 0, 0, 0, 0)), (16, (.iconst 0, 1, 0, 0, 0, 0, 0)), (17, (.ireturn, 1, 0, 0, 1, 0, 0))]]
def tX4_hasKind : List (List (Nat × E_)) := [[(0, (.iload_n 1, 1, 1, 0, 0, 0, 0)), (1, (.ifCond .lt 15, 3, 16, 0, 0, 0, 0)), (4, (.iload_n 1, 1, 1, 0, 0, 0, 0)), (5, (.aload_n 0, 1, 0, 0, 0, 0, 0)), (6, (.getfield 68, 3, 4, 3, 0, 258, 0)), (9, (.if_icmp .ge 7, 3, 16, 0, 0, 0, 0)), (12, (.iconst 1, 1, 0, 0, 0, 1, 0)), (13, (.goto 4, 3, 17, 0, 0, 0, 0)), (16, (.iconst 0, 1, 0, 0, 0, 0, 0)), (17, (.ireturn, 1, 0, 0, 1, 0, 0))]]
def tX4_areKinds : List (List (Nat × E_)) := [[(0, (.iload_n 1, 1, 1, 0, 0, 0, 0)), (1, (.ifCond .lt 17, 3, 18, 0, 0, 0, 0)), (4, (.iload_n 1, 1, 1, 0, 0, 0, 0)), (5, (.iconst 1, 1, 0, 0, 0, 1, 0)), (6, (.aload_n 0, 1, 0, 0, 0, 0, 0)), (7, (.getfield 68, 3, 4, 3, 0, 258, 0)), (10, (.ishl, 1, 0, 0, 0, 0, 0)), (11, (.if_icmp .ge 7, 3, 18, 0, 0, 0, 0)), (14, (.iconst 1, 1, 0, 0, 0, 1, 0)), (15, (.goto 4, 3, 19, 0, 0, 0, 0)), (18, (.iconst 0, 1, 0, 0, 0, 0, 0)), (19, (.ireturn, 1, 0, 0, 1, 0, 0))]]
def tX4_allThings : List (List (Nat × E_)) := [[(0, (.iconst 1, 1, 0, 0, 0, 1, 0)), (1, (.aload_n 0, 1, 0, 0, 0, 0, 0)), (2, (.getfield 58, 3, 4, 0, 0, 255, 0)), (5, (.ishl, 1, 0, 0, 0, 0, 0)), (6, (.iconst 1, 1, 0, 0, 0, 1, 0)), (7, (.isub, 1, 0, 0, 0, 0, 0)), (8, (.ireturn, 1, 0, 0, 0, 0, 0))]]
def tX4_allMeanings : List (List (Nat × E_)) := [[(0, (.iconst 1, 1, 0, 0, 0, 1, 0)), (1, (.aload_n 0, 1, 0, 0, 0, 0, 0)), (2, (.getfield 62, 3, 4, 1, 0, 256, 0)), (5, (.ishl, 1, 0, 0, 0, 0, 0)), (6, (.iconst 1, 1, 0, 0, 0, 1, 0)), (7, (.isub, 1, 0, 0, 0, 0, 0)), (8, (.ireturn, 1, 0, 0, 0, 0, 0))]]
def tX4_allKinds : List (List (Nat × E_)) := [[(0, (.iconst 1, 1, 0, 0, 0, 1, 0)), (1, (.aload_n 0, 1, 0, 0, 0, 0, 0)), (2, (.getfield 68, 3, 4, 3, 0, 258, 0)), (5, (.ishl, 1, 0, 0, 0, 0, 0)), (6, (.iconst 1, 1, 0, 0, 0, 1, 0)), (7, (.isub, 1, 0, 0, 0, 0, 0)), (8, (.ireturn, 1, 0, 0, 0, 0, 0))]]
def tX4_plainest : List (List (Nat × E_)) := [[(0, (.iconst 0, 1, 0, 0, 0, 0, 0)), (1, (.istore_n 2, 1, 2, 0, 0, 0, 0)), (2, (.iload_n 2, 1, 2, 0, 0, 0, 0)), (3, (.aload_n 0, 1, 0, 0, 0, 0, 0)), (4, (.getfield 62, 3, 4, 1, 0, 256, 0)), (7, (.if_icmp .ge 29, 3, 36, 0, 0, 0, 0)), (10, (.aload_n 0, 1, 0, 0, 0, 0, 0)), (11, (.getfield 33, 3, 4, 11, 1, 57, 0)), (14, (.iload_n 2, 1, 2, 0, 0, 0, 0)), (15, (.iaload, 1, 0, 0, 0, 0, 0)), (16, (.iload_n 1, 1, 1, 0, 0, 0, 0)), (17, (.invokestatic 80, 3, 109, 34, 1, -2, 0)), (20, (.ifCond .eq 10, 3, 30, 0, 0, 0, 0)), (23, (.aload_n 0, 1, 0, 0, 0, 0, 0)), (24, (.getfield 33, 3, 4, 11, 1, 57, 0)), (27, (.iload_n 2, 1, 2, 0, 0, 0, 0)), (28, (.iaload, 1, 0, 0, 0, 0, 0)), (29, (.ireturn, 1, 0, 0, 0, 0, 0)), (30, (.iinc 2 1, 3, 2, 0, 0, 1, 0))],
  [(33, (.goto (-31), 3, 2, 0, 0, 0, 0)), (36, (.bipush (-4), 2, 0, 0, 0, (-4), 0)), (38, (.ireturn, 1, 0, 0, 0, 0, 0))]]
def tX4_fitting : List (List (Nat × E_)) := [[(0, (.aload_n 0, 1, 0, 0, 0, 0, 0)), (1, (.iload_n 1, 1, 1, 0, 0, 0, 0)), (2, (.invokevirtual 84, 3, 43, 4130, 1, 605, 0)), (5, (.ifCond .ne 5, 3, 10, 0, 0, 0, 0)), (8, (.iconst 0, 1, 0, 0, 0, 0, 0)), (9, (.ireturn, 1, 0, 0, 0, 0, 0)), (10, (.iload_n 2, 1, 2, 0, 0, 0, 0)), (11, (.ifCond .eq 12, 3, 23, 0, 0, 0, 0)), (14, (.aload_n 0, 1, 0, 0, 0, 0, 0)), (15, (.getfield 15, 3, 4, 5, 1, 51, 0)), (18, (.iload_n 1, 1, 1, 0, 0, 0, 0)), (19, (.iaload, 1, 0, 0, 0, 0, 0)), (20, (.goto 16, 3, 36, 0, 0, 0, 0)), (23, (.aload_n 0, 1, 0, 0, 0, 0, 0)), (24, (.invokevirtual 88, 3, 49, 4113, 1, 606, 0)), (27, (.aload_n 0, 1, 0, 0, 0, 0, 0)), (28, (.getfield 15, 3, 4, 5, 1, 51, 0)), (31, (.iload_n 1, 1, 1, 0, 0, 0, 0))],
  [(32, (.iaload, 1, 0, 0, 0, 0, 0)), (33, (.iconst (-1), 1, 0, 0, 0, (-1), 0)), (34, (.ixor, 1, 0, 0, 0, 0, 0)), (35, (.iand, 1, 0, 0, 0, 0, 0)), (36, (.ireturn, 1, 0, 0, 0, 0, 0))]]
def tX4_targetThings : List (List (Nat × E_)) := [[(0, (.aload_n 0, 1, 0, 0, 0, 0, 0)), (1, (.iload_n 1, 1, 1, 0, 0, 0, 0)), (2, (.invokevirtual 92, 3, 45, 4130, 1, 656, 0)), (5, (.ifCond .eq 30, 3, 35, 0, 0, 0, 0)), (8, (.aload_n 0, 1, 0, 0, 0, 0, 0)), (9, (.aload_n 0, 1, 0, 0, 0, 0, 0)), (10, (.getfield 36, 3, 4, 12, 1, 58, 0)), (13, (.iload_n 1, 1, 1, 0, 0, 0, 0)), (14, (.iaload, 1, 0, 0, 0, 0, 0)), (15, (.invokevirtual 95, 3, 44, 4130, 1, 657, 0)), (18, (.ifCond .eq 17, 3, 35, 0, 0, 0, 0)), (21, (.aload_n 0, 1, 0, 0, 0, 0, 0)), (22, (.getfield 27, 3, 4, 9, 1, 55, 0)), (25, (.aload_n 0, 1, 0, 0, 0, 0, 0)), (26, (.getfield 36, 3, 4, 12, 1, 58, 0)), (29, (.iload_n 1, 1, 1, 0, 0, 0, 0)), (30, (.iaload, 1, 0, 0, 0, 0, 0)), (31, (.iaload, 1, 0, 0, 0, 0, 0))],
  [(32, (.goto 4, 3, 36, 0, 0, 0, 0)), (35, (.iconst 0, 1, 0, 0, 0, 0, 0)), (36, (.ireturn, 1, 0, 0, 0, 0, 0))]]
def tX4_likeTarget : List (List (Nat × E_)) := [[(0, (.aload_n 0, 1, 0, 0, 0, 0, 0)), (1, (.iload_n 1, 1, 1, 0, 0, 0, 0)), (2, (.invokevirtual 92, 3, 45, 4130, 1, 656, 0)), (5, (.ifCond .eq 30, 3, 35, 0, 0, 0, 0)), (8, (.aload_n 0, 1, 0, 0, 0, 0, 0)), (9, (.aload_n 0, 1, 0, 0, 0, 0, 0)), (10, (.getfield 36, 3, 4, 12, 1, 58, 0)), (13, (.iload_n 1, 1, 1, 0, 0, 0, 0)), (14, (.iaload, 1, 0, 0, 0, 0, 0)), (15, (.invokevirtual 95, 3, 44, 4130, 1, 657, 0)), (18, (.ifCond .eq 17, 3, 35, 0, 0, 0, 0)), (21, (.aload_n 0, 1, 0, 0, 0, 0, 0)), (22, (.getfield 30, 3, 4, 10, 1, 56, 0)), (25, (.aload_n 0, 1, 0, 0, 0, 0, 0)), (26, (.getfield 36, 3, 4, 12, 1, 58, 0)), (29, (.iload_n 1, 1, 1, 0, 0, 0, 0)), (30, (.iaload, 1, 0, 0, 0, 0, 0)), (31, (.iaload, 1, 0, 0, 0, 0, 0))],
  [(32, (.goto 4, 3, 36, 0, 0, 0, 0)), (35, (.iconst 0, 1, 0, 0, 0, 0, 0)), (36, (.ireturn, 1, 0, 0, 0, 0, 0))]]
def tX4_isTarget : List (List (Nat × E_)) := [[(0, (.iload_n 2, 1, 2, 0, 0, 0, 0)), (1, (.aload_n 0, 1, 0, 0, 0, 0, 0)), (2, (.iload_n 1, 1, 1, 0, 0, 0, 0)), (3, (.invokevirtual 98, 3, 53, 4130, 1, 652, 0)), (6, (.invokestatic 80, 3, 109, 34, 1, -2, 0)), (9, (.ireturn, 1, 0, 0, 1, 0, 0))]]
def tX4_kindsThatCan : List (List (Nat × E_)) := [[(0, (.iconst 0, 1, 0, 0, 0, 0, 0)), (1, (.istore_n 2, 1, 2, 0, 0, 0, 0)), (2, (.iconst 0, 1, 0, 0, 0, 0, 0)), (3, (.istore_n 3, 1, 3, 0, 0, 0, 0)), (4, (.iload_n 3, 1, 3, 0, 0, 0, 0)), (5, (.aload_n 0, 1, 0, 0, 0, 0, 0)), (6, (.getfield 68, 3, 4, 3, 0, 258, 0)), (9, (.if_icmp .ge 28, 3, 37, 0, 0, 0, 0)), (12, (.iload_n 1, 1, 1, 0, 0, 0, 0)), (13, (.aload_n 0, 1, 0, 0, 0, 0, 0)), (14, (.getfield 55, 3, 4, 18, 1, 65, 0)), (17, (.iload_n 3, 1, 3, 0, 0, 0, 0)), (18, (.iaload, 1, 0, 0, 0, 0, 0)), (19, (.invokestatic 80, 3, 109, 34, 1, -2, 0)), (22, (.ifCond .eq 9, 3, 31, 0, 0, 0, 0)), (25, (.iload_n 2, 1, 2, 0, 0, 0, 0)), (26, (.iconst 1, 1, 0, 0, 0, 1, 0)), (27, (.iload_n 3, 1, 3, 0, 0, 0, 0)), (28, (.ishl, 1, 0, 0, 0, 0, 0)), (29, (.ior, 1, 0, 0, 0, 0, 0)), (30, (.istore_n 2, 1, 2, 0, 0, 0, 0)), (31, (.iinc 3 1, 3, 3, 0, 0, 1, 0))],
  [(34, (.goto (-30), 3, 4, 0, 0, 0, 0)), (37, (.iload_n 2, 1, 2, 0, 0, 0, 0)), (38, (.ireturn, 1, 0, 0, 0, 0, 0))]]
def tX4_kindsWithChance : List (List (Nat × E_)) := [[(0, (.iconst 0, 1, 0, 0, 0, 0, 0)), (1, (.istore_n 1, 1, 1, 0, 0, 0, 0)), (2, (.iconst 0, 1, 0, 0, 0, 0, 0)), (3, (.istore_n 2, 1, 2, 0, 0, 0, 0)), (4, (.iload_n 2, 1, 2, 0, 0, 0, 0)), (5, (.aload_n 0, 1, 0, 0, 0, 0, 0)), (6, (.getfield 68, 3, 4, 3, 0, 258, 0)), (9, (.if_icmp .ge 24, 3, 33, 0, 0, 0, 0)), (12, (.aload_n 0, 1, 0, 0, 0, 0, 0)), (13, (.getfield 52, 3, 4, 17, 1, 64, 0)), (16, (.iload_n 2, 1, 2, 0, 0, 0, 0)), (17, (.iaload, 1, 0, 0, 0, 0, 0)), (18, (.ifCond .le 9, 3, 27, 0, 0, 0, 0)), (21, (.iload_n 1, 1, 1, 0, 0, 0, 0)), (22, (.iconst 1, 1, 0, 0, 0, 1, 0)), (23, (.iload_n 2, 1, 2, 0, 0, 0, 0)), (24, (.ishl, 1, 0, 0, 0, 0, 0)), (25, (.ior, 1, 0, 0, 0, 0, 0)), (26, (.istore_n 1, 1, 1, 0, 0, 0, 0)), (27, (.iinc 2 1, 3, 2, 0, 0, 1, 0)), (30, (.goto (-26), 3, 4, 0, 0, 0, 0))],
  [(33, (.iload_n 1, 1, 1, 0, 0, 0, 0)), (34, (.ireturn, 1, 0, 0, 0, 0, 0))]]
def tX4_chances : List (List (Nat × E_)) := [[(0, (.iconst 0, 1, 0, 0, 0, 0, 0)), (1, (.istore_n 2, 1, 2, 0, 0, 0, 0)), (2, (.iconst 0, 1, 0, 0, 0, 0, 0)), (3, (.istore_n 3, 1, 3, 0, 0, 0, 0)), (4, (.iload_n 3, 1, 3, 0, 0, 0, 0)), (5, (.aload_n 0, 1, 0, 0, 0, 0, 0)), (6, (.getfield 68, 3, 4, 3, 0, 258, 0)), (9, (.if_icmp .ge 26, 3, 35, 0, 0, 0, 0)), (12, (.iload_n 3, 1, 3, 0, 0, 0, 0)), (13, (.iload_n 1, 1, 1, 0, 0, 0, 0)), (14, (.invokestatic 80, 3, 109, 34, 1, -2, 0)), (17, (.ifCond .eq 12, 3, 29, 0, 0, 0, 0)), (20, (.iload_n 2, 1, 2, 0, 0, 0, 0)), (21, (.aload_n 0, 1, 0, 0, 0, 0, 0)), (22, (.getfield 52, 3, 4, 17, 1, 64, 0)), (25, (.iload_n 3, 1, 3, 0, 0, 0, 0)), (26, (.iaload, 1, 0, 0, 0, 0, 0)), (27, (.iadd, 1, 0, 0, 0, 0, 0)), (28, (.istore_n 2, 1, 2, 0, 0, 0, 0)), (29, (.iinc 3 1, 3, 3, 0, 0, 1, 0))],
  [(32, (.goto (-28), 3, 4, 0, 0, 0, 0)), (35, (.iload_n 2, 1, 2, 0, 0, 0, 0)), (36, (.ireturn, 1, 0, 0, 0, 0, 0))]]
def tX4_fearedBy : List (List (Nat × E_)) := [[(0, (.iconst 0, 1, 0, 0, 0, 0, 0)), (1, (.istore_n 2, 1, 2, 0, 0, 0, 0)), (2, (.iconst 0, 1, 0, 0, 0, 0, 0)), (3, (.istore_n 3, 1, 3, 0, 0, 0, 0)), (4, (.iload_n 3, 1, 3, 0, 0, 0, 0)), (5, (.aload_n 0, 1, 0, 0, 0, 0, 0)), (6, (.getfield 68, 3, 4, 3, 0, 258, 0)), (9, (.if_icmp .ge 41, 3, 50, 0, 0, 0, 0)), (12, (.iload_n 3, 1, 3, 0, 0, 0, 0)), (13, (.iload_n 1, 1, 1, 0, 0, 0, 0)), (14, (.invokestatic 80, 3, 109, 34, 1, -2, 0)), (17, (.ifCond .eq 27, 3, 44, 0, 0, 0, 0)), (20, (.aload_n 0, 1, 0, 0, 0, 0, 0)), (21, (.aload_n 0, 1, 0, 0, 0, 0, 0)), (22, (.getfield 45, 3, 4, 15, 1, 61, 0)), (25, (.iload_n 3, 1, 3, 0, 0, 0, 0)), (26, (.iaload, 1, 0, 0, 0, 0, 0)), (27, (.invokevirtual 84, 3, 43, 4130, 1, 605, 0)), (30, (.ifCond .eq 14, 3, 44, 0, 0, 0, 0))],
  [(33, (.iload_n 2, 1, 2, 0, 0, 0, 0)), (34, (.iconst 1, 1, 0, 0, 0, 1, 0)), (35, (.aload_n 0, 1, 0, 0, 0, 0, 0)), (36, (.getfield 45, 3, 4, 15, 1, 61, 0)), (39, (.iload_n 3, 1, 3, 0, 0, 0, 0)), (40, (.iaload, 1, 0, 0, 0, 0, 0)), (41, (.ishl, 1, 0, 0, 0, 0, 0)), (42, (.ior, 1, 0, 0, 0, 0, 0)), (43, (.istore_n 2, 1, 2, 0, 0, 0, 0)), (44, (.iinc 3 1, 3, 3, 0, 0, 1, 0)), (47, (.goto (-43), 3, 4, 0, 0, 0, 0)), (50, (.iload_n 2, 1, 2, 0, 0, 0, 0)), (51, (.ireturn, 1, 0, 0, 0, 0, 0))]]
def tX5_findRow : List (List (Nat × E_)) := [[(0, (.aload_n 1, 1, 1, 0, 0, 0, 0)), (1, (.aload_n 2, 1, 2, 0, 0, 0, 0)), (2, (.iload_n 3, 1, 3, 0, 0, 0, 0)), (3, (.iload 4, 2, 4, 0, 0, 0, 0)), (5, (.invokestatic 31, 3, 61, 100, 1, 797, 0)), (8, (.ifCond .eq 5, 3, 13, 0, 0, 0, 0)), (11, (.iconst 0, 1, 0, 0, 0, 0, 0)), (12, (.ireturn, 1, 0, 0, 1, 0, 0)), (13, (.aload_n 0, 1, 0, 0, 0, 0, 0)), (14, (.iload_n 3, 1, 3, 0, 0, 0, 0)), (15, (.putfield 35, 3, 5, 7, 0, 793, 0)), (18, (.aload_n 0, 1, 0, 0, 0, 0, 0)), (19, (.iload 4, 2, 4, 0, 0, 0, 0)), (21, (.putfield 39, 3, 5, 8, 0, 794, 0)), (24, (.aload_n 0, 1, 0, 0, 0, 0, 0)), (25, (.aload_n 1, 1, 1, 0, 0, 0, 0)), (26, (.iload_n 3, 1, 3, 0, 0, 0, 0)), (27, (.invokestatic 42, 3, 62, 114, 1, 805, 0)), (30, (.putfield 46, 3, 5, 9, 0, 795, 0))],
  [(33, (.aload_n 0, 1, 0, 0, 0, 0, 0)), (34, (.getfield 23, 3, 5, 5, 1, 92, 0)), (37, (.iconst 0, 1, 0, 0, 0, 0, 0)), (38, (.aaload, 1, 0, 0, 0, 0, 0)), (39, (.aload_n 2, 1, 2, 0, 0, 0, 0)), (40, (.invokevirtual 49, 3, 1, 34, 0, 814, 0)), (43, (.iconst 0, 1, 0, 0, 0, 0, 0)), (44, (.istore 6, 2, 6, 0, 0, 0, 0)), (46, (.iload 6, 2, 6, 0, 0, 0, 0)), (48, (.iload 5, 2, 5, 0, 0, 0, 0)), (50, (.if_icmp .gt 32, 3, 82, 0, 0, 0, 0)), (53, (.iload 6, 2, 6, 0, 0, 0, 0)), (55, (.iconst 5, 1, 0, 0, 0, 5, 0)), (56, (.if_icmp .gt 26, 3, 82, 0, 0, 0, 0)), (59, (.aload_n 0, 1, 0, 0, 0, 0, 0)), (60, (.iload 6, 2, 6, 0, 0, 0, 0)), (62, (.putfield 53, 3, 5, 1, 0, 796, 0))],
  [(65, (.aload_n 0, 1, 0, 0, 0, 0, 0)), (66, (.aload_n 1, 1, 1, 0, 0, 0, 0)), (67, (.iconst 0, 1, 0, 0, 0, 0, 0)), (68, (.invokestatic 56, 3, 63, 83, 1, 822, 0)), (71, (.ifCond .eq 5, 3, 76, 0, 0, 0, 0)), (74, (.iconst 1, 1, 0, 0, 0, 1, 0)), (75, (.ireturn, 1, 0, 0, 1, 0, 0)), (76, (.iinc 6 1, 3, 6, 0, 0, 1, 0)), (79, (.goto (-33), 3, 46, 0, 0, 0, 0)), (82, (.iconst 0, 1, 0, 0, 0, 0, 0)), (83, (.ireturn, 1, 0, 0, 1, 0, 0))]]
def tX5_isHopeless : List (List (Nat × E_)) := [[(0, (.iconst 0, 1, 0, 0, 0, 0, 0)), (1, (.istore 4, 2, 4, 0, 0, 0, 0)), (3, (.iload 4, 2, 4, 0, 0, 0, 0)), (5, (.aload_n 0, 1, 0, 0, 0, 0, 0)), (6, (.getfield 60, 3, 4, 3, 0, 800, 0)), (9, (.if_icmp .ge 75, 3, 84, 0, 0, 0, 0)), (12, (.iload 4, 2, 4, 0, 0, 0, 0)), (14, (.iload_n 2, 1, 2, 0, 0, 0, 0)), (15, (.invokestatic 63, 3, 109, 34, 1, -4, 0)), (18, (.ifCond .ne 6, 3, 24, 0, 0, 0, 0)), (21, (.goto 57, 3, 78, 0, 0, 0, 0)), (24, (.aload_n 1, 1, 1, 0, 0, 0, 0)), (25, (.aload_n 0, 1, 0, 0, 0, 0, 0)), (26, (.iload 4, 2, 4, 0, 0, 0, 0)), (28, (.iload_n 3, 1, 3, 0, 0, 0, 0)), (29, (.invokevirtual 67, 3, 8, 68, 1, 802, 0))],
  [(32, (.ifCond .ne 20, 3, 52, 0, 0, 0, 0)), (35, (.aload_n 1, 1, 1, 0, 0, 0, 0)), (36, (.aload_n 0, 1, 0, 0, 0, 0, 0)), (37, (.iload 4, 2, 4, 0, 0, 0, 0)), (39, (.iload_n 3, 1, 3, 0, 0, 0, 0)), (40, (.invokevirtual 71, 3, 6, 116, 1, 803, 0)), (43, (.aload_n 0, 1, 0, 0, 0, 0, 0)), (44, (.iload_n 3, 1, 3, 0, 0, 0, 0)), (45, (.invokevirtual 75, 3, 54, 4130, 1, 804, 0)), (48, (.iand, 1, 0, 0, 0, 0, 0)), (49, (.ifCond .eq 7, 3, 56, 0, 0, 0, 0)), (52, (.iconst 1, 1, 0, 0, 0, 1, 0)), (53, (.goto 4, 3, 57, 0, 0, 0, 0)), (56, (.iconst 0, 1, 0, 0, 0, 0, 0)), (57, (.istore 5, 2, 5, 0, 0, 0, 0)), (59, (.aload_n 1, 1, 1, 0, 0, 0, 0)), (60, (.getfield 79, 3, 0, 4, 1, 801, 0)), (63, (.iload 4, 2, 4, 0, 0, 0, 0))],
  [(65, (.iaload, 1, 0, 0, 0, 0, 0)), (66, (.bipush (-4), 2, 0, 0, 0, (-4), 0)), (68, (.if_icmp .ne 8, 3, 76, 0, 0, 0, 0)), (71, (.iload 5, 2, 5, 0, 0, 0, 0)), (73, (.ifCond .ne 5, 3, 78, 0, 0, 0, 0)), (76, (.iconst 1, 1, 0, 0, 0, 1, 0)), (77, (.ireturn, 1, 0, 0, 1, 0, 0)), (78, (.iinc 4 1, 3, 4, 0, 0, 1, 0)), (81, (.goto (-78), 3, 3, 0, 0, 0, 0)), (84, (.iconst 0, 1, 0, 0, 0, 0, 0)), (85, (.ireturn, 1, 0, 0, 1, 0, 0))]]
def tX5_thingsWorthShowing : List (List (Nat × E_)) := [[(0, (.aload_n 0, 1, 0, 0, 0, 0, 0)), (1, (.iload_n 1, 1, 1, 0, 0, 0, 0)), (2, (.invokevirtual 82, 3, 59, 4162, 1, 810, 0)), (5, (.istore_n 2, 1, 2, 0, 0, 0, 0)), (6, (.iconst 0, 1, 0, 0, 0, 0, 0)), (7, (.istore_n 3, 1, 3, 0, 0, 0, 0)), (8, (.iconst 0, 1, 0, 0, 0, 0, 0)), (9, (.istore 4, 2, 4, 0, 0, 0, 0)), (11, (.iload 4, 2, 4, 0, 0, 0, 0)), (13, (.aload_n 0, 1, 0, 0, 0, 0, 0)), (14, (.getfield 85, 3, 4, 0, 0, 808, 0)), (17, (.if_icmp .ge 82, 3, 99, 0, 0, 0, 0)), (20, (.iload 4, 2, 4, 0, 0, 0, 0)), (22, (.iload_n 2, 1, 2, 0, 0, 0, 0)), (23, (.invokestatic 63, 3, 109, 34, 1, -4, 0)), (26, (.ifCond .ne 7, 3, 33, 0, 0, 0, 0)), (29, (.iconst 1, 1, 0, 0, 0, 1, 0)), (30, (.goto 4, 3, 34, 0, 0, 0, 0))],
  [(33, (.iconst 0, 1, 0, 0, 0, 0, 0)), (34, (.istore 5, 2, 5, 0, 0, 0, 0)), (36, (.iconst 0, 1, 0, 0, 0, 0, 0)), (37, (.istore 6, 2, 6, 0, 0, 0, 0)), (39, (.iload 6, 2, 6, 0, 0, 0, 0)), (41, (.iload 4, 2, 4, 0, 0, 0, 0)), (43, (.if_icmp .ge 38, 3, 81, 0, 0, 0, 0)), (46, (.iload 6, 2, 6, 0, 0, 0, 0)), (48, (.iload_n 3, 1, 3, 0, 0, 0, 0)), (49, (.invokestatic 63, 3, 109, 34, 1, -4, 0)), (52, (.ifCond .eq 23, 3, 75, 0, 0, 0, 0)), (55, (.aload_n 0, 1, 0, 0, 0, 0, 0)), (56, (.getfield 88, 3, 4, 5, 1, 809, 0)), (59, (.iload 6, 2, 6, 0, 0, 0, 0)), (61, (.iaload, 1, 0, 0, 0, 0, 0)), (62, (.aload_n 0, 1, 0, 0, 0, 0, 0)), (63, (.getfield 88, 3, 4, 5, 1, 809, 0))],
  [(66, (.iload 4, 2, 4, 0, 0, 0, 0)), (68, (.iaload, 1, 0, 0, 0, 0, 0)), (69, (.if_icmp .ne 6, 3, 75, 0, 0, 0, 0)), (72, (.iconst 0, 1, 0, 0, 0, 0, 0)), (73, (.istore 5, 2, 5, 0, 0, 0, 0)), (75, (.iinc 6 1, 3, 6, 0, 0, 1, 0)), (78, (.goto (-39), 3, 39, 0, 0, 0, 0)), (81, (.iload 5, 2, 5, 0, 0, 0, 0)), (83, (.ifCond .eq 10, 3, 93, 0, 0, 0, 0)), (86, (.iload_n 3, 1, 3, 0, 0, 0, 0)), (87, (.iconst 1, 1, 0, 0, 0, 1, 0)), (88, (.iload 4, 2, 4, 0, 0, 0, 0)), (90, (.ishl, 1, 0, 0, 0, 0, 0)), (91, (.ior, 1, 0, 0, 0, 0, 0)), (92, (.istore_n 3, 1, 3, 0, 0, 0, 0)), (93, (.iinc 4 1, 3, 4, 0, 0, 1, 0))],
  [(96, (.goto (-85), 3, 11, 0, 0, 0, 0)), (99, (.iload_n 3, 1, 3, 0, 0, 0, 0)), (100, (.ireturn, 1, 0, 0, 0, 0, 0))]]
def tX5_reaches : List (List (Nat × E_)) := [[(0, (.iload_n 2, 1, 2, 0, 0, 0, 0)), (1, (.aload_n 0, 1, 0, 0, 0, 0, 0)), (2, (.getfield 53, 3, 5, 1, 0, 796, 0)), (5, (.if_icmp .ge 8, 3, 13, 0, 0, 0, 0)), (8, (.iload_n 2, 1, 2, 0, 0, 0, 0)), (9, (.iconst 5, 1, 0, 0, 0, 5, 0)), (10, (.if_icmp .lt 22, 3, 32, 0, 0, 0, 0)), (13, (.aload_n 0, 1, 0, 0, 0, 0, 0)), (14, (.getfield 23, 3, 5, 5, 1, 92, 0)), (17, (.iload_n 2, 1, 2, 0, 0, 0, 0)), (18, (.aaload, 1, 0, 0, 0, 0, 0)), (19, (.aload_n 1, 1, 1, 0, 0, 0, 0)), (20, (.aload_n 0, 1, 0, 0, 0, 0, 0)), (21, (.getfield 35, 3, 5, 7, 0, 793, 0)), (24, (.aload_n 0, 1, 0, 0, 0, 0, 0)), (25, (.getfield 39, 3, 5, 8, 0, 794, 0)), (28, (.invokevirtual 91, 3, 9, 84, 1, 825, 0)), (31, (.ireturn, 1, 0, 0, 1, 0, 0))],
  [(32, (.iconst 0, 1, 0, 0, 0, 0, 0)), (33, (.istore_n 3, 1, 3, 0, 0, 0, 0)), (34, (.iload_n 3, 1, 3, 0, 0, 0, 0)), (35, (.aload_n 1, 1, 1, 0, 0, 0, 0)), (36, (.getfield 85, 3, 4, 0, 0, 808, 0)), (39, (.if_icmp .ge 91, 3, 130, 0, 0, 0, 0)), (42, (.iload_n 3, 1, 3, 0, 0, 0, 0)), (43, (.aload_n 0, 1, 0, 0, 0, 0, 0)), (44, (.getfield 46, 3, 5, 9, 0, 795, 0)), (47, (.invokestatic 63, 3, 109, 34, 1, -4, 0)), (50, (.ifCond .ne 6, 3, 56, 0, 0, 0, 0)), (53, (.goto 71, 3, 124, 0, 0, 0, 0)), (56, (.aload_n 0, 1, 0, 0, 0, 0, 0)), (57, (.getfield 23, 3, 5, 5, 1, 92, 0)), (60, (.iload_n 2, 1, 2, 0, 0, 0, 0)), (61, (.iconst 1, 1, 0, 0, 0, 1, 0)), (62, (.iadd, 1, 0, 0, 0, 0, 0)), (63, (.aaload, 1, 0, 0, 0, 0, 0))],
  [(64, (.astore 4, 2, 4, 0, 0, 0, 0)), (66, (.aload 4, 2, 4, 0, 0, 0, 0)), (68, (.aload_n 0, 1, 0, 0, 0, 0, 0)), (69, (.getfield 23, 3, 5, 5, 1, 92, 0)), (72, (.iload_n 2, 1, 2, 0, 0, 0, 0)), (73, (.aaload, 1, 0, 0, 0, 0, 0)), (74, (.invokevirtual 49, 3, 1, 34, 0, 814, 0)), (77, (.aload_n 0, 1, 0, 0, 0, 0, 0)), (78, (.getfield 9, 3, 5, 0, 1, 88, 0)), (81, (.iload_n 2, 1, 2, 0, 0, 0, 0)), (82, (.iload_n 3, 1, 3, 0, 0, 0, 0)), (83, (.iastore, 1, 0, 0, 0, 0, 0)), (84, (.aload 4, 2, 4, 0, 0, 0, 0)), (86, (.aload_n 1, 1, 1, 0, 0, 0, 0)), (87, (.aload_n 0, 1, 0, 0, 0, 0, 0)), (88, (.getfield 35, 3, 5, 7, 0, 793, 0)), (91, (.aload_n 0, 1, 0, 0, 0, 0, 0)), (92, (.getfield 39, 3, 5, 8, 0, 794, 0)), (95, (.iload_n 3, 1, 3, 0, 0, 0, 0))],
  [(96, (.aload_n 1, 1, 1, 0, 0, 0, 0)), (97, (.aload_n 0, 1, 0, 0, 0, 0, 0)), (98, (.getfield 39, 3, 5, 8, 0, 794, 0)), (101, (.iload_n 3, 1, 3, 0, 0, 0, 0)), (102, (.invokevirtual 94, 3, 55, 4147, 1, 826, 0)), (105, (.invokevirtual 97, 3, 2, 150, 1, 827, 0)), (108, (.ifCond .eq 16, 3, 124, 0, 0, 0, 0)), (111, (.aload_n 0, 1, 0, 0, 0, 0, 0)), (112, (.aload_n 1, 1, 1, 0, 0, 0, 0)), (113, (.iload_n 2, 1, 2, 0, 0, 0, 0)), (114, (.iconst 1, 1, 0, 0, 0, 1, 0)), (115, (.iadd, 1, 0, 0, 0, 0, 0)), (116, (.invokestatic 56, 3, 63, 83, 1, 822, 0)), (119, (.ifCond .eq 5, 3, 124, 0, 0, 0, 0)), (122, (.iconst 1, 1, 0, 0, 0, 1, 0)), (123, (.ireturn, 1, 0, 0, 1, 0, 0)), (124, (.iinc 3 1, 3, 3, 0, 0, 1, 0)), (127, (.goto (-93), 3, 34, 0, 0, 0, 0))],
  [(130, (.iconst 0, 1, 0, 0, 0, 0, 0)), (131, (.ireturn, 1, 0, 0, 1, 0, 0))]]
def tX5_forgetOrder : List (List (Nat × E_)) := [[(0, (.aload_n 0, 1, 0, 0, 0, 0, 0)), (1, (.sipush 1000, 3, 0, 0, 0, 1000, 0)), (4, (.putfield 101, 3, 5, 3, 0, 871, 0)), (7, (.aload_n 0, 1, 0, 0, 0, 0, 0)), (8, (.getfield 27, 3, 5, 6, 1, 93, 0)), (11, (.iconst 0, 1, 0, 0, 0, 0, 0)), (12, (.aaload, 1, 0, 0, 0, 0, 0)), (13, (.aload_n 1, 1, 1, 0, 0, 0, 0)), (14, (.invokevirtual 104, 3, 0, 50, 0, 872, 0)), (17, (.return_, 1, 0, 0, 0, 0, 0))]]
def tX5_hasOrder : List (List (Nat × E_)) := [[(0, (.aload_n 0, 1, 0, 0, 0, 0, 0)), (1, (.getfield 101, 3, 5, 3, 0, 871, 0)), (4, (.sipush 1000, 3, 0, 0, 0, 1000, 0)), (7, (.if_icmp .eq 7, 3, 14, 0, 0, 0, 0)), (10, (.iconst 1, 1, 0, 0, 0, 1, 0)), (11, (.goto 4, 3, 15, 0, 0, 0, 0)), (14, (.iconst 0, 1, 0, 0, 0, 0, 0)), (15, (.ireturn, 1, 0, 0, 1, 0, 0))]]
def tX5_tryOrders : List (List (Nat × E_)) := [[(0, (.iload_n 3, 1, 3, 0, 0, 0, 0)), (1, (.aload_n 1, 1, 1, 0, 0, 0, 0)), (2, (.getfield 108, 3, 4, 2, 0, 875, 0)), (5, (.if_icmp .ge 8, 3, 13, 0, 0, 0, 0)), (8, (.iload_n 3, 1, 3, 0, 0, 0, 0)), (9, (.iconst 4, 1, 0, 0, 0, 4, 0)), (10, (.if_icmp .lt 24, 3, 34, 0, 0, 0, 0)), (13, (.aload_n 0, 1, 0, 0, 0, 0, 0)), (14, (.iload 5, 2, 5, 0, 0, 0, 0)), (16, (.putfield 101, 3, 5, 3, 0, 871, 0)), (19, (.aload_n 0, 1, 0, 0, 0, 0, 0)), (20, (.getfield 18, 3, 5, 4, 1, 90, 0)), (23, (.iconst 0, 1, 0, 0, 0, 0, 0)), (24, (.aload_n 0, 1, 0, 0, 0, 0, 0)), (25, (.getfield 15, 3, 5, 2, 1, 89, 0)), (28, (.iconst 0, 1, 0, 0, 0, 0, 0)), (29, (.iconst 4, 1, 0, 0, 0, 4, 0)), (30, (.invokestatic 111, 3, 1000, 261, 0, 876, 0))],
  [(33, (.return_, 1, 0, 0, 0, 0, 0)), (34, (.iconst 0, 1, 0, 0, 0, 0, 0)), (35, (.istore 6, 2, 6, 0, 0, 0, 0)), (37, (.iload 6, 2, 6, 0, 0, 0, 0)), (39, (.aload_n 1, 1, 1, 0, 0, 0, 0)), (40, (.getfield 108, 3, 4, 2, 0, 875, 0)), (43, (.if_icmp .ge 104, 3, 147, 0, 0, 0, 0)), (46, (.iload 6, 2, 6, 0, 0, 0, 0)), (48, (.iload 4, 2, 4, 0, 0, 0, 0)), (50, (.invokestatic 63, 3, 109, 34, 1, -4, 0)), (53, (.ifCond .ne 88, 3, 141, 0, 0, 0, 0)), (56, (.aload_n 0, 1, 0, 0, 0, 0, 0)), (57, (.aload_n 1, 1, 1, 0, 0, 0, 0)), (58, (.aload_n 0, 1, 0, 0, 0, 0, 0)), (59, (.getfield 27, 3, 5, 6, 1, 93, 0)), (62, (.iload_n 3, 1, 3, 0, 0, 0, 0)), (63, (.aaload, 1, 0, 0, 0, 0, 0))],
  [(64, (.iload_n 2, 1, 2, 0, 0, 0, 0)), (65, (.iload 6, 2, 6, 0, 0, 0, 0)), (67, (.iconst 3, 1, 0, 0, 0, 3, 0)), (68, (.invokevirtual 117, 3, 60, 5238, 1, 877, 0)), (71, (.ifCond .ne 6, 3, 77, 0, 0, 0, 0)), (74, (.goto 67, 3, 141, 0, 0, 0, 0)), (77, (.iload 5, 2, 5, 0, 0, 0, 0)), (79, (.aload_n 0, 1, 0, 0, 0, 0, 0)), (80, (.getfield 53, 3, 5, 1, 0, 796, 0)), (83, (.iadd, 1, 0, 0, 0, 0, 0)), (84, (.istore 7, 2, 7, 0, 0, 0, 0)), (86, (.iload 7, 2, 7, 0, 0, 0, 0)), (88, (.aload_n 0, 1, 0, 0, 0, 0, 0)), (89, (.getfield 101, 3, 5, 3, 0, 871, 0)), (92, (.if_icmp .ge 49, 3, 141, 0, 0, 0, 0)), (95, (.aload_n 0, 1, 0, 0, 0, 0, 0))],
  [(96, (.getfield 27, 3, 5, 6, 1, 93, 0)), (99, (.iload_n 3, 1, 3, 0, 0, 0, 0)), (100, (.iconst 1, 1, 0, 0, 0, 1, 0)), (101, (.iadd, 1, 0, 0, 0, 0, 0)), (102, (.aaload, 1, 0, 0, 0, 0, 0)), (103, (.aload_n 0, 1, 0, 0, 0, 0, 0)), (104, (.getfield 23, 3, 5, 5, 1, 92, 0)), (107, (.aload_n 0, 1, 0, 0, 0, 0, 0)), (108, (.getfield 53, 3, 5, 1, 0, 796, 0)), (111, (.aaload, 1, 0, 0, 0, 0, 0)), (112, (.invokevirtual 49, 3, 1, 34, 0, 814, 0)), (115, (.aload_n 0, 1, 0, 0, 0, 0, 0)), (116, (.getfield 18, 3, 5, 4, 1, 90, 0)), (119, (.iload_n 3, 1, 3, 0, 0, 0, 0)), (120, (.iload 6, 2, 6, 0, 0, 0, 0)), (122, (.iastore, 1, 0, 0, 0, 0, 0)), (123, (.aload_n 0, 1, 0, 0, 0, 0, 0)), (124, (.aload_n 1, 1, 1, 0, 0, 0, 0)), (125, (.iload_n 2, 1, 2, 0, 0, 0, 0)), (126, (.iload_n 3, 1, 3, 0, 0, 0, 0)), (127, (.iconst 1, 1, 0, 0, 0, 1, 0))],
  [(128, (.iadd, 1, 0, 0, 0, 0, 0)), (129, (.iload 4, 2, 4, 0, 0, 0, 0)), (131, (.iconst 1, 1, 0, 0, 0, 1, 0)), (132, (.iload 6, 2, 6, 0, 0, 0, 0)), (134, (.ishl, 1, 0, 0, 0, 0, 0)), (135, (.ior, 1, 0, 0, 0, 0, 0)), (136, (.iload 7, 2, 7, 0, 0, 0, 0)), (138, (.invokestatic 121, 3, 66, 134, 0, 878, 0)), (141, (.iinc 6 1, 3, 6, 0, 0, 1, 0)), (144, (.goto (-107), 3, 37, 0, 0, 0, 0)), (147, (.return_, 1, 0, 0, 0, 0, 0))]]
def tX6_feed : List (List (Nat × E_)) := [[(0, (.aload_n 0, 1, 0, 0, 0, 0, 0)), (1, (.getfield 10, 3, 6, 0, 51, 16, 0)), (4, (.getfield 61, 3, 3, 1, 0, 215, 0)), (7, (.sipush 392, 3, 0, 0, 0, 392, 0)), (10, (.if_icmp .le 6, 3, 16, 0, 0, 0, 0)), (13, (.bipush (-3), 2, 0, 0, 0, (-3), 0)), (15, (.ireturn, 1, 0, 0, 0, 0, 0)), (16, (.bipush 7, 2, 0, 0, 0, 7, 0)), (18, (.istore_n 3, 1, 3, 0, 0, 0, 0)), (19, (.iload_n 3, 1, 3, 0, 0, 0, 0)), (20, (.ifCond .lt 27, 3, 47, 0, 0, 0, 0)), (23, (.aload_n 0, 1, 0, 0, 0, 0, 0)), (24, (.getfield 10, 3, 6, 0, 51, 16, 0)), (27, (.lload_n 1, 1, 1, 0, 0, 0, 0)), (28, (.bipush 8, 2, 0, 0, 0, 8, 0)), (30, (.iload_n 3, 1, 3, 0, 0, 0, 0)), (31, (.imul, 1, 0, 0, 0, 0, 0))],
  [(32, (.lushr, 1, 0, 0, 0, 0, 0)), (33, (.l2i, 1, 0, 0, 0, 0, 0)), (34, (.sipush 255, 3, 0, 0, 0, 255, 0)), (37, (.iand, 1, 0, 0, 0, 0, 0)), (38, (.invokevirtual 65, 3, 20, 3106, 0, 216, 0)), (41, (.iinc 3 (-1), 3, 3, 0, 0, (-1), 0)), (44, (.goto (-25), 3, 19, 0, 0, 0, 0)), (47, (.aload_n 0, 1, 0, 0, 0, 0, 0)), (48, (.getfield 10, 3, 6, 0, 51, 16, 0)), (51, (.getfield 61, 3, 3, 1, 0, 215, 0)), (54, (.ireturn, 1, 0, 0, 0, 0, 0))]]
def tX6_end : List (List (Nat × E_)) := [[(0, (.iload_n 1, 1, 1, 0, 0, 0, 0)), (1, (.ifCond .lt 14, 3, 15, 0, 0, 0, 0)), (4, (.iload_n 1, 1, 1, 0, 0, 0, 0)), (5, (.aload_n 0, 1, 0, 0, 0, 0, 0)), (6, (.getfield 10, 3, 6, 0, 51, 16, 0)), (9, (.getfield 61, 3, 3, 1, 0, 215, 0)), (12, (.if_icmp .le 5, 3, 17, 0, 0, 0, 0)), (15, (.iconst (-1), 1, 0, 0, 0, (-1), 0)), (16, (.ireturn, 1, 0, 0, 0, 0, 0)), (17, (.aload_n 0, 1, 0, 0, 0, 0, 0)), (18, (.getfield 10, 3, 6, 0, 51, 16, 0)), (21, (.getfield 61, 3, 3, 1, 0, 215, 0)), (24, (.istore_n 2, 1, 2, 0, 0, 0, 0)), (25, (.aload_n 0, 1, 0, 0, 0, 0, 0)), (26, (.getfield 10, 3, 6, 0, 51, 16, 0)), (29, (.iload_n 1, 1, 1, 0, 0, 0, 0)), (30, (.putfield 61, 3, 3, 1, 0, 215, 0))],
  [(33, (.iload_n 2, 1, 2, 0, 0, 0, 0)), (34, (.ireturn, 1, 0, 0, 0, 0, 0))]]
def tX6_text : List (List (Nat × E_)) := [[(0, (.aload_n 0, 1, 0, 0, 0, 0, 0)), (1, (.getfield 10, 3, 6, 0, 51, 16, 0)), (4, (.aload_n 0, 1, 0, 0, 0, 0, 0)), (5, (.getfield 23, 3, 6, 2, 2, 21, 0)), (8, (.invokevirtual 69, 3, 21, 3122, 1, 242, 0)), (11, (.istore_n 1, 1, 1, 0, 0, 0, 0)), (12, (.aload_n 0, 1, 0, 0, 0, 0, 0)), (13, (.getfield 10, 3, 6, 0, 51, 16, 0)), (16, (.iconst 0, 1, 0, 0, 0, 0, 0)), (17, (.putfield 61, 3, 3, 1, 0, 215, 0)), (20, (.iload_n 1, 1, 1, 0, 0, 0, 0)), (21, (.ifCond .ne 14, 3, 35, 0, 0, 0, 0)), (24, (.bipush (-10), 2, 0, 0, 0, (-10), 0)), (26, (.aload_n 0, 1, 0, 0, 0, 0, 0)), (27, (.getfield 10, 3, 6, 0, 51, 16, 0)), (30, (.getfield 73, 3, 3, 3, 0, 239, 0))],
  [(33, (.isub, 1, 0, 0, 0, 0, 0)), (34, (.ireturn, 1, 0, 0, 0, 0, 0)), (35, (.aload_n 0, 1, 0, 0, 0, 0, 0)), (36, (.getfield 19, 3, 6, 1, 2, 20, 0)), (39, (.astore_n 2, 1, 2, 0, 0, 0, 0)), (40, (.aload_n 0, 1, 0, 0, 0, 0, 0)), (41, (.aload_n 0, 1, 0, 0, 0, 0, 0)), (42, (.getfield 23, 3, 6, 2, 2, 21, 0)), (45, (.putfield 19, 3, 6, 1, 2, 20, 0)), (48, (.aload_n 0, 1, 0, 0, 0, 0, 0)), (49, (.aload_n 2, 1, 2, 0, 0, 0, 0)), (50, (.putfield 23, 3, 6, 2, 2, 21, 0)), (53, (.iconst 0, 1, 0, 0, 0, 0, 0)), (54, (.istore_n 3, 1, 3, 0, 0, 0, 0)), (55, (.iload_n 3, 1, 3, 0, 0, 0, 0)), (56, (.iconst 2, 1, 0, 0, 0, 2, 0)), (57, (.if_icmp .ge 19, 3, 76, 0, 0, 0, 0)), (60, (.aload_n 0, 1, 0, 0, 0, 0, 0)), (61, (.getfield 33, 3, 6, 4, 1, 26, 0))],
  [(64, (.iload_n 3, 1, 3, 0, 0, 0, 0)), (65, (.aaload, 1, 0, 0, 0, 0, 0)), (66, (.iconst 0, 1, 0, 0, 0, 0, 0)), (67, (.putfield 76, 3, 1, 8, 1, 240, 0)), (70, (.iinc 3 1, 3, 3, 0, 0, 1, 0)), (73, (.goto (-18), 3, 55, 0, 0, 0, 0)), (76, (.aload_n 0, 1, 0, 0, 0, 0, 0)), (77, (.getfield 29, 3, 6, 3, 19, 25, 0)), (80, (.aload_n 0, 1, 0, 0, 0, 0, 0)), (81, (.getfield 19, 3, 6, 1, 2, 20, 0)), (84, (.invokevirtual 80, 3, 13, 1058, 0, 407, 0)), (87, (.aload_n 0, 1, 0, 0, 0, 0, 0)), (88, (.getfield 40, 3, 6, 5, 3, 30, 0)), (91, (.aload_n 0, 1, 0, 0, 0, 0, 0)), (92, (.getfield 19, 3, 6, 1, 2, 20, 0)), (95, (.invokevirtual 84, 3, 0, 50, 0, 418, 0))],
  [(98, (.aload_n 0, 1, 0, 0, 0, 0, 0)), (99, (.getfield 10, 3, 6, 0, 51, 16, 0)), (102, (.getfield 87, 3, 3, 4, 0, 241, 0)), (105, (.ireturn, 1, 0, 0, 0, 0, 0))]]
def tX6_fault : List (List (Nat × E_)) := [[(0, (.aload_n 0, 1, 0, 0, 0, 0, 0)), (1, (.getfield 10, 3, 6, 0, 51, 16, 0)), (4, (.getfield 90, 3, 3, 2, 0, 498, 0)), (7, (.ireturn, 1, 0, 0, 0, 0, 0))]]
def tX6_thing : List (List (Nat × E_)) := [[(0, (.aload_n 0, 1, 0, 0, 0, 0, 0)), (1, (.getfield 19, 3, 6, 1, 2, 20, 0)), (4, (.iload_n 1, 1, 1, 0, 0, 0, 0)), (5, (.invokevirtual 93, 3, 43, 4130, 1, 508, 0)), (8, (.ifCond .eq 15, 3, 23, 0, 0, 0, 0)), (11, (.aload_n 0, 1, 0, 0, 0, 0, 0)), (12, (.getfield 19, 3, 6, 1, 2, 20, 0)), (15, (.getfield 97, 3, 4, 4, 1, 507, 0)), (18, (.iload_n 1, 1, 1, 0, 0, 0, 0)), (19, (.iaload, 1, 0, 0, 0, 0, 0)), (20, (.goto 4, 3, 24, 0, 0, 0, 0)), (23, (.iconst (-1), 1, 0, 0, 0, (-1), 0)), (24, (.ireturn, 1, 0, 0, 0, 0, 0))]]
def tX6_meaning : List (List (Nat × E_)) := [[(0, (.aload_n 0, 1, 0, 0, 0, 0, 0)), (1, (.getfield 19, 3, 6, 1, 2, 20, 0)), (4, (.iload_n 1, 1, 1, 0, 0, 0, 0)), (5, (.invokevirtual 101, 3, 44, 4130, 1, 528, 0)), (8, (.ifCond .ne 5, 3, 13, 0, 0, 0, 0)), (11, (.iconst (-1), 1, 0, 0, 0, (-1), 0)), (12, (.ireturn, 1, 0, 0, 0, 0, 0)), (13, (.iload_n 2, 1, 2, 0, 0, 0, 0)), (14, (.tableswitch 83 0 4 #[34, 44, 54, 64, 74], 34, 1, 0, 0, 0, 0))],
  [(48, (.aload_n 0, 1, 0, 0, 0, 0, 0)), (49, (.getfield 19, 3, 6, 1, 2, 20, 0)), (52, (.getfield 104, 3, 4, 6, 1, 524, 0)), (55, (.iload_n 1, 1, 1, 0, 0, 0, 0)), (56, (.iaload, 1, 0, 0, 0, 0, 0)), (57, (.ireturn, 1, 0, 0, 0, 0, 0)), (58, (.aload_n 0, 1, 0, 0, 0, 0, 0)), (59, (.getfield 19, 3, 6, 1, 2, 20, 0)), (62, (.getfield 107, 3, 4, 7, 1, 525, 0))],
  [(65, (.iload_n 1, 1, 1, 0, 0, 0, 0)), (66, (.iaload, 1, 0, 0, 0, 0, 0)), (67, (.ireturn, 1, 0, 0, 0, 0, 0)), (68, (.aload_n 0, 1, 0, 0, 0, 0, 0)), (69, (.getfield 19, 3, 6, 1, 2, 20, 0)), (72, (.getfield 110, 3, 4, 8, 1, 526, 0)), (75, (.iload_n 1, 1, 1, 0, 0, 0, 0)), (76, (.iaload, 1, 0, 0, 0, 0, 0)), (77, (.ireturn, 1, 0, 0, 0, 0, 0)), (78, (.aload_n 0, 1, 0, 0, 0, 0, 0)), (79, (.getfield 19, 3, 6, 1, 2, 20, 0)), (82, (.getfield 113, 3, 4, 9, 1, 527, 0)), (85, (.iload_n 1, 1, 1, 0, 0, 0, 0)), (86, (.iaload, 1, 0, 0, 0, 0, 0)), (87, (.ireturn, 1, 0, 0, 0, 0, 0)), (88, (.aload_n 0, 1, 0, 0, 0, 0, 0)), (89, (.getfield 19, 3, 6, 1, 2, 20, 0)), (92, (.iload_n 1, 1, 1, 0, 0, 0, 0)), (93, (.invokevirtual 116, 3, 56, 4162, 1, 532, 0))],
  [(96, (.ireturn, 1, 0, 0, 0, 0, 0)), (97, (.iconst (-1), 1, 0, 0, 0, (-1), 0)), (98, (.ireturn, 1, 0, 0, 0, 0, 0))]]
def tX6_word : List (List (Nat × E_)) := [[(0, (.aload_n 0, 1, 0, 0, 0, 0, 0)), (1, (.getfield 19, 3, 6, 1, 2, 20, 0)), (4, (.iload_n 1, 1, 1, 0, 0, 0, 0)), (5, (.invokevirtual 120, 3, 45, 4130, 1, 545, 0)), (8, (.ifCond .eq 15, 3, 23, 0, 0, 0, 0)), (11, (.aload_n 0, 1, 0, 0, 0, 0, 0)), (12, (.getfield 19, 3, 6, 1, 2, 20, 0)), (15, (.getfield 123, 3, 4, 12, 1, 544, 0)), (18, (.iload_n 1, 1, 1, 0, 0, 0, 0)), (19, (.iaload, 1, 0, 0, 0, 0, 0)), (20, (.goto 4, 3, 24, 0, 0, 0, 0)), (23, (.iconst (-1), 1, 0, 0, 0, (-1), 0)), (24, (.ireturn, 1, 0, 0, 0, 0, 0))]]
def tX6_kind : List (List (Nat × E_)) := [[(0, (.aload_n 0, 1, 0, 0, 0, 0, 0)), (1, (.getfield 19, 3, 6, 1, 2, 20, 0)), (4, (.iload_n 1, 1, 1, 0, 0, 0, 0)), (5, (.invokevirtual 126, 3, 46, 4130, 1, 567, 0)), (8, (.ifCond .ne 5, 3, 13, 0, 0, 0, 0)), (11, (.iconst (-1), 1, 0, 0, 0, (-1), 0)), (12, (.ireturn, 1, 0, 0, 0, 0, 0)), (13, (.iload_n 2, 1, 2, 0, 0, 0, 0)), (14, (.tableswitch 106 0 5 #[38, 48, 58, 68, 86, 96], 38, 2, 0, 0, 0, 0))],
  [(52, (.aload_n 0, 1, 0, 0, 0, 0, 0)), (53, (.getfield 19, 3, 6, 1, 2, 20, 0)), (56, (.getfield 129, 3, 4, 13, 1, 561, 0)), (59, (.iload_n 1, 1, 1, 0, 0, 0, 0)), (60, (.iaload, 1, 0, 0, 0, 0, 0)), (61, (.ireturn, 1, 0, 0, 0, 0, 0)), (62, (.aload_n 0, 1, 0, 0, 0, 0, 0)), (63, (.getfield 19, 3, 6, 1, 2, 20, 0))],
  [(66, (.getfield 132, 3, 4, 14, 1, 562, 0)), (69, (.iload_n 1, 1, 1, 0, 0, 0, 0)), (70, (.iaload, 1, 0, 0, 0, 0, 0)), (71, (.ireturn, 1, 0, 0, 0, 0, 0)), (72, (.aload_n 0, 1, 0, 0, 0, 0, 0)), (73, (.getfield 19, 3, 6, 1, 2, 20, 0)), (76, (.getfield 135, 3, 4, 15, 1, 563, 0)), (79, (.iload_n 1, 1, 1, 0, 0, 0, 0)), (80, (.iaload, 1, 0, 0, 0, 0, 0)), (81, (.ireturn, 1, 0, 0, 0, 0, 0)), (82, (.aload_n 0, 1, 0, 0, 0, 0, 0)), (83, (.getfield 19, 3, 6, 1, 2, 20, 0)), (86, (.getfield 138, 3, 4, 16, 1, 564, 0)), (89, (.iload_n 1, 1, 1, 0, 0, 0, 0)), (90, (.baload, 1, 0, 0, 0, 0, 0)), (91, (.ifCond .eq 7, 3, 98, 0, 0, 0, 0)), (94, (.iconst 1, 1, 0, 0, 0, 1, 0)), (95, (.goto 4, 3, 99, 0, 0, 0, 0))],
  [(98, (.iconst 0, 1, 0, 0, 0, 0, 0)), (99, (.ireturn, 1, 0, 0, 0, 0, 0)), (100, (.aload_n 0, 1, 0, 0, 0, 0, 0)), (101, (.getfield 19, 3, 6, 1, 2, 20, 0)), (104, (.getfield 142, 3, 4, 17, 1, 565, 0)), (107, (.iload_n 1, 1, 1, 0, 0, 0, 0)), (108, (.iaload, 1, 0, 0, 0, 0, 0)), (109, (.ireturn, 1, 0, 0, 0, 0, 0)), (110, (.aload_n 0, 1, 0, 0, 0, 0, 0)), (111, (.getfield 19, 3, 6, 1, 2, 20, 0)), (114, (.getfield 145, 3, 4, 18, 1, 566, 0)), (117, (.iload_n 1, 1, 1, 0, 0, 0, 0)), (118, (.iaload, 1, 0, 0, 0, 0, 0)), (119, (.ireturn, 1, 0, 0, 0, 0, 0)), (120, (.iconst (-1), 1, 0, 0, 0, (-1), 0)), (121, (.ireturn, 1, 0, 0, 0, 0, 0))]]
def tX6_show : List (List (Nat × E_)) := [[(0, (.aload_n 0, 1, 0, 0, 0, 0, 0)), (1, (.getfield 19, 3, 6, 1, 2, 20, 0)), (4, (.iload_n 1, 1, 1, 0, 0, 0, 0)), (5, (.invokevirtual 120, 3, 45, 4130, 1, 545, 0)), (8, (.ifCond .eq 14, 3, 22, 0, 0, 0, 0)), (11, (.aload_n 0, 1, 0, 0, 0, 0, 0)), (12, (.getfield 19, 3, 6, 1, 2, 20, 0)), (15, (.iload_n 2, 1, 2, 0, 0, 0, 0)), (16, (.invokevirtual 93, 3, 43, 4130, 1, 508, 0)), (19, (.ifCond .ne 5, 3, 24, 0, 0, 0, 0)), (22, (.iconst (-1), 1, 0, 0, 0, (-1), 0)), (23, (.ireturn, 1, 0, 0, 0, 0, 0)), (24, (.aload_n 0, 1, 0, 0, 0, 0, 0)), (25, (.getfield 29, 3, 6, 3, 19, 25, 0)), (28, (.getfield 148, 3, 1, 0, 0, 584, 0)), (31, (.bipush 24, 2, 0, 0, 0, 24, 0))],
  [(33, (.if_icmp .lt 6, 3, 39, 0, 0, 0, 0)), (36, (.bipush (-3), 2, 0, 0, 0, (-3), 0)), (38, (.ireturn, 1, 0, 0, 0, 0, 0)), (39, (.aload_n 0, 1, 0, 0, 0, 0, 0)), (40, (.iload_n 1, 1, 1, 0, 0, 0, 0)), (41, (.iload_n 2, 1, 2, 0, 0, 0, 0)), (42, (.iload_n 3, 1, 3, 0, 0, 0, 0)), (43, (.invokevirtual 151, 3, 111, 6228, 0, 585, 0)), (46, (.aload_n 0, 1, 0, 0, 0, 0, 0)), (47, (.getfield 29, 3, 6, 3, 19, 25, 0)), (50, (.getfield 148, 3, 1, 0, 0, 584, 0)), (53, (.ireturn, 1, 0, 0, 0, 0, 0))]]
def tX6_teach : List (List (Nat × E_)) := [[(0, (.aload_n 0, 1, 0, 0, 0, 0, 0)), (1, (.iload_n 1, 1, 1, 0, 0, 0, 0)), (2, (.iload_n 2, 1, 2, 0, 0, 0, 0)), (3, (.aload_n 0, 1, 0, 0, 0, 0, 0)), (4, (.getfield 19, 3, 6, 1, 2, 20, 0)), (7, (.iload_n 1, 1, 1, 0, 0, 0, 0)), (8, (.iload_n 2, 1, 2, 0, 0, 0, 0)), (9, (.invokevirtual 155, 3, 55, 4147, 1, 648, 0)), (12, (.invokevirtual 159, 3, 75, 6212, 1, 658, 0)), (15, (.ireturn, 1, 0, 0, 0, 0, 0))]]
def tX6_undo : List (List (Nat × E_)) := [[(0, (.aload_n 0, 1, 0, 0, 0, 0, 0)), (1, (.getfield 29, 3, 6, 3, 19, 25, 0)), (4, (.getfield 148, 3, 1, 0, 0, 584, 0)), (7, (.ifCond .gt 6, 3, 13, 0, 0, 0, 0)), (10, (.bipush (-4), 2, 0, 0, 0, (-4), 0)), (12, (.ireturn, 1, 0, 0, 0, 0, 0)), (13, (.aload_n 0, 1, 0, 0, 0, 0, 0)), (14, (.getfield 29, 3, 6, 3, 19, 25, 0)), (17, (.dup, 1, 0, 0, 0, 0, 0)), (18, (.getfield 148, 3, 1, 0, 0, 584, 0)), (21, (.iconst 1, 1, 0, 0, 0, 1, 0)), (22, (.isub, 1, 0, 0, 0, 0, 0)), (23, (.putfield 148, 3, 1, 0, 0, 584, 0)), (26, (.aload_n 0, 1, 0, 0, 0, 0, 0)), (27, (.invokevirtual 163, 3, 112, 6177, 0, 675, 0)), (30, (.aload_n 0, 1, 0, 0, 0, 0, 0)), (31, (.getfield 29, 3, 6, 3, 19, 25, 0))],
  [(34, (.getfield 148, 3, 1, 0, 0, 584, 0)), (37, (.ireturn, 1, 0, 0, 0, 0, 0))]]
def tX6_clear : List (List (Nat × E_)) := [[(0, (.aload_n 0, 1, 0, 0, 0, 0, 0)), (1, (.getfield 29, 3, 6, 3, 19, 25, 0)), (4, (.getfield 148, 3, 1, 0, 0, 584, 0)), (7, (.istore_n 1, 1, 1, 0, 0, 0, 0)), (8, (.aload_n 0, 1, 0, 0, 0, 0, 0)), (9, (.getfield 29, 3, 6, 3, 19, 25, 0)), (12, (.iconst 0, 1, 0, 0, 0, 0, 0)), (13, (.putfield 148, 3, 1, 0, 0, 584, 0)), (16, (.aload_n 0, 1, 0, 0, 0, 0, 0)), (17, (.getfield 29, 3, 6, 3, 19, 25, 0)), (20, (.aload_n 0, 1, 0, 0, 0, 0, 0)), (21, (.getfield 19, 3, 6, 1, 2, 20, 0)), (24, (.invokevirtual 166, 3, 50, 4113, 1, 592, 0)), (27, (.putfield 170, 3, 1, 4, 0, 687, 0)), (30, (.aload_n 0, 1, 0, 0, 0, 0, 0)), (31, (.invokevirtual 163, 3, 112, 6177, 0, 675, 0))],
  [(34, (.iload_n 1, 1, 1, 0, 0, 0, 0)), (35, (.ireturn, 1, 0, 0, 0, 0, 0))]]
def tX6_shown : List (List (Nat × E_)) := [[(0, (.iload_n 1, 1, 1, 0, 0, 0, 0)), (1, (.ifCond .lt 20, 3, 21, 0, 0, 0, 0)), (4, (.iload_n 1, 1, 1, 0, 0, 0, 0)), (5, (.aload_n 0, 1, 0, 0, 0, 0, 0)), (6, (.getfield 29, 3, 6, 3, 19, 25, 0)), (9, (.getfield 148, 3, 1, 0, 0, 584, 0)), (12, (.if_icmp .ge 9, 3, 21, 0, 0, 0, 0)), (15, (.iload_n 1, 1, 1, 0, 0, 0, 0)), (16, (.bipush 24, 2, 0, 0, 0, 24, 0)), (18, (.if_icmp .lt 5, 3, 23, 0, 0, 0, 0)), (21, (.iconst (-1), 1, 0, 0, 0, (-1), 0)), (22, (.ireturn, 1, 0, 0, 0, 0, 0)), (23, (.iload_n 2, 1, 2, 0, 0, 0, 0)), (24, (.tableswitch 66 0 2 #[28, 38, 48], 28, 3, 0, 0, 0, 0))],
  [(52, (.aload_n 0, 1, 0, 0, 0, 0, 0)), (53, (.getfield 29, 3, 6, 3, 19, 25, 0)), (56, (.getfield 173, 3, 1, 1, 1, 589, 0)), (59, (.iload_n 1, 1, 1, 0, 0, 0, 0)), (60, (.iaload, 1, 0, 0, 0, 0, 0)), (61, (.ireturn, 1, 0, 0, 0, 0, 0)), (62, (.aload_n 0, 1, 0, 0, 0, 0, 0)), (63, (.getfield 29, 3, 6, 3, 19, 25, 0))],
  [(66, (.getfield 176, 3, 1, 2, 1, 590, 0)), (69, (.iload_n 1, 1, 1, 0, 0, 0, 0)), (70, (.iaload, 1, 0, 0, 0, 0, 0)), (71, (.ireturn, 1, 0, 0, 0, 0, 0)), (72, (.aload_n 0, 1, 0, 0, 0, 0, 0)), (73, (.getfield 29, 3, 6, 3, 19, 25, 0)), (76, (.getfield 179, 3, 1, 3, 1, 591, 0)), (79, (.iload_n 1, 1, 1, 0, 0, 0, 0)), (80, (.baload, 1, 0, 0, 0, 0, 0)), (81, (.ifCond .eq 7, 3, 88, 0, 0, 0, 0)), (84, (.iconst 1, 1, 0, 0, 0, 1, 0)), (85, (.goto 4, 3, 89, 0, 0, 0, 0)), (88, (.iconst 0, 1, 0, 0, 0, 0, 0)), (89, (.ireturn, 1, 0, 0, 0, 0, 0)), (90, (.iconst (-1), 1, 0, 0, 0, (-1), 0)), (91, (.ireturn, 1, 0, 0, 0, 0, 0))]]
def tX6_thinks : List (List (Nat × E_)) := [[(0, (.aload_n 0, 1, 0, 0, 0, 0, 0)), (1, (.getfield 19, 3, 6, 1, 2, 20, 0)), (4, (.iload_n 1, 1, 1, 0, 0, 0, 0)), (5, (.invokevirtual 126, 3, 46, 4130, 1, 567, 0)), (8, (.ifCond .eq 26, 3, 34, 0, 0, 0, 0)), (11, (.aload_n 0, 1, 0, 0, 0, 0, 0)), (12, (.getfield 19, 3, 6, 1, 2, 20, 0)), (15, (.iload_n 2, 1, 2, 0, 0, 0, 0)), (16, (.invokevirtual 120, 3, 45, 4130, 1, 545, 0)), (19, (.ifCond .eq 15, 3, 34, 0, 0, 0, 0)), (22, (.aload_n 0, 1, 0, 0, 0, 0, 0)), (23, (.getfield 40, 3, 6, 5, 3, 30, 0)), (26, (.iload_n 1, 1, 1, 0, 0, 0, 0)), (27, (.iload_n 2, 1, 2, 0, 0, 0, 0)), (28, (.invokevirtual 182, 3, 7, 67, 1, 705, 0)), (31, (.goto 4, 3, 35, 0, 0, 0, 0))],
  [(34, (.iconst (-1), 1, 0, 0, 0, (-1), 0)), (35, (.ireturn, 1, 0, 0, 0, 0, 0))]]
def tX6_fits : List (List (Nat × E_)) := [[(0, (.aload_n 0, 1, 0, 0, 0, 0, 0)), (1, (.getfield 19, 3, 6, 1, 2, 20, 0)), (4, (.iload_n 1, 1, 1, 0, 0, 0, 0)), (5, (.invokevirtual 126, 3, 46, 4130, 1, 567, 0)), (8, (.ifCond .eq 36, 3, 44, 0, 0, 0, 0)), (11, (.aload_n 0, 1, 0, 0, 0, 0, 0)), (12, (.getfield 19, 3, 6, 1, 2, 20, 0)), (15, (.iload_n 2, 1, 2, 0, 0, 0, 0)), (16, (.invokevirtual 120, 3, 45, 4130, 1, 545, 0)), (19, (.ifCond .eq 25, 3, 44, 0, 0, 0, 0)), (22, (.aload_n 0, 1, 0, 0, 0, 0, 0)), (23, (.getfield 40, 3, 6, 5, 3, 30, 0)), (26, (.getfield 186, 3, 0, 5, 1, 714, 0)), (29, (.iload_n 2, 1, 2, 0, 0, 0, 0)), (30, (.iaload, 1, 0, 0, 0, 0, 0)), (31, (.aload_n 0, 1, 0, 0, 0, 0, 0))],
  [(32, (.getfield 19, 3, 6, 1, 2, 20, 0)), (35, (.getfield 145, 3, 4, 18, 1, 566, 0)), (38, (.iload_n 1, 1, 1, 0, 0, 0, 0)), (39, (.iaload, 1, 0, 0, 0, 0, 0)), (40, (.iand, 1, 0, 0, 0, 0, 0)), (41, (.goto 4, 3, 45, 0, 0, 0, 0)), (44, (.iconst (-1), 1, 0, 0, 0, (-1), 0)), (45, (.ireturn, 1, 0, 0, 0, 0, 0))]]
def tX6_same : List (List (Nat × E_)) := [[(0, (.aload_n 0, 1, 0, 0, 0, 0, 0)), (1, (.getfield 19, 3, 6, 1, 2, 20, 0)), (4, (.iload_n 1, 1, 1, 0, 0, 0, 0)), (5, (.invokevirtual 126, 3, 46, 4130, 1, 567, 0)), (8, (.ifCond .eq 14, 3, 22, 0, 0, 0, 0)), (11, (.aload_n 0, 1, 0, 0, 0, 0, 0)), (12, (.getfield 19, 3, 6, 1, 2, 20, 0)), (15, (.iload_n 2, 1, 2, 0, 0, 0, 0)), (16, (.invokevirtual 120, 3, 45, 4130, 1, 545, 0)), (19, (.ifCond .ne 5, 3, 24, 0, 0, 0, 0)), (22, (.iconst (-1), 1, 0, 0, 0, (-1), 0)), (23, (.ireturn, 1, 0, 0, 0, 0, 0)), (24, (.aload_n 0, 1, 0, 0, 0, 0, 0)), (25, (.getfield 40, 3, 6, 5, 3, 30, 0)), (28, (.aload_n 0, 1, 0, 0, 0, 0, 0)), (29, (.getfield 19, 3, 6, 1, 2, 20, 0))],
  [(32, (.iload_n 1, 1, 1, 0, 0, 0, 0)), (33, (.iload_n 2, 1, 2, 0, 0, 0, 0)), (34, (.invokevirtual 189, 3, 8, 68, 1, 723, 0)), (37, (.ifCond .eq 7, 3, 44, 0, 0, 0, 0)), (40, (.iconst 1, 1, 0, 0, 0, 1, 0)), (41, (.goto 4, 3, 45, 0, 0, 0, 0)), (44, (.iconst 0, 1, 0, 0, 0, 0, 0)), (45, (.ireturn, 1, 0, 0, 0, 0, 0))]]
def tX6_fled : List (List (Nat × E_)) := [[(0, (.aload_n 0, 1, 0, 0, 0, 0, 0)), (1, (.getfield 19, 3, 6, 1, 2, 20, 0)), (4, (.iload_n 1, 1, 1, 0, 0, 0, 0)), (5, (.invokevirtual 126, 3, 46, 4130, 1, 567, 0)), (8, (.ifCond .eq 15, 3, 23, 0, 0, 0, 0)), (11, (.aload_n 0, 1, 0, 0, 0, 0, 0)), (12, (.getfield 40, 3, 6, 5, 3, 30, 0)), (15, (.getfield 193, 3, 0, 4, 1, 743, 0)), (18, (.iload_n 1, 1, 1, 0, 0, 0, 0)), (19, (.iaload, 1, 0, 0, 0, 0, 0)), (20, (.goto 4, 3, 24, 0, 0, 0, 0)), (23, (.iconst (-1), 1, 0, 0, 0, (-1), 0)), (24, (.ireturn, 1, 0, 0, 0, 0, 0))]]
def tX6_against : List (List (Nat × E_)) := [[(0, (.aload_n 0, 1, 0, 0, 0, 0, 0)), (1, (.getfield 19, 3, 6, 1, 2, 20, 0)), (4, (.iload_n 1, 1, 1, 0, 0, 0, 0)), (5, (.invokevirtual 126, 3, 46, 4130, 1, 567, 0)), (8, (.ifCond .eq 30, 3, 38, 0, 0, 0, 0)), (11, (.aload_n 0, 1, 0, 0, 0, 0, 0)), (12, (.getfield 19, 3, 6, 1, 2, 20, 0)), (15, (.iload_n 2, 1, 2, 0, 0, 0, 0)), (16, (.invokevirtual 120, 3, 45, 4130, 1, 545, 0)), (19, (.ifCond .eq 19, 3, 38, 0, 0, 0, 0)), (22, (.aload_n 0, 1, 0, 0, 0, 0, 0)), (23, (.getfield 40, 3, 6, 5, 3, 30, 0)), (26, (.getfield 196, 3, 0, 2, 1, 752, 0)), (29, (.iload_n 1, 1, 1, 0, 0, 0, 0)), (30, (.iconst 4, 1, 0, 0, 0, 4, 0)), (31, (.imul, 1, 0, 0, 0, 0, 0))],
  [(32, (.iload_n 2, 1, 2, 0, 0, 0, 0)), (33, (.iadd, 1, 0, 0, 0, 0, 0)), (34, (.iaload, 1, 0, 0, 0, 0, 0)), (35, (.goto 4, 3, 39, 0, 0, 0, 0)), (38, (.iconst (-1), 1, 0, 0, 0, (-1), 0)), (39, (.ireturn, 1, 0, 0, 0, 0, 0))]]
def tX6_common : List (List (Nat × E_)) := [[(0, (.aload_n 0, 1, 0, 0, 0, 0, 0)), (1, (.getfield 19, 3, 6, 1, 2, 20, 0)), (4, (.iload_n 1, 1, 1, 0, 0, 0, 0)), (5, (.invokevirtual 199, 3, 47, 4130, 1, 762, 0)), (8, (.ifCond .ne 5, 3, 13, 0, 0, 0, 0)), (11, (.iconst (-1), 1, 0, 0, 0, (-1), 0)), (12, (.ireturn, 1, 0, 0, 0, 0, 0)), (13, (.iconst 0, 1, 0, 0, 0, 0, 0)), (14, (.istore_n 2, 1, 2, 0, 0, 0, 0)), (15, (.iconst 0, 1, 0, 0, 0, 0, 0)), (16, (.istore_n 3, 1, 3, 0, 0, 0, 0)), (17, (.iload_n 3, 1, 3, 0, 0, 0, 0)), (18, (.aload_n 0, 1, 0, 0, 0, 0, 0)), (19, (.getfield 19, 3, 6, 1, 2, 20, 0)), (22, (.getfield 202, 3, 4, 2, 0, 761, 0)), (25, (.if_icmp .ge 31, 3, 56, 0, 0, 0, 0)), (28, (.aload_n 0, 1, 0, 0, 0, 0, 0)), (29, (.getfield 40, 3, 6, 5, 3, 30, 0))],
  [(32, (.aload_n 0, 1, 0, 0, 0, 0, 0)), (33, (.getfield 19, 3, 6, 1, 2, 20, 0)), (36, (.iload_n 1, 1, 1, 0, 0, 0, 0)), (37, (.iload_n 3, 1, 3, 0, 0, 0, 0)), (38, (.invokevirtual 205, 3, 9, 84, 1, 766, 0)), (41, (.ifCond .eq 9, 3, 50, 0, 0, 0, 0)), (44, (.iload_n 2, 1, 2, 0, 0, 0, 0)), (45, (.iconst 1, 1, 0, 0, 0, 1, 0)), (46, (.iload_n 3, 1, 3, 0, 0, 0, 0)), (47, (.ishl, 1, 0, 0, 0, 0, 0)), (48, (.ior, 1, 0, 0, 0, 0, 0)), (49, (.istore_n 2, 1, 2, 0, 0, 0, 0)), (50, (.iinc 3 1, 3, 3, 0, 0, 1, 0)), (53, (.goto (-36), 3, 17, 0, 0, 0, 0)), (56, (.iload_n 2, 1, 2, 0, 0, 0, 0)), (57, (.ireturn, 1, 0, 0, 0, 0, 0))]]
def tX6_teaching : List (List (Nat × E_)) := [[(0, (.aload_n 0, 1, 0, 0, 0, 0, 0)), (1, (.getfield 19, 3, 6, 1, 2, 20, 0)), (4, (.iload_n 1, 1, 1, 0, 0, 0, 0)), (5, (.invokevirtual 199, 3, 47, 4130, 1, 762, 0)), (8, (.ifCond .eq 14, 3, 22, 0, 0, 0, 0)), (11, (.aload_n 0, 1, 0, 0, 0, 0, 0)), (12, (.getfield 19, 3, 6, 1, 2, 20, 0)), (15, (.iload_n 2, 1, 2, 0, 0, 0, 0)), (16, (.invokevirtual 120, 3, 45, 4130, 1, 545, 0)), (19, (.ifCond .ne 5, 3, 24, 0, 0, 0, 0)), (22, (.iconst (-1), 1, 0, 0, 0, (-1), 0)), (23, (.ireturn, 1, 0, 0, 0, 0, 0)), (24, (.iload_n 3, 1, 3, 0, 0, 0, 0)), (25, (.bipush 10, 2, 0, 0, 0, 10, 0)), (27, (.isub, 1, 0, 0, 0, 0, 0)), (28, (.istore 4, 2, 4, 0, 0, 0, 0)), (30, (.iload_n 3, 1, 3, 0, 0, 0, 0)), (31, (.ifCond .eq 17, 3, 48, 0, 0, 0, 0))],
  [(34, (.iload_n 3, 1, 3, 0, 0, 0, 0)), (35, (.bipush 10, 2, 0, 0, 0, 10, 0)), (37, (.if_icmp .lt 9, 3, 46, 0, 0, 0, 0)), (40, (.iload 4, 2, 4, 0, 0, 0, 0)), (42, (.iconst 5, 1, 0, 0, 0, 5, 0)), (43, (.if_icmp .lt 5, 3, 48, 0, 0, 0, 0)), (46, (.iconst (-1), 1, 0, 0, 0, (-1), 0)), (47, (.ireturn, 1, 0, 0, 0, 0, 0)), (48, (.aload_n 0, 1, 0, 0, 0, 0, 0)), (49, (.getfield 50, 3, 6, 7, 83, 35, 0)), (52, (.aload_n 0, 1, 0, 0, 0, 0, 0)), (53, (.getfield 19, 3, 6, 1, 2, 20, 0)), (56, (.aload_n 0, 1, 0, 0, 0, 0, 0)), (57, (.getfield 40, 3, 6, 5, 3, 30, 0)), (60, (.iload_n 1, 1, 1, 0, 0, 0, 0)), (61, (.iload_n 2, 1, 2, 0, 0, 0, 0)), (62, (.iconst 5, 1, 0, 0, 0, 5, 0)), (63, (.invokevirtual 208, 3, 60, 5238, 1, 789, 0))],
  [(66, (.istore 5, 2, 5, 0, 0, 0, 0)), (68, (.iload_n 3, 1, 3, 0, 0, 0, 0)), (69, (.ifCond .ne 21, 3, 90, 0, 0, 0, 0)), (72, (.iload 5, 2, 5, 0, 0, 0, 0)), (74, (.ifCond .eq 13, 3, 87, 0, 0, 0, 0)), (77, (.aload_n 0, 1, 0, 0, 0, 0, 0)), (78, (.getfield 50, 3, 6, 7, 83, 35, 0)), (81, (.getfield 212, 3, 5, 1, 0, 787, 0)), (84, (.goto 5, 3, 89, 0, 0, 0, 0)), (87, (.bipush (-4), 2, 0, 0, 0, (-4), 0)), (89, (.ireturn, 1, 0, 0, 0, 0, 0)), (90, (.iload 5, 2, 5, 0, 0, 0, 0)), (92, (.ifCond .eq 28, 3, 120, 0, 0, 0, 0)), (95, (.iload 4, 2, 4, 0, 0, 0, 0))],
  [(97, (.aload_n 0, 1, 0, 0, 0, 0, 0)), (98, (.getfield 50, 3, 6, 7, 83, 35, 0)), (101, (.getfield 212, 3, 5, 1, 0, 787, 0)), (104, (.if_icmp .ge 16, 3, 120, 0, 0, 0, 0)), (107, (.aload_n 0, 1, 0, 0, 0, 0, 0)), (108, (.getfield 50, 3, 6, 7, 83, 35, 0)), (111, (.getfield 213, 3, 5, 0, 1, 788, 0)), (114, (.iload 4, 2, 4, 0, 0, 0, 0)), (116, (.iaload, 1, 0, 0, 0, 0, 0)), (117, (.goto 4, 3, 121, 0, 0, 0, 0)), (120, (.iconst (-1), 1, 0, 0, 0, (-1), 0)), (121, (.ireturn, 1, 0, 0, 0, 0, 0))]]
def tX6_never : List (List (Nat × E_)) := [[(0, (.aload_n 0, 1, 0, 0, 0, 0, 0)), (1, (.getfield 19, 3, 6, 1, 2, 20, 0)), (4, (.iload_n 1, 1, 1, 0, 0, 0, 0)), (5, (.invokevirtual 126, 3, 46, 4130, 1, 567, 0)), (8, (.ifCond .eq 14, 3, 22, 0, 0, 0, 0)), (11, (.aload_n 0, 1, 0, 0, 0, 0, 0)), (12, (.getfield 19, 3, 6, 1, 2, 20, 0)), (15, (.iload_n 2, 1, 2, 0, 0, 0, 0)), (16, (.invokevirtual 120, 3, 45, 4130, 1, 545, 0)), (19, (.ifCond .ne 5, 3, 24, 0, 0, 0, 0)), (22, (.iconst (-1), 1, 0, 0, 0, (-1), 0)), (23, (.ireturn, 1, 0, 0, 0, 0, 0)), (24, (.aload_n 0, 1, 0, 0, 0, 0, 0)), (25, (.getfield 19, 3, 6, 1, 2, 20, 0)), (28, (.getfield 145, 3, 4, 18, 1, 566, 0)), (31, (.iload_n 1, 1, 1, 0, 0, 0, 0))],
  [(32, (.iaload, 1, 0, 0, 0, 0, 0)), (33, (.aload_n 0, 1, 0, 0, 0, 0, 0)), (34, (.getfield 19, 3, 6, 1, 2, 20, 0)), (37, (.iload_n 2, 1, 2, 0, 0, 0, 0)), (38, (.invokevirtual 216, 3, 54, 4130, 1, 856, 0)), (41, (.iand, 1, 0, 0, 0, 0, 0)), (42, (.ifCond .ne 7, 3, 49, 0, 0, 0, 0)), (45, (.iconst 1, 1, 0, 0, 0, 1, 0)), (46, (.goto 4, 3, 50, 0, 0, 0, 0)), (49, (.iconst 0, 1, 0, 0, 0, 0, 0)), (50, (.ireturn, 1, 0, 0, 0, 0, 0))]]
def tX6_order : List (List (Nat × E_)) := [[(0, (.aload_n 0, 1, 0, 0, 0, 0, 0)), (1, (.getfield 19, 3, 6, 1, 2, 20, 0)), (4, (.iload_n 1, 1, 1, 0, 0, 0, 0)), (5, (.invokevirtual 199, 3, 47, 4130, 1, 762, 0)), (8, (.ifCond .ne 5, 3, 13, 0, 0, 0, 0)), (11, (.iconst (-1), 1, 0, 0, 0, (-1), 0)), (12, (.ireturn, 1, 0, 0, 0, 0, 0)), (13, (.iload_n 2, 1, 2, 0, 0, 0, 0)), (14, (.bipush 10, 2, 0, 0, 0, 10, 0)), (16, (.isub, 1, 0, 0, 0, 0, 0)), (17, (.istore_n 3, 1, 3, 0, 0, 0, 0)), (18, (.iload_n 2, 1, 2, 0, 0, 0, 0)), (19, (.ifCond .eq 22, 3, 41, 0, 0, 0, 0)), (22, (.iload_n 2, 1, 2, 0, 0, 0, 0)), (23, (.bipush 10, 2, 0, 0, 0, 10, 0)), (25, (.if_icmp .lt 14, 3, 39, 0, 0, 0, 0)), (28, (.iload_n 3, 1, 3, 0, 0, 0, 0)), (29, (.aload_n 0, 1, 0, 0, 0, 0, 0)), (30, (.getfield 19, 3, 6, 1, 2, 20, 0))],
  [(33, (.getfield 202, 3, 4, 2, 0, 761, 0)), (36, (.if_icmp .lt 5, 3, 41, 0, 0, 0, 0)), (39, (.iconst (-1), 1, 0, 0, 0, (-1), 0)), (40, (.ireturn, 1, 0, 0, 0, 0, 0)), (41, (.aload_n 0, 1, 0, 0, 0, 0, 0)), (42, (.getfield 50, 3, 6, 7, 83, 35, 0)), (45, (.aload_n 0, 1, 0, 0, 0, 0, 0)), (46, (.getfield 19, 3, 6, 1, 2, 20, 0)), (49, (.invokevirtual 219, 3, 64, 5154, 0, 867, 0)), (52, (.aload_n 0, 1, 0, 0, 0, 0, 0)), (53, (.getfield 50, 3, 6, 7, 83, 35, 0)), (56, (.aload_n 0, 1, 0, 0, 0, 0, 0)), (57, (.getfield 19, 3, 6, 1, 2, 20, 0)), (60, (.iload_n 1, 1, 1, 0, 0, 0, 0)), (61, (.iconst 0, 1, 0, 0, 0, 0, 0)), (62, (.iconst 0, 1, 0, 0, 0, 0, 0)), (63, (.iconst 0, 1, 0, 0, 0, 0, 0))],
  [(64, (.invokestatic 222, 3, 66, 134, 0, -5, 0)), (67, (.aload_n 0, 1, 0, 0, 0, 0, 0)), (68, (.getfield 50, 3, 6, 7, 83, 35, 0)), (71, (.invokevirtual 226, 3, 65, 5137, 1, 879, 0)), (74, (.ifCond .ne 6, 3, 80, 0, 0, 0, 0)), (77, (.bipush (-4), 2, 0, 0, 0, (-4), 0)), (79, (.ireturn, 1, 0, 0, 0, 0, 0)), (80, (.iload_n 2, 1, 2, 0, 0, 0, 0)), (81, (.ifCond .ne 13, 3, 94, 0, 0, 0, 0)), (84, (.aload_n 0, 1, 0, 0, 0, 0, 0)), (85, (.getfield 50, 3, 6, 7, 83, 35, 0)), (88, (.getfield 230, 3, 5, 3, 0, 865, 0)), (91, (.goto 12, 3, 103, 0, 0, 0, 0)), (94, (.aload_n 0, 1, 0, 0, 0, 0, 0)), (95, (.getfield 50, 3, 6, 7, 83, 35, 0))],
  [(98, (.getfield 233, 3, 5, 2, 1, 866, 0)), (101, (.iload_n 3, 1, 3, 0, 0, 0, 0)), (102, (.iaload, 1, 0, 0, 0, 0, 0)), (103, (.ireturn, 1, 0, 0, 0, 0, 0))]]
def tX6_first : List (List (Nat × E_)) := [[(0, (.aload_n 0, 1, 0, 0, 0, 0, 0)), (1, (.getfield 19, 3, 6, 1, 2, 20, 0)), (4, (.iload_n 1, 1, 1, 0, 0, 0, 0)), (5, (.invokevirtual 120, 3, 45, 4130, 1, 545, 0)), (8, (.ifCond .eq 12, 3, 20, 0, 0, 0, 0)), (11, (.iload_n 2, 1, 2, 0, 0, 0, 0)), (12, (.ifCond .lt 8, 3, 20, 0, 0, 0, 0)), (15, (.iload_n 2, 1, 2, 0, 0, 0, 0)), (16, (.iconst 2, 1, 0, 0, 0, 2, 0)), (17, (.if_icmp .le 5, 3, 22, 0, 0, 0, 0)), (20, (.iconst (-1), 1, 0, 0, 0, (-1), 0)), (21, (.ireturn, 1, 0, 0, 0, 0, 0)), (22, (.aload_n 0, 1, 0, 0, 0, 0, 0)), (23, (.getfield 19, 3, 6, 1, 2, 20, 0)), (26, (.aload_n 0, 1, 0, 0, 0, 0, 0)), (27, (.getfield 19, 3, 6, 1, 2, 20, 0)), (30, (.invokevirtual 236, 3, 57, 4145, 1, 900, 0))],
  [(33, (.invokevirtual 239, 3, 59, 4162, 1, 904, 0)), (36, (.istore_n 3, 1, 3, 0, 0, 0, 0)), (37, (.bipush (-4), 2, 0, 0, 0, (-4), 0)), (39, (.istore 4, 2, 4, 0, 0, 0, 0)), (41, (.iconst (-1), 1, 0, 0, 0, (-1), 0)), (42, (.istore 5, 2, 5, 0, 0, 0, 0)), (44, (.iconst 0, 1, 0, 0, 0, 0, 0)), (45, (.istore 6, 2, 6, 0, 0, 0, 0)), (47, (.iload 6, 2, 6, 0, 0, 0, 0)), (49, (.aload_n 0, 1, 0, 0, 0, 0, 0)), (50, (.getfield 19, 3, 6, 1, 2, 20, 0)), (53, (.getfield 242, 3, 4, 0, 0, 899, 0)), (56, (.if_icmp .ge 42, 3, 98, 0, 0, 0, 0)), (59, (.iload 6, 2, 6, 0, 0, 0, 0)), (61, (.iload_n 3, 1, 3, 0, 0, 0, 0)), (62, (.invokestatic 245, 3, 109, 34, 1, 905, 0))],
  [(65, (.ifCond .ne 27, 3, 92, 0, 0, 0, 0)), (68, (.aload_n 0, 1, 0, 0, 0, 0, 0)), (69, (.iload_n 1, 1, 1, 0, 0, 0, 0)), (70, (.iload 6, 2, 6, 0, 0, 0, 0)), (72, (.invokevirtual 248, 3, 113, 6195, 1, 906, 0)), (75, (.istore 7, 2, 7, 0, 0, 0, 0)), (77, (.iload 7, 2, 7, 0, 0, 0, 0)), (79, (.iload 5, 2, 5, 0, 0, 0, 0)), (81, (.if_icmp .le 11, 3, 92, 0, 0, 0, 0)), (84, (.iload 7, 2, 7, 0, 0, 0, 0)), (86, (.istore 5, 2, 5, 0, 0, 0, 0)), (88, (.iload 6, 2, 6, 0, 0, 0, 0)), (90, (.istore 4, 2, 4, 0, 0, 0, 0)), (92, (.iinc 6 1, 3, 6, 0, 0, 1, 0)), (95, (.goto (-48), 3, 47, 0, 0, 0, 0))],
  [(98, (.aload_n 0, 1, 0, 0, 0, 0, 0)), (99, (.getfield 19, 3, 6, 1, 2, 20, 0)), (102, (.aload_n 0, 1, 0, 0, 0, 0, 0)), (103, (.getfield 19, 3, 6, 1, 2, 20, 0)), (106, (.invokevirtual 166, 3, 50, 4113, 1, 592, 0)), (109, (.invokevirtual 251, 3, 58, 4162, 1, 915, 0)), (112, (.istore 6, 2, 6, 0, 0, 0, 0)), (114, (.iload 4, 2, 4, 0, 0, 0, 0)), (116, (.bipush (-4), 2, 0, 0, 0, (-4), 0)), (118, (.if_icmp .eq 8, 3, 126, 0, 0, 0, 0)), (121, (.iload 6, 2, 6, 0, 0, 0, 0)), (123, (.ifCond .ne 6, 3, 129, 0, 0, 0, 0)), (126, (.bipush (-4), 2, 0, 0, 0, (-4), 0))],
  [(128, (.ireturn, 1, 0, 0, 0, 0, 0)), (129, (.iload_n 2, 1, 2, 0, 0, 0, 0)), (130, (.ifCond .ne 8, 3, 138, 0, 0, 0, 0)), (133, (.iload 4, 2, 4, 0, 0, 0, 0)), (135, (.goto 20, 3, 155, 0, 0, 0, 0)), (138, (.iload 5, 2, 5, 0, 0, 0, 0)), (140, (.iload 6, 2, 6, 0, 0, 0, 0)), (142, (.iload_n 2, 1, 2, 0, 0, 0, 0)), (143, (.iconst 2, 1, 0, 0, 0, 2, 0)), (144, (.if_icmp .ne 7, 3, 151, 0, 0, 0, 0)), (147, (.iconst 1, 1, 0, 0, 0, 1, 0)), (148, (.goto 4, 3, 152, 0, 0, 0, 0)), (151, (.iconst 0, 1, 0, 0, 0, 0, 0)), (152, (.invokestatic 254, 3, 110, 115, 1, 919, 0)), (155, (.ireturn, 1, 0, 0, 0, 0, 0))]]
def tX6_fears : List (List (Nat × E_)) := [[(0, (.iload_n 1, 1, 1, 0, 0, 0, 0)), (1, (.lookupswitch 67 #[(0, 27), (1, 42)], 27, 4, 0, 0, 0, 0)), (28, (.aload_n 0, 1, 0, 0, 0, 0, 0)), (29, (.getfield 19, 3, 6, 1, 2, 20, 0))],
  [(32, (.aload_n 0, 1, 0, 0, 0, 0, 0)), (33, (.getfield 19, 3, 6, 1, 2, 20, 0)), (36, (.invokevirtual 236, 3, 57, 4145, 1, 900, 0)), (39, (.invokevirtual 239, 3, 59, 4162, 1, 904, 0)), (42, (.ireturn, 1, 0, 0, 0, 0, 0)), (43, (.aload_n 0, 1, 0, 0, 0, 0, 0)), (44, (.getfield 19, 3, 6, 1, 2, 20, 0)), (47, (.invokevirtual 257, 3, 48, 4113, 1, 945, 0)), (50, (.aload_n 0, 1, 0, 0, 0, 0, 0)), (51, (.getfield 19, 3, 6, 1, 2, 20, 0)), (54, (.aload_n 0, 1, 0, 0, 0, 0, 0)), (55, (.getfield 19, 3, 6, 1, 2, 20, 0)), (58, (.invokevirtual 166, 3, 50, 4113, 1, 592, 0)), (61, (.invokevirtual 239, 3, 59, 4162, 1, 904, 0))],
  [(64, (.iconst (-1), 1, 0, 0, 0, (-1), 0)), (65, (.ixor, 1, 0, 0, 0, 0, 0)), (66, (.iand, 1, 0, 0, 0, 0, 0)), (67, (.ireturn, 1, 0, 0, 0, 0, 0)), (68, (.iconst (-1), 1, 0, 0, 0, (-1), 0)), (69, (.ireturn, 1, 0, 0, 0, 0, 0))]]
def tX6_answer : List (List (Nat × E_)) := [[(0, (.aload_n 0, 1, 0, 0, 0, 0, 0)), (1, (.getfield 19, 3, 6, 1, 2, 20, 0)), (4, (.iload_n 1, 1, 1, 0, 0, 0, 0)), (5, (.invokevirtual 126, 3, 46, 4130, 1, 567, 0)), (8, (.ifCond .eq 25, 3, 33, 0, 0, 0, 0)), (11, (.aload_n 0, 1, 0, 0, 0, 0, 0)), (12, (.getfield 19, 3, 6, 1, 2, 20, 0)), (15, (.iload_n 2, 1, 2, 0, 0, 0, 0)), (16, (.invokevirtual 120, 3, 45, 4130, 1, 545, 0)), (19, (.ifCond .eq 14, 3, 33, 0, 0, 0, 0)), (22, (.aload_n 0, 1, 0, 0, 0, 0, 0)), (23, (.getfield 19, 3, 6, 1, 2, 20, 0)), (26, (.iload_n 3, 1, 3, 0, 0, 0, 0)), (27, (.invokevirtual 93, 3, 43, 4130, 1, 508, 0)), (30, (.ifCond .ne 5, 3, 35, 0, 0, 0, 0))],
  [(33, (.iconst (-1), 1, 0, 0, 0, (-1), 0)), (34, (.ireturn, 1, 0, 0, 0, 0, 0)), (35, (.aload_n 0, 1, 0, 0, 0, 0, 0)), (36, (.getfield 40, 3, 6, 5, 3, 30, 0)), (39, (.aload_n 0, 1, 0, 0, 0, 0, 0)), (40, (.getfield 19, 3, 6, 1, 2, 20, 0)), (43, (.iload_n 1, 1, 1, 0, 0, 0, 0)), (44, (.iload_n 2, 1, 2, 0, 0, 0, 0)), (45, (.iload_n 3, 1, 3, 0, 0, 0, 0)), (46, (.invokevirtual 260, 3, 11, 101, 1, 957, 0)), (49, (.ireturn, 1, 0, 0, 0, 0, 0))]]
def tX6_heard : List (List (Nat × E_)) := [[(0, (.aload_n 0, 1, 0, 0, 0, 0, 0)), (1, (.getfield 19, 3, 6, 1, 2, 20, 0)), (4, (.iload_n 1, 1, 1, 0, 0, 0, 0)), (5, (.invokevirtual 120, 3, 45, 4130, 1, 545, 0)), (8, (.ifCond .eq 14, 3, 22, 0, 0, 0, 0)), (11, (.aload_n 0, 1, 0, 0, 0, 0, 0)), (12, (.getfield 19, 3, 6, 1, 2, 20, 0)), (15, (.iload_n 2, 1, 2, 0, 0, 0, 0)), (16, (.invokevirtual 93, 3, 43, 4130, 1, 508, 0)), (19, (.ifCond .ne 5, 3, 24, 0, 0, 0, 0)), (22, (.iconst (-1), 1, 0, 0, 0, (-1), 0)), (23, (.ireturn, 1, 0, 0, 0, 0, 0)), (24, (.iload_n 3, 1, 3, 0, 0, 0, 0)), (25, (.ifCond .eq 16, 3, 41, 0, 0, 0, 0)), (28, (.iload_n 3, 1, 3, 0, 0, 0, 0)), (29, (.iconst 1, 1, 0, 0, 0, 1, 0)), (30, (.if_icmp .eq 11, 3, 41, 0, 0, 0, 0))],
  [(33, (.iload_n 3, 1, 3, 0, 0, 0, 0)), (34, (.bipush (-4), 2, 0, 0, 0, (-4), 0)), (36, (.if_icmp .eq 5, 3, 41, 0, 0, 0, 0)), (39, (.iconst (-1), 1, 0, 0, 0, (-1), 0)), (40, (.ireturn, 1, 0, 0, 0, 0, 0)), (41, (.aload_n 0, 1, 0, 0, 0, 0, 0)), (42, (.getfield 29, 3, 6, 3, 19, 25, 0)), (45, (.dup, 1, 0, 0, 0, 0, 0)), (46, (.getfield 170, 3, 1, 4, 0, 687, 0)), (49, (.aload_n 0, 1, 0, 0, 0, 0, 0)), (50, (.getfield 40, 3, 6, 5, 3, 30, 0)), (53, (.aload_n 0, 1, 0, 0, 0, 0, 0)), (54, (.getfield 19, 3, 6, 1, 2, 20, 0)), (57, (.iload_n 1, 1, 1, 0, 0, 0, 0)), (58, (.iload_n 2, 1, 2, 0, 0, 0, 0)), (59, (.iload_n 3, 1, 3, 0, 0, 0, 0)), (60, (.invokevirtual 264, 3, 12, 117, 1, 975, 0)), (63, (.iand, 1, 0, 0, 0, 0, 0))],
  [(64, (.putfield 170, 3, 1, 4, 0, 687, 0)), (67, (.aload_n 0, 1, 0, 0, 0, 0, 0)), (68, (.getfield 29, 3, 6, 3, 19, 25, 0)), (71, (.getfield 170, 3, 1, 4, 0, 687, 0)), (74, (.ireturn, 1, 0, 0, 0, 0, 0))]]
def tX6_left : List (List (Nat × E_)) := [[(0, (.iload_n 1, 1, 1, 0, 0, 0, 0)), (1, (.tableswitch 65 0 2 #[27, 35, 50], 27, 5, 0, 0, 0, 0)), (28, (.aload_n 0, 1, 0, 0, 0, 0, 0)), (29, (.getfield 29, 3, 6, 3, 19, 25, 0))],
  [(32, (.getfield 170, 3, 1, 4, 0, 687, 0)), (35, (.ireturn, 1, 0, 0, 0, 0, 0)), (36, (.aload_n 0, 1, 0, 0, 0, 0, 0)), (37, (.getfield 19, 3, 6, 1, 2, 20, 0)), (40, (.aload_n 0, 1, 0, 0, 0, 0, 0)), (41, (.getfield 29, 3, 6, 3, 19, 25, 0)), (44, (.getfield 170, 3, 1, 4, 0, 687, 0)), (47, (.invokevirtual 251, 3, 58, 4162, 1, 915, 0)), (50, (.ireturn, 1, 0, 0, 0, 0, 0)), (51, (.aload_n 0, 1, 0, 0, 0, 0, 0)), (52, (.getfield 19, 3, 6, 1, 2, 20, 0)), (55, (.aload_n 0, 1, 0, 0, 0, 0, 0)), (56, (.getfield 19, 3, 6, 1, 2, 20, 0)), (59, (.invokevirtual 166, 3, 50, 4113, 1, 592, 0)), (62, (.invokevirtual 251, 3, 58, 4162, 1, 915, 0))],
  [(65, (.ireturn, 1, 0, 0, 0, 0, 0)), (66, (.iconst (-1), 1, 0, 0, 0, (-1), 0)), (67, (.ireturn, 1, 0, 0, 0, 0, 0))]]
def tX6_ask : List (List (Nat × E_)) := [[(0, (.iload_n 1, 1, 1, 0, 0, 0, 0)), (1, (.ifCond .lt 8, 3, 9, 0, 0, 0, 0)), (4, (.iload_n 1, 1, 1, 0, 0, 0, 0)), (5, (.iconst 2, 1, 0, 0, 0, 2, 0)), (6, (.if_icmp .le 5, 3, 11, 0, 0, 0, 0)), (9, (.iconst (-1), 1, 0, 0, 0, (-1), 0)), (10, (.ireturn, 1, 0, 0, 0, 0, 0)), (11, (.aload_n 0, 1, 0, 0, 0, 0, 0)), (12, (.getfield 29, 3, 6, 3, 19, 25, 0)), (15, (.getfield 170, 3, 1, 4, 0, 687, 0)), (18, (.ifCond .ne 6, 3, 24, 0, 0, 0, 0)), (21, (.bipush (-4), 2, 0, 0, 0, (-4), 0)), (23, (.ireturn, 1, 0, 0, 0, 0, 0)), (24, (.bipush (-4), 2, 0, 0, 0, (-4), 0)), (26, (.istore_n 2, 1, 2, 0, 0, 0, 0)), (27, (.bipush (-4), 2, 0, 0, 0, (-4), 0)), (29, (.istore_n 3, 1, 3, 0, 0, 0, 0)), (30, (.bipush (-4), 2, 0, 0, 0, (-4), 0))],
  [(32, (.istore 4, 2, 4, 0, 0, 0, 0)), (34, (.iconst 0, 1, 0, 0, 0, 0, 0)), (35, (.istore 5, 2, 5, 0, 0, 0, 0)), (37, (.iload 5, 2, 5, 0, 0, 0, 0)), (39, (.aload_n 0, 1, 0, 0, 0, 0, 0)), (40, (.getfield 19, 3, 6, 1, 2, 20, 0)), (43, (.getfield 202, 3, 4, 2, 0, 761, 0)), (46, (.if_icmp .ge 64, 3, 110, 0, 0, 0, 0)), (49, (.iconst 0, 1, 0, 0, 0, 0, 0)), (50, (.istore 6, 2, 6, 0, 0, 0, 0)), (52, (.iload 6, 2, 6, 0, 0, 0, 0)), (54, (.aload_n 0, 1, 0, 0, 0, 0, 0)), (55, (.getfield 19, 3, 6, 1, 2, 20, 0)), (58, (.getfield 242, 3, 4, 0, 0, 899, 0)), (61, (.if_icmp .ge 43, 3, 104, 0, 0, 0, 0))],
  [(64, (.aload_n 0, 1, 0, 0, 0, 0, 0)), (65, (.iload 5, 2, 5, 0, 0, 0, 0)), (67, (.iload 6, 2, 6, 0, 0, 0, 0)), (69, (.invokevirtual 267, 3, 114, 6243, 1, 1000, 0)), (72, (.istore 7, 2, 7, 0, 0, 0, 0)), (74, (.iload 4, 2, 4, 0, 0, 0, 0)), (76, (.bipush (-4), 2, 0, 0, 0, (-4), 0)), (78, (.if_icmp .eq 10, 3, 88, 0, 0, 0, 0)), (81, (.iload 7, 2, 7, 0, 0, 0, 0)), (83, (.iload 4, 2, 4, 0, 0, 0, 0)), (85, (.if_icmp .ge 13, 3, 98, 0, 0, 0, 0)), (88, (.iload 7, 2, 7, 0, 0, 0, 0)), (90, (.istore 4, 2, 4, 0, 0, 0, 0)), (92, (.iload 5, 2, 5, 0, 0, 0, 0)), (94, (.istore_n 2, 1, 2, 0, 0, 0, 0)), (95, (.iload 6, 2, 6, 0, 0, 0, 0))],
  [(97, (.istore_n 3, 1, 3, 0, 0, 0, 0)), (98, (.iinc 6 1, 3, 6, 0, 0, 1, 0)), (101, (.goto (-49), 3, 52, 0, 0, 0, 0)), (104, (.iinc 5 1, 3, 5, 0, 0, 1, 0)), (107, (.goto (-70), 3, 37, 0, 0, 0, 0)), (110, (.iload_n 1, 1, 1, 0, 0, 0, 0)), (111, (.ifCond .ne 7, 3, 118, 0, 0, 0, 0)), (114, (.iload_n 2, 1, 2, 0, 0, 0, 0)), (115, (.goto 14, 3, 129, 0, 0, 0, 0)), (118, (.iload_n 1, 1, 1, 0, 0, 0, 0)), (119, (.iconst 1, 1, 0, 0, 0, 1, 0)), (120, (.if_icmp .ne 7, 3, 127, 0, 0, 0, 0)), (123, (.iload_n 3, 1, 3, 0, 0, 0, 0)), (124, (.goto 5, 3, 129, 0, 0, 0, 0)), (127, (.iload 4, 2, 4, 0, 0, 0, 0))],
  [(129, (.ireturn, 1, 0, 0, 0, 0, 0))]]
def tX6_sure : List (List (Nat × E_)) := [[(0, (.aload_n 0, 1, 0, 0, 0, 0, 0)), (1, (.getfield 19, 3, 6, 1, 2, 20, 0)), (4, (.iload_n 1, 1, 1, 0, 0, 0, 0)), (5, (.invokevirtual 120, 3, 45, 4130, 1, 545, 0)), (8, (.ifCond .eq 12, 3, 20, 0, 0, 0, 0)), (11, (.iload_n 2, 1, 2, 0, 0, 0, 0)), (12, (.ifCond .lt 8, 3, 20, 0, 0, 0, 0)), (15, (.iload_n 2, 1, 2, 0, 0, 0, 0)), (16, (.iconst 1, 1, 0, 0, 0, 1, 0)), (17, (.if_icmp .le 5, 3, 22, 0, 0, 0, 0)), (20, (.iconst (-1), 1, 0, 0, 0, (-1), 0)), (21, (.ireturn, 1, 0, 0, 0, 0, 0)), (22, (.aload_n 0, 1, 0, 0, 0, 0, 0)), (23, (.getfield 19, 3, 6, 1, 2, 20, 0)), (26, (.invokevirtual 257, 3, 48, 4113, 1, 945, 0)), (29, (.istore_n 3, 1, 3, 0, 0, 0, 0)), (30, (.iconst 0, 1, 0, 0, 0, 0, 0)), (31, (.istore 4, 2, 4, 0, 0, 0, 0))],
  [(33, (.iload 4, 2, 4, 0, 0, 0, 0)), (35, (.iconst 1, 1, 0, 0, 0, 1, 0)), (36, (.aload_n 0, 1, 0, 0, 0, 0, 0)), (37, (.getfield 19, 3, 6, 1, 2, 20, 0)), (40, (.getfield 242, 3, 4, 0, 0, 899, 0)), (43, (.ishl, 1, 0, 0, 0, 0, 0)), (44, (.if_icmp .ge 34, 3, 78, 0, 0, 0, 0)), (47, (.iload 4, 2, 4, 0, 0, 0, 0)), (49, (.invokestatic 270, 3, 217, 17, 1, 1016, 0)), (52, (.iload_n 3, 1, 3, 0, 0, 0, 0)), (53, (.invokestatic 270, 3, 217, 17, 1, 1016, 0)), (56, (.if_icmp .ge 16, 3, 72, 0, 0, 0, 0)), (59, (.aload_n 0, 1, 0, 0, 0, 0, 0)), (60, (.iload_n 1, 1, 1, 0, 0, 0, 0)), (61, (.iload 4, 2, 4, 0, 0, 0, 0)), (63, (.invokevirtual 275, 3, 115, 6243, 1, 1017, 0))],
  [(66, (.ifCond .eq 6, 3, 72, 0, 0, 0, 0)), (69, (.iload 4, 2, 4, 0, 0, 0, 0)), (71, (.istore_n 3, 1, 3, 0, 0, 0, 0)), (72, (.iinc 4 1, 3, 4, 0, 0, 1, 0)), (75, (.goto (-42), 3, 33, 0, 0, 0, 0)), (78, (.iload_n 2, 1, 2, 0, 0, 0, 0)), (79, (.ifCond .ne 10, 3, 89, 0, 0, 0, 0)), (82, (.iload_n 3, 1, 3, 0, 0, 0, 0)), (83, (.invokestatic 270, 3, 217, 17, 1, 1016, 0)), (86, (.goto 4, 3, 90, 0, 0, 0, 0)), (89, (.iload_n 3, 1, 3, 0, 0, 0, 0)), (90, (.ireturn, 1, 0, 0, 0, 0, 0))]]
def tX6_likely : List (List (Nat × E_)) := [[(0, (.aload_n 0, 1, 0, 0, 0, 0, 0)), (1, (.getfield 19, 3, 6, 1, 2, 20, 0)), (4, (.iload_n 1, 1, 1, 0, 0, 0, 0)), (5, (.invokevirtual 120, 3, 45, 4130, 1, 545, 0)), (8, (.ifCond .eq 12, 3, 20, 0, 0, 0, 0)), (11, (.iload_n 2, 1, 2, 0, 0, 0, 0)), (12, (.ifCond .lt 8, 3, 20, 0, 0, 0, 0)), (15, (.iload_n 2, 1, 2, 0, 0, 0, 0)), (16, (.iconst 1, 1, 0, 0, 0, 1, 0)), (17, (.if_icmp .le 5, 3, 22, 0, 0, 0, 0)), (20, (.iconst (-1), 1, 0, 0, 0, (-1), 0)), (21, (.ireturn, 1, 0, 0, 0, 0, 0)), (22, (.aload_n 0, 1, 0, 0, 0, 0, 0)), (23, (.getfield 19, 3, 6, 1, 2, 20, 0)), (26, (.aload_n 0, 1, 0, 0, 0, 0, 0)), (27, (.getfield 19, 3, 6, 1, 2, 20, 0)), (30, (.invokevirtual 166, 3, 50, 4113, 1, 592, 0))],
  [(33, (.invokevirtual 251, 3, 58, 4162, 1, 915, 0)), (36, (.istore_n 3, 1, 3, 0, 0, 0, 0)), (37, (.iload_n 3, 1, 3, 0, 0, 0, 0)), (38, (.ifCond .ne 6, 3, 44, 0, 0, 0, 0)), (41, (.bipush (-4), 2, 0, 0, 0, (-4), 0)), (43, (.ireturn, 1, 0, 0, 0, 0, 0)), (44, (.aload_n 0, 1, 0, 0, 0, 0, 0)), (45, (.getfield 40, 3, 6, 5, 3, 30, 0)), (48, (.aload_n 0, 1, 0, 0, 0, 0, 0)), (49, (.getfield 19, 3, 6, 1, 2, 20, 0)), (52, (.iload_n 1, 1, 1, 0, 0, 0, 0)), (53, (.invokevirtual 278, 3, 10, 83, 1, 910, 0)), (56, (.iload_n 3, 1, 3, 0, 0, 0, 0)), (57, (.iload_n 2, 1, 2, 0, 0, 0, 0)), (58, (.iconst 1, 1, 0, 0, 0, 1, 0)), (59, (.if_icmp .ne 7, 3, 66, 0, 0, 0, 0)), (62, (.iconst 1, 1, 0, 0, 0, 1, 0)), (63, (.goto 4, 3, 67, 0, 0, 0, 0))],
  [(66, (.iconst 0, 1, 0, 0, 0, 0, 0)), (67, (.invokestatic 254, 3, 110, 115, 1, 919, 0)), (70, (.ireturn, 1, 0, 0, 0, 0, 0))]]
def tX6_theirs : List (List (Nat × E_)) := [[(0, (.aload_n 0, 1, 0, 0, 0, 0, 0)), (1, (.getfield 19, 3, 6, 1, 2, 20, 0)), (4, (.iload_n 1, 1, 1, 0, 0, 0, 0)), (5, (.invokevirtual 93, 3, 43, 4130, 1, 508, 0)), (8, (.ifCond .ne 5, 3, 13, 0, 0, 0, 0)), (11, (.iconst (-1), 1, 0, 0, 0, (-1), 0)), (12, (.ireturn, 1, 0, 0, 0, 0, 0)), (13, (.aload_n 0, 1, 0, 0, 0, 0, 0)), (14, (.getfield 29, 3, 6, 3, 19, 25, 0)), (17, (.getfield 282, 3, 1, 5, 0, 1039, 0)), (20, (.bipush 12, 2, 0, 0, 0, 12, 0)), (22, (.if_icmp .lt 6, 3, 28, 0, 0, 0, 0)), (25, (.bipush (-3), 2, 0, 0, 0, (-3), 0)), (27, (.ireturn, 1, 0, 0, 0, 0, 0)), (28, (.aload_n 0, 1, 0, 0, 0, 0, 0)), (29, (.getfield 29, 3, 6, 3, 19, 25, 0))],
  [(32, (.getfield 285, 3, 1, 6, 1, 1040, 0)), (35, (.aload_n 0, 1, 0, 0, 0, 0, 0)), (36, (.getfield 29, 3, 6, 3, 19, 25, 0)), (39, (.getfield 282, 3, 1, 5, 0, 1039, 0)), (42, (.iload_n 1, 1, 1, 0, 0, 0, 0)), (43, (.iastore, 1, 0, 0, 0, 0, 0)), (44, (.aload_n 0, 1, 0, 0, 0, 0, 0)), (45, (.getfield 29, 3, 6, 3, 19, 25, 0)), (48, (.getfield 288, 3, 1, 7, 1, 1041, 0)), (51, (.aload_n 0, 1, 0, 0, 0, 0, 0)), (52, (.getfield 29, 3, 6, 3, 19, 25, 0)), (55, (.getfield 282, 3, 1, 5, 0, 1039, 0)), (58, (.iload_n 2, 1, 2, 0, 0, 0, 0)), (59, (.bastore, 1, 0, 0, 0, 0, 0)), (60, (.aload_n 0, 1, 0, 0, 0, 0, 0)), (61, (.getfield 29, 3, 6, 3, 19, 25, 0))],
  [(64, (.dup, 1, 0, 0, 0, 0, 0)), (65, (.getfield 282, 3, 1, 5, 0, 1039, 0)), (68, (.iconst 1, 1, 0, 0, 0, 1, 0)), (69, (.iadd, 1, 0, 0, 0, 0, 0)), (70, (.putfield 282, 3, 1, 5, 0, 1039, 0)), (73, (.aload_n 0, 1, 0, 0, 0, 0, 0)), (74, (.getfield 29, 3, 6, 3, 19, 25, 0)), (77, (.getfield 282, 3, 1, 5, 0, 1039, 0)), (80, (.ireturn, 1, 0, 0, 0, 0, 0))]]
def tX6_hush : List (List (Nat × E_)) := [[(0, (.aload_n 0, 1, 0, 0, 0, 0, 0)), (1, (.getfield 29, 3, 6, 3, 19, 25, 0)), (4, (.getfield 282, 3, 1, 5, 0, 1039, 0)), (7, (.istore_n 1, 1, 1, 0, 0, 0, 0)), (8, (.aload_n 0, 1, 0, 0, 0, 0, 0)), (9, (.getfield 29, 3, 6, 3, 19, 25, 0)), (12, (.iconst 0, 1, 0, 0, 0, 0, 0)), (13, (.putfield 282, 3, 1, 5, 0, 1039, 0)), (16, (.iload_n 1, 1, 1, 0, 0, 0, 0)), (17, (.ireturn, 1, 0, 0, 0, 0, 0))]]
def tX6_meant : List (List (Nat × E_)) := [[(0, (.aload_n 0, 1, 0, 0, 0, 0, 0)), (1, (.invokevirtual 291, 3, 116, 6193, 1, 1058, 0)), (4, (.istore_n 2, 1, 2, 0, 0, 0, 0)), (5, (.iload_n 1, 1, 1, 0, 0, 0, 0)), (6, (.tableswitch 61 0 3 #[30, 35, 44, 46], 30, 6, 0, 0, 0, 0))],
  [(36, (.iload_n 2, 1, 2, 0, 0, 0, 0)), (37, (.invokestatic 270, 3, 217, 17, 1, 1016, 0)), (40, (.ireturn, 1, 0, 0, 0, 0, 0)), (41, (.aload_n 0, 1, 0, 0, 0, 0, 0)), (42, (.getfield 19, 3, 6, 1, 2, 20, 0)), (45, (.iload_n 2, 1, 2, 0, 0, 0, 0)), (46, (.invokevirtual 294, 3, 51, 4146, 1, 1064, 0)), (49, (.ireturn, 1, 0, 0, 0, 0, 0)), (50, (.iload_n 2, 1, 2, 0, 0, 0, 0)), (51, (.ireturn, 1, 0, 0, 0, 0, 0)), (52, (.iload_n 2, 1, 2, 0, 0, 0, 0)), (53, (.ifCond .ne 8, 3, 61, 0, 0, 0, 0)), (56, (.bipush (-4), 2, 0, 0, 0, (-4), 0)), (58, (.goto 8, 3, 66, 0, 0, 0, 0)), (61, (.aload_n 0, 1, 0, 0, 0, 0, 0)), (62, (.iload_n 2, 1, 2, 0, 0, 0, 0)), (63, (.invokevirtual 297, 3, 117, 6274, 1, 1065, 0))],
  [(66, (.ireturn, 1, 0, 0, 0, 0, 0)), (67, (.iconst (-1), 1, 0, 0, 0, (-1), 0)), (68, (.ireturn, 1, 0, 0, 0, 0, 0))]]
def tX6_build : List (List (Nat × E_)) := [[(0, (.aload_n 0, 1, 0, 0, 0, 0, 0)), (1, (.getfield 19, 3, 6, 1, 2, 20, 0)), (4, (.iload_n 1, 1, 1, 0, 0, 0, 0)), (5, (.invokevirtual 101, 3, 44, 4130, 1, 528, 0)), (8, (.ifCond .eq 12, 3, 20, 0, 0, 0, 0)), (11, (.iload_n 2, 1, 2, 0, 0, 0, 0)), (12, (.ifCond .lt 8, 3, 20, 0, 0, 0, 0)), (15, (.iload_n 2, 1, 2, 0, 0, 0, 0)), (16, (.iconst 2, 1, 0, 0, 0, 2, 0)), (17, (.if_icmp .le 5, 3, 22, 0, 0, 0, 0)), (20, (.iconst (-1), 1, 0, 0, 0, (-1), 0)), (21, (.ireturn, 1, 0, 0, 0, 0, 0)), (22, (.iconst 1, 1, 0, 0, 0, 1, 0)), (23, (.istore_n 3, 1, 3, 0, 0, 0, 0)), (24, (.iload_n 3, 1, 3, 0, 0, 0, 0)), (25, (.iconst 3, 1, 0, 0, 0, 3, 0)), (26, (.if_icmp .gt 75, 3, 101, 0, 0, 0, 0)), (29, (.iconst 0, 1, 0, 0, 0, 0, 0)), (30, (.istore 4, 2, 4, 0, 0, 0, 0))],
  [(32, (.iload 4, 2, 4, 0, 0, 0, 0)), (34, (.aload_n 0, 1, 0, 0, 0, 0, 0)), (35, (.getfield 19, 3, 6, 1, 2, 20, 0)), (38, (.getfield 202, 3, 4, 2, 0, 761, 0)), (41, (.if_icmp .ge 54, 3, 95, 0, 0, 0, 0)), (44, (.aload_n 0, 1, 0, 0, 0, 0, 0)), (45, (.aload_n 0, 1, 0, 0, 0, 0, 0)), (46, (.getfield 19, 3, 6, 1, 2, 20, 0)), (49, (.getfield 113, 3, 4, 9, 1, 527, 0)), (52, (.iload_n 1, 1, 1, 0, 0, 0, 0)), (53, (.iaload, 1, 0, 0, 0, 0, 0)), (54, (.iload_n 3, 1, 3, 0, 0, 0, 0)), (55, (.iload 4, 2, 4, 0, 0, 0, 0)), (57, (.invokevirtual 300, 3, 118, 6276, 1, 1089, 0)), (60, (.istore 5, 2, 5, 0, 0, 0, 0)), (62, (.iload 5, 2, 5, 0, 0, 0, 0))],
  [(64, (.iconst (-1), 1, 0, 0, 0, (-1), 0)), (65, (.if_icmp .eq 24, 3, 89, 0, 0, 0, 0)), (68, (.iload_n 2, 1, 2, 0, 0, 0, 0)), (69, (.ifCond .ne 7, 3, 76, 0, 0, 0, 0)), (72, (.iload_n 3, 1, 3, 0, 0, 0, 0)), (73, (.goto 15, 3, 88, 0, 0, 0, 0)), (76, (.iload_n 2, 1, 2, 0, 0, 0, 0)), (77, (.iconst 1, 1, 0, 0, 0, 1, 0)), (78, (.if_icmp .ne 8, 3, 86, 0, 0, 0, 0)), (81, (.iload 4, 2, 4, 0, 0, 0, 0)), (83, (.goto 5, 3, 88, 0, 0, 0, 0)), (86, (.iload 5, 2, 5, 0, 0, 0, 0)), (88, (.ireturn, 1, 0, 0, 0, 0, 0)), (89, (.iinc 4 1, 3, 4, 0, 0, 1, 0)), (92, (.goto (-60), 3, 32, 0, 0, 0, 0)), (95, (.iinc 3 1, 3, 3, 0, 0, 1, 0))],
  [(98, (.goto (-74), 3, 24, 0, 0, 0, 0)), (101, (.bipush (-4), 2, 0, 0, 0, (-4), 0)), (103, (.ireturn, 1, 0, 0, 0, 0, 0))]]
def tX6_draw : List (List (Nat × E_)) := [[(0, (.aload_n 0, 1, 0, 0, 0, 0, 0)), (1, (.getfield 19, 3, 6, 1, 2, 20, 0)), (4, (.aload_n 0, 1, 0, 0, 0, 0, 0)), (5, (.getfield 19, 3, 6, 1, 2, 20, 0)), (8, (.invokevirtual 166, 3, 50, 4113, 1, 592, 0)), (11, (.invokevirtual 251, 3, 58, 4162, 1, 915, 0)), (14, (.istore_n 2, 1, 2, 0, 0, 0, 0)), (15, (.iload_n 2, 1, 2, 0, 0, 0, 0)), (16, (.ifCond .gt 6, 3, 22, 0, 0, 0, 0)), (19, (.bipush (-4), 2, 0, 0, 0, (-4), 0)), (21, (.ireturn, 1, 0, 0, 0, 0, 0)), (22, (.iload_n 1, 1, 1, 0, 0, 0, 0)), (23, (.ldc_w 304, 3, 0, 1101, 0, (1103515245), 0)), (26, (.imul, 1, 0, 0, 0, 0, 0)), (27, (.sipush 12345, 3, 0, 0, 0, 12345, 0)), (30, (.iadd, 1, 0, 0, 0, 0, 0)), (31, (.bipush 16, 2, 0, 0, 0, 16, 0))],
  [(33, (.iushr, 1, 0, 0, 0, 0, 0)), (34, (.sipush 32767, 3, 0, 0, 0, 32767, 0)), (37, (.iand, 1, 0, 0, 0, 0, 0)), (38, (.iload_n 2, 1, 2, 0, 0, 0, 0)), (39, (.irem, 1, 0, 0, 0, 0, 0)), (40, (.istore_n 3, 1, 3, 0, 0, 0, 0)), (41, (.iconst 0, 1, 0, 0, 0, 0, 0)), (42, (.istore 4, 2, 4, 0, 0, 0, 0)), (44, (.iload 4, 2, 4, 0, 0, 0, 0)), (46, (.aload_n 0, 1, 0, 0, 0, 0, 0)), (47, (.getfield 19, 3, 6, 1, 2, 20, 0)), (50, (.getfield 305, 3, 4, 3, 0, 1102, 0)), (53, (.if_icmp .ge 29, 3, 82, 0, 0, 0, 0)), (56, (.iload_n 3, 1, 3, 0, 0, 0, 0)), (57, (.aload_n 0, 1, 0, 0, 0, 0, 0)), (58, (.getfield 19, 3, 6, 1, 2, 20, 0)), (61, (.getfield 142, 3, 4, 17, 1, 565, 0))],
  [(64, (.iload 4, 2, 4, 0, 0, 0, 0)), (66, (.iaload, 1, 0, 0, 0, 0, 0)), (67, (.isub, 1, 0, 0, 0, 0, 0)), (68, (.istore_n 3, 1, 3, 0, 0, 0, 0)), (69, (.iload_n 3, 1, 3, 0, 0, 0, 0)), (70, (.ifCond .ge 6, 3, 76, 0, 0, 0, 0)), (73, (.iload 4, 2, 4, 0, 0, 0, 0)), (75, (.ireturn, 1, 0, 0, 0, 0, 0)), (76, (.iinc 4 1, 3, 4, 0, 0, 1, 0)), (79, (.goto (-35), 3, 44, 0, 0, 0, 0)), (82, (.bipush (-4), 2, 0, 0, 0, (-4), 0)), (84, (.ireturn, 1, 0, 0, 0, 0, 0))]]
def tX6_keep : List (List (Nat × E_)) := [[(0, (.iload_n 1, 1, 1, 0, 0, 0, 0)), (1, (.ifCond .lt 8, 3, 9, 0, 0, 0, 0)), (4, (.iload_n 1, 1, 1, 0, 0, 0, 0)), (5, (.iconst 2, 1, 0, 0, 0, 2, 0)), (6, (.if_icmp .lt 5, 3, 11, 0, 0, 0, 0)), (9, (.iconst (-1), 1, 0, 0, 0, (-1), 0)), (10, (.ireturn, 1, 0, 0, 0, 0, 0)), (11, (.aload_n 0, 1, 0, 0, 0, 0, 0)), (12, (.getfield 33, 3, 6, 4, 1, 26, 0)), (15, (.iload_n 1, 1, 1, 0, 0, 0, 0)), (16, (.aaload, 1, 0, 0, 0, 0, 0)), (17, (.getfield 76, 3, 1, 8, 0, 240, 0)), (20, (.ifCond .eq 7, 3, 27, 0, 0, 0, 0)), (23, (.iconst 1, 1, 0, 0, 0, 1, 0)), (24, (.goto 4, 3, 28, 0, 0, 0, 0)), (27, (.iconst 0, 1, 0, 0, 0, 0, 0)), (28, (.istore_n 2, 1, 2, 0, 0, 0, 0)), (29, (.aload_n 0, 1, 0, 0, 0, 0, 0)), (30, (.getfield 33, 3, 6, 4, 1, 26, 0))],
  [(33, (.iload_n 1, 1, 1, 0, 0, 0, 0)), (34, (.aaload, 1, 0, 0, 0, 0, 0)), (35, (.aload_n 0, 1, 0, 0, 0, 0, 0)), (36, (.getfield 29, 3, 6, 3, 19, 25, 0)), (39, (.invokevirtual 308, 3, 14, 1058, 0, 1112, 0)), (42, (.aload_n 0, 1, 0, 0, 0, 0, 0)), (43, (.getfield 33, 3, 6, 4, 1, 26, 0)), (46, (.iload_n 1, 1, 1, 0, 0, 0, 0)), (47, (.aaload, 1, 0, 0, 0, 0, 0)), (48, (.iconst 1, 1, 0, 0, 0, 1, 0)), (49, (.putfield 76, 3, 1, 8, 1, 240, 0)), (52, (.iload_n 2, 1, 2, 0, 0, 0, 0)), (53, (.ireturn, 1, 0, 0, 0, 0, 0))]]
def tX6_back : List (List (Nat × E_)) := [[(0, (.iload_n 1, 1, 1, 0, 0, 0, 0)), (1, (.ifCond .lt 8, 3, 9, 0, 0, 0, 0)), (4, (.iload_n 1, 1, 1, 0, 0, 0, 0)), (5, (.iconst 2, 1, 0, 0, 0, 2, 0)), (6, (.if_icmp .lt 5, 3, 11, 0, 0, 0, 0)), (9, (.iconst (-1), 1, 0, 0, 0, (-1), 0)), (10, (.ireturn, 1, 0, 0, 0, 0, 0)), (11, (.aload_n 0, 1, 0, 0, 0, 0, 0)), (12, (.getfield 33, 3, 6, 4, 1, 26, 0)), (15, (.iload_n 1, 1, 1, 0, 0, 0, 0)), (16, (.aaload, 1, 0, 0, 0, 0, 0)), (17, (.getfield 76, 3, 1, 8, 0, 240, 0)), (20, (.ifCond .ne 6, 3, 26, 0, 0, 0, 0)), (23, (.bipush (-2), 2, 0, 0, 0, (-2), 0)), (25, (.ireturn, 1, 0, 0, 0, 0, 0)), (26, (.aload_n 0, 1, 0, 0, 0, 0, 0)), (27, (.getfield 29, 3, 6, 3, 19, 25, 0)), (30, (.aload_n 0, 1, 0, 0, 0, 0, 0)), (31, (.getfield 33, 3, 6, 4, 1, 26, 0))],
  [(34, (.iload_n 1, 1, 1, 0, 0, 0, 0)), (35, (.aaload, 1, 0, 0, 0, 0, 0)), (36, (.invokevirtual 308, 3, 14, 1058, 0, 1112, 0)), (39, (.aload_n 0, 1, 0, 0, 0, 0, 0)), (40, (.invokevirtual 163, 3, 112, 6177, 0, 675, 0)), (43, (.aload_n 0, 1, 0, 0, 0, 0, 0)), (44, (.getfield 29, 3, 6, 3, 19, 25, 0)), (47, (.getfield 148, 3, 1, 0, 0, 584, 0)), (50, (.ireturn, 1, 0, 0, 0, 0, 0))]]
def tX6_sheet : List (List (Nat × E_)) := [[(0, (.iload_n 1, 1, 1, 0, 0, 0, 0)), (1, (.ifCond .lt 23, 3, 24, 0, 0, 0, 0)), (4, (.iload_n 1, 1, 1, 0, 0, 0, 0)), (5, (.iconst 4, 1, 0, 0, 0, 4, 0)), (6, (.if_icmp .ge 18, 3, 24, 0, 0, 0, 0)), (9, (.iload_n 2, 1, 2, 0, 0, 0, 0)), (10, (.ifCond .lt 14, 3, 24, 0, 0, 0, 0)), (13, (.iload_n 2, 1, 2, 0, 0, 0, 0)), (14, (.iconst 3, 1, 0, 0, 0, 3, 0)), (15, (.if_icmp .ge 9, 3, 24, 0, 0, 0, 0)), (18, (.iload_n 3, 1, 3, 0, 0, 0, 0)), (19, (.bipush 40, 2, 0, 0, 0, 40, 0)), (21, (.if_icmp .le 5, 3, 26, 0, 0, 0, 0)), (24, (.iconst (-1), 1, 0, 0, 0, (-1), 0)), (25, (.ireturn, 1, 0, 0, 0, 0, 0)), (26, (.iload_n 3, 1, 3, 0, 0, 0, 0)), (27, (.ifCond .ge 6, 3, 33, 0, 0, 0, 0)), (30, (.bipush (-14), 2, 0, 0, 0, (-14), 0))],
  [(32, (.ireturn, 1, 0, 0, 0, 0, 0)), (33, (.aload_n 0, 1, 0, 0, 0, 0, 0)), (34, (.getfield 57, 3, 6, 8, 35, 39, 0)), (37, (.iload_n 1, 1, 1, 0, 0, 0, 0)), (38, (.iload_n 2, 1, 2, 0, 0, 0, 0)), (39, (.iload_n 3, 1, 3, 0, 0, 0, 0)), (40, (.invokevirtual 312, 3, 15, 2132, 0, 1133, 0)), (43, (.iconst 1, 1, 0, 0, 0, 1, 0)), (44, (.ireturn, 1, 0, 0, 0, 0, 0))]]
def tX6_lay : List (List (Nat × E_)) := [[(0, (.iload_n 1, 1, 1, 0, 0, 0, 0)), (1, (.ifCond .lt 8, 3, 9, 0, 0, 0, 0)), (4, (.iload_n 1, 1, 1, 0, 0, 0, 0)), (5, (.iconst 4, 1, 0, 0, 0, 4, 0)), (6, (.if_icmp .lt 5, 3, 11, 0, 0, 0, 0)), (9, (.iconst (-1), 1, 0, 0, 0, (-1), 0)), (10, (.ireturn, 1, 0, 0, 0, 0, 0)), (11, (.aload_n 0, 1, 0, 0, 0, 0, 0)), (12, (.getfield 57, 3, 6, 8, 35, 39, 0)), (15, (.iload_n 1, 1, 1, 0, 0, 0, 0)), (16, (.iload_n 2, 1, 2, 0, 0, 0, 0)), (17, (.iload_n 3, 1, 3, 0, 0, 0, 0)), (18, (.invokevirtual 316, 3, 16, 2116, 1, 1148, 0)), (21, (.istore 4, 2, 4, 0, 0, 0, 0)), (23, (.iload 4, 2, 4, 0, 0, 0, 0)), (25, (.ifCond .ne 7, 3, 32, 0, 0, 0, 0)), (28, (.iconst 1, 1, 0, 0, 0, 1, 0)), (29, (.goto 8, 3, 37, 0, 0, 0, 0))],
  [(32, (.bipush (-10), 2, 0, 0, 0, (-10), 0)), (34, (.iload 4, 2, 4, 0, 0, 0, 0)), (36, (.isub, 1, 0, 0, 0, 0, 0)), (37, (.ireturn, 1, 0, 0, 0, 0, 0))]]
def tX6_read : List (List (Nat × E_)) := [[(0, (.iload_n 1, 1, 1, 0, 0, 0, 0)), (1, (.ifCond .lt 29, 3, 30, 0, 0, 0, 0)), (4, (.iload_n 1, 1, 1, 0, 0, 0, 0)), (5, (.iconst 4, 1, 0, 0, 0, 4, 0)), (6, (.if_icmp .ge 24, 3, 30, 0, 0, 0, 0)), (9, (.iload_n 2, 1, 2, 0, 0, 0, 0)), (10, (.ifCond .lt 20, 3, 30, 0, 0, 0, 0)), (13, (.iload_n 2, 1, 2, 0, 0, 0, 0)), (14, (.iconst 3, 1, 0, 0, 0, 3, 0)), (15, (.if_icmp .ge 15, 3, 30, 0, 0, 0, 0)), (18, (.iload 4, 2, 4, 0, 0, 0, 0)), (20, (.ifCond .lt 10, 3, 30, 0, 0, 0, 0)), (23, (.iload 4, 2, 4, 0, 0, 0, 0)), (25, (.bipush 13, 2, 0, 0, 0, 13, 0)), (27, (.if_icmp .le 5, 3, 32, 0, 0, 0, 0)), (30, (.iconst (-1), 1, 0, 0, 0, (-1), 0)), (31, (.ireturn, 1, 0, 0, 0, 0, 0))],
  [(32, (.iload 4, 2, 4, 0, 0, 0, 0)), (34, (.ifCond .ne 7, 3, 41, 0, 0, 0, 0)), (37, (.iconst 0, 1, 0, 0, 0, 0, 0)), (38, (.goto 12, 3, 50, 0, 0, 0, 0)), (41, (.aload_n 0, 1, 0, 0, 0, 0, 0)), (42, (.getfield 57, 3, 6, 8, 35, 39, 0)), (45, (.iload_n 1, 1, 1, 0, 0, 0, 0)), (46, (.iload_n 2, 1, 2, 0, 0, 0, 0)), (47, (.invokevirtual 319, 3, 17, 2099, 1, 1161, 0)), (50, (.istore 5, 2, 5, 0, 0, 0, 0)), (52, (.iload 5, 2, 5, 0, 0, 0, 0)), (54, (.ifCond .ne 17, 3, 71, 0, 0, 0, 0)), (57, (.aload_n 0, 1, 0, 0, 0, 0, 0)), (58, (.getfield 57, 3, 6, 8, 35, 39, 0)), (61, (.iload_n 1, 1, 1, 0, 0, 0, 0)), (62, (.iload_n 3, 1, 3, 0, 0, 0, 0)), (63, (.iload 4, 2, 4, 0, 0, 0, 0))],
  [(65, (.invokevirtual 322, 3, 18, 2116, 1, 1165, 0)), (68, (.goto 4, 3, 72, 0, 0, 0, 0)), (71, (.iconst 0, 1, 0, 0, 0, 0, 0)), (72, (.istore 6, 2, 6, 0, 0, 0, 0)), (74, (.aload_n 0, 1, 0, 0, 0, 0, 0)), (75, (.iload_n 1, 1, 1, 0, 0, 0, 0)), (76, (.iload_n 3, 1, 3, 0, 0, 0, 0)), (77, (.iload 6, 2, 6, 0, 0, 0, 0)), (79, (.invokevirtual 325, 3, 119, 6276, 1, 1170, 0)), (82, (.istore 7, 2, 7, 0, 0, 0, 0)), (84, (.iload 7, 2, 7, 0, 0, 0, 0)), (86, (.ifCond .eq 6, 3, 92, 0, 0, 0, 0)), (89, (.iload 7, 2, 7, 0, 0, 0, 0)), (91, (.ireturn, 1, 0, 0, 0, 0, 0)), (92, (.iconst 0, 1, 0, 0, 0, 0, 0)), (93, (.istore 8, 2, 8, 0, 0, 0, 0)), (95, (.iload 8, 2, 8, 0, 0, 0, 0))],
  [(97, (.iload 6, 2, 6, 0, 0, 0, 0)), (99, (.if_icmp .ge 64, 3, 163, 0, 0, 0, 0)), (102, (.iload_n 3, 1, 3, 0, 0, 0, 0)), (103, (.iconst 3, 1, 0, 0, 0, 3, 0)), (104, (.iload 8, 2, 8, 0, 0, 0, 0)), (106, (.imul, 1, 0, 0, 0, 0, 0)), (107, (.iadd, 1, 0, 0, 0, 0, 0)), (108, (.istore 9, 2, 9, 0, 0, 0, 0)), (110, (.aload_n 0, 1, 0, 0, 0, 0, 0)), (111, (.aload_n 0, 1, 0, 0, 0, 0, 0)), (112, (.getfield 57, 3, 6, 8, 35, 39, 0)), (115, (.iload_n 1, 1, 1, 0, 0, 0, 0)), (116, (.iload 9, 2, 9, 0, 0, 0, 0)), (118, (.invokevirtual 328, 3, 19, 2099, 1, 1174, 0)), (121, (.aload_n 0, 1, 0, 0, 0, 0, 0)), (122, (.getfield 57, 3, 6, 8, 35, 39, 0)), (125, (.iload_n 1, 1, 1, 0, 0, 0, 0)), (126, (.iload 9, 2, 9, 0, 0, 0, 0))],
  [(128, (.iconst 1, 1, 0, 0, 0, 1, 0)), (129, (.iadd, 1, 0, 0, 0, 0, 0)), (130, (.invokevirtual 328, 3, 19, 2099, 1, 1174, 0)), (133, (.aload_n 0, 1, 0, 0, 0, 0, 0)), (134, (.getfield 57, 3, 6, 8, 35, 39, 0)), (137, (.iload_n 1, 1, 1, 0, 0, 0, 0)), (138, (.iload 9, 2, 9, 0, 0, 0, 0)), (140, (.iconst 2, 1, 0, 0, 0, 2, 0)), (141, (.iadd, 1, 0, 0, 0, 0, 0)), (142, (.invokevirtual 328, 3, 19, 2099, 1, 1174, 0)), (145, (.iconst 1, 1, 0, 0, 0, 1, 0)), (146, (.if_icmp .ne 7, 3, 153, 0, 0, 0, 0)), (149, (.iconst 1, 1, 0, 0, 0, 1, 0)), (150, (.goto 4, 3, 154, 0, 0, 0, 0)), (153, (.iconst 0, 1, 0, 0, 0, 0, 0)), (154, (.invokevirtual 151, 3, 111, 6228, 0, 585, 0)), (157, (.iinc 8 1, 3, 8, 0, 0, 1, 0))],
  [(160, (.goto (-65), 3, 95, 0, 0, 0, 0)), (163, (.aload_n 0, 1, 0, 0, 0, 0, 0)), (164, (.iload 5, 2, 5, 0, 0, 0, 0)), (166, (.ifCond .eq 8, 3, 174, 0, 0, 0, 0)), (169, (.iload 5, 2, 5, 0, 0, 0, 0)), (171, (.goto 15, 3, 186, 0, 0, 0, 0)), (174, (.iload 6, 2, 6, 0, 0, 0, 0)), (176, (.iload 4, 2, 4, 0, 0, 0, 0)), (178, (.if_icmp .ge 7, 3, 185, 0, 0, 0, 0)), (181, (.iconst 2, 1, 0, 0, 0, 2, 0)), (182, (.goto 4, 3, 186, 0, 0, 0, 0)), (185, (.iconst 0, 1, 0, 0, 0, 0, 0)), (186, (.putfield 331, 3, 6, 9, 0, 1160, 0)), (189, (.iload 6, 2, 6, 0, 0, 0, 0)), (191, (.ireturn, 1, 0, 0, 0, 0, 0))]]
def tX6_torn : List (List (Nat × E_)) := [[(0, (.aload_n 0, 1, 0, 0, 0, 0, 0)), (1, (.getfield 331, 3, 6, 9, 0, 1160, 0)), (4, (.ireturn, 1, 0, 0, 0, 0, 0))]]
def tX6_count : List (List (Nat × E_)) := [[(0, (.iload_n 1, 1, 1, 0, 0, 0, 0)), (1, (.tableswitch 122 0 8 #[51, 59, 67, 75, 83, 91, 99, 104, 112], 51, 7, 0, 0, 0, 0))],
  [(52, (.aload_n 0, 1, 0, 0, 0, 0, 0)), (53, (.getfield 19, 3, 6, 1, 2, 20, 0)), (56, (.getfield 242, 3, 4, 0, 0, 899, 0)), (59, (.ireturn, 1, 0, 0, 0, 0, 0)), (60, (.aload_n 0, 1, 0, 0, 0, 0, 0)), (61, (.getfield 19, 3, 6, 1, 2, 20, 0))],
  [(64, (.getfield 334, 3, 4, 1, 0, 1021, 0)), (67, (.ireturn, 1, 0, 0, 0, 0, 0)), (68, (.aload_n 0, 1, 0, 0, 0, 0, 0)), (69, (.getfield 19, 3, 6, 1, 2, 20, 0)), (72, (.getfield 202, 3, 4, 2, 0, 761, 0)), (75, (.ireturn, 1, 0, 0, 0, 0, 0)), (76, (.aload_n 0, 1, 0, 0, 0, 0, 0)), (77, (.getfield 19, 3, 6, 1, 2, 20, 0)), (80, (.getfield 305, 3, 4, 3, 0, 1102, 0)), (83, (.ireturn, 1, 0, 0, 0, 0, 0)), (84, (.aload_n 0, 1, 0, 0, 0, 0, 0)), (85, (.getfield 29, 3, 6, 3, 19, 25, 0)), (88, (.getfield 148, 3, 1, 0, 0, 584, 0)), (91, (.ireturn, 1, 0, 0, 0, 0, 0)), (92, (.aload_n 0, 1, 0, 0, 0, 0, 0)), (93, (.getfield 29, 3, 6, 3, 19, 25, 0))],
  [(96, (.getfield 282, 3, 1, 5, 0, 1039, 0)), (99, (.ireturn, 1, 0, 0, 0, 0, 0)), (100, (.aload_n 0, 1, 0, 0, 0, 0, 0)), (101, (.invokevirtual 337, 3, 120, 6193, 1, 1197, 0)), (104, (.ireturn, 1, 0, 0, 0, 0, 0)), (105, (.aload_n 0, 1, 0, 0, 0, 0, 0)), (106, (.getfield 10, 3, 6, 0, 51, 16, 0)), (109, (.getfield 61, 3, 3, 1, 0, 215, 0)), (112, (.ireturn, 1, 0, 0, 0, 0, 0)), (113, (.aload_n 0, 1, 0, 0, 0, 0, 0)), (114, (.getfield 57, 3, 6, 8, 35, 39, 0)), (117, (.getfield 340, 3, 2, 0, 1, 1196, 0)), (120, (.iconst 0, 1, 0, 0, 0, 0, 0)), (121, (.iaload, 1, 0, 0, 0, 0, 0)), (122, (.ireturn, 1, 0, 0, 0, 0, 0)), (123, (.iconst (-1), 1, 0, 0, 0, (-1), 0)), (124, (.ireturn, 1, 0, 0, 0, 0, 0))]]
def tX6_isIn : List (List (Nat × E_)) := [[(0, (.iload_n 0, 1, 0, 0, 0, 0, 0)), (1, (.ifCond .lt 22, 3, 23, 0, 0, 0, 0)), (4, (.iload_n 0, 1, 0, 0, 0, 0, 0)), (5, (.bipush 31, 2, 0, 0, 0, 31, 0)), (7, (.if_icmp .ge 16, 3, 23, 0, 0, 0, 0)), (10, (.iload_n 1, 1, 1, 0, 0, 0, 0)), (11, (.iload_n 0, 1, 0, 0, 0, 0, 0)), (12, (.ishr, 1, 0, 0, 0, 0, 0)), (13, (.iconst 1, 1, 0, 0, 0, 1, 0)), (14, (.iand, 1, 0, 0, 0, 0, 0)), (15, (.iconst 1, 1, 0, 0, 0, 1, 0)), (16, (.if_icmp .ne 7, 3, 23, 0, 0, 0, 0)), (19, (.iconst 1, 1, 0, 0, 0, 1, 0)), (20, (.goto 4, 3, 24, 0, 0, 0, 0)), (23, (.iconst 0, 1, 0, 0, 0, 0, 0)), (24, (.ireturn, 1, 0, 0, 1, 0, 0))]]
def tX6_ofLowestTerms : List (List (Nat × E_)) := [[(0, (.iload_n 1, 1, 1, 0, 0, 0, 0)), (1, (.istore_n 3, 1, 3, 0, 0, 0, 0)), (2, (.iload_n 0, 1, 0, 0, 0, 0, 0)), (3, (.istore 4, 2, 4, 0, 0, 0, 0)), (5, (.iconst 0, 1, 0, 0, 0, 0, 0)), (6, (.istore 5, 2, 5, 0, 0, 0, 0)), (8, (.iload 5, 2, 5, 0, 0, 0, 0)), (10, (.bipush 64, 2, 0, 0, 0, 64, 0)), (12, (.if_icmp .ge 27, 3, 39, 0, 0, 0, 0)), (15, (.iload 4, 2, 4, 0, 0, 0, 0)), (17, (.ifCond .eq 22, 3, 39, 0, 0, 0, 0)), (20, (.iload_n 3, 1, 3, 0, 0, 0, 0)), (21, (.iload 4, 2, 4, 0, 0, 0, 0)), (23, (.irem, 1, 0, 0, 0, 0, 0)), (24, (.istore 6, 2, 6, 0, 0, 0, 0)), (26, (.iload 4, 2, 4, 0, 0, 0, 0)), (28, (.istore_n 3, 1, 3, 0, 0, 0, 0)), (29, (.iload 6, 2, 6, 0, 0, 0, 0)), (31, (.istore 4, 2, 4, 0, 0, 0, 0))],
  [(33, (.iinc 5 1, 3, 5, 0, 0, 1, 0)), (36, (.goto (-28), 3, 8, 0, 0, 0, 0)), (39, (.iload_n 3, 1, 3, 0, 0, 0, 0)), (40, (.ifCond .ne 5, 3, 45, 0, 0, 0, 0)), (43, (.iconst 0, 1, 0, 0, 0, 0, 0)), (44, (.ireturn, 1, 0, 0, 0, 0, 0)), (45, (.iload_n 2, 1, 2, 0, 0, 0, 0)), (46, (.ifCond .eq 9, 3, 55, 0, 0, 0, 0)), (49, (.iload_n 1, 1, 1, 0, 0, 0, 0)), (50, (.iload_n 3, 1, 3, 0, 0, 0, 0)), (51, (.idiv, 1, 0, 0, 0, 0, 0)), (52, (.goto 6, 3, 58, 0, 0, 0, 0)), (55, (.iload_n 0, 1, 0, 0, 0, 0, 0)), (56, (.iload_n 3, 1, 3, 0, 0, 0, 0)), (57, (.idiv, 1, 0, 0, 0, 0, 0)), (58, (.ireturn, 1, 0, 0, 0, 0, 0))]]
def tX6_takeShowing : List (List (Nat × E_)) := [[(0, (.aload_n 0, 1, 0, 0, 0, 0, 0)), (1, (.getfield 29, 3, 6, 3, 19, 25, 0)), (4, (.getfield 148, 3, 1, 0, 0, 584, 0)), (7, (.istore 4, 2, 4, 0, 0, 0, 0)), (9, (.iload 4, 2, 4, 0, 0, 0, 0)), (11, (.ifCond .lt 10, 3, 21, 0, 0, 0, 0)), (14, (.iload 4, 2, 4, 0, 0, 0, 0)), (16, (.bipush 24, 2, 0, 0, 0, 24, 0)), (18, (.if_icmp .lt 4, 3, 22, 0, 0, 0, 0)), (21, (.return_, 1, 0, 0, 0, 0, 0)), (22, (.aload_n 0, 1, 0, 0, 0, 0, 0)), (23, (.getfield 29, 3, 6, 3, 19, 25, 0)), (26, (.getfield 173, 3, 1, 1, 1, 589, 0)), (29, (.iload 4, 2, 4, 0, 0, 0, 0)), (31, (.iload_n 1, 1, 1, 0, 0, 0, 0))],
  [(32, (.iastore, 1, 0, 0, 0, 0, 0)), (33, (.aload_n 0, 1, 0, 0, 0, 0, 0)), (34, (.getfield 29, 3, 6, 3, 19, 25, 0)), (37, (.getfield 176, 3, 1, 2, 1, 590, 0)), (40, (.iload 4, 2, 4, 0, 0, 0, 0)), (42, (.iload_n 2, 1, 2, 0, 0, 0, 0)), (43, (.iastore, 1, 0, 0, 0, 0, 0)), (44, (.aload_n 0, 1, 0, 0, 0, 0, 0)), (45, (.getfield 29, 3, 6, 3, 19, 25, 0)), (48, (.getfield 179, 3, 1, 3, 1, 591, 0)), (51, (.iload 4, 2, 4, 0, 0, 0, 0)), (53, (.iload_n 3, 1, 3, 0, 0, 0, 0)), (54, (.bastore, 1, 0, 0, 0, 0, 0)), (55, (.aload_n 0, 1, 0, 0, 0, 0, 0)), (56, (.getfield 29, 3, 6, 3, 19, 25, 0)), (59, (.dup, 1, 0, 0, 0, 0, 0)), (60, (.getfield 148, 3, 1, 0, 0, 584, 0)), (63, (.iconst 1, 1, 0, 0, 0, 1, 0))],
  [(64, (.iadd, 1, 0, 0, 0, 0, 0)), (65, (.putfield 148, 3, 1, 0, 0, 584, 0)), (68, (.aload_n 0, 1, 0, 0, 0, 0, 0)), (69, (.getfield 40, 3, 6, 5, 3, 30, 0)), (72, (.aload_n 0, 1, 0, 0, 0, 0, 0)), (73, (.getfield 19, 3, 6, 1, 2, 20, 0)), (76, (.aload_n 0, 1, 0, 0, 0, 0, 0)), (77, (.getfield 19, 3, 6, 1, 2, 20, 0)), (80, (.invokevirtual 166, 3, 50, 4113, 1, 592, 0)), (83, (.iload_n 1, 1, 1, 0, 0, 0, 0)), (84, (.iload_n 2, 1, 2, 0, 0, 0, 0)), (85, (.iload_n 3, 1, 3, 0, 0, 0, 0)), (86, (.invokevirtual 343, 3, 2, 150, 1, 593, 0)), (89, (.pop, 1, 0, 0, 0, 0, 0)), (90, (.return_, 1, 0, 0, 0, 0, 0))]]
def tX6_thinkAgain : List (List (Nat × E_)) := [[(0, (.aload_n 0, 1, 0, 0, 0, 0, 0)), (1, (.getfield 40, 3, 6, 5, 3, 30, 0)), (4, (.aload_n 0, 1, 0, 0, 0, 0, 0)), (5, (.getfield 19, 3, 6, 1, 2, 20, 0)), (8, (.invokevirtual 84, 3, 0, 50, 0, 418, 0)), (11, (.iconst 0, 1, 0, 0, 0, 0, 0)), (12, (.istore_n 1, 1, 1, 0, 0, 0, 0)), (13, (.iload_n 1, 1, 1, 0, 0, 0, 0)), (14, (.aload_n 0, 1, 0, 0, 0, 0, 0)), (15, (.getfield 29, 3, 6, 3, 19, 25, 0)), (18, (.getfield 148, 3, 1, 0, 0, 584, 0)), (21, (.if_icmp .ge 61, 3, 82, 0, 0, 0, 0)), (24, (.iload_n 1, 1, 1, 0, 0, 0, 0)), (25, (.bipush 24, 2, 0, 0, 0, 24, 0)), (27, (.if_icmp .ge 55, 3, 82, 0, 0, 0, 0)), (30, (.aload_n 0, 1, 0, 0, 0, 0, 0)), (31, (.getfield 40, 3, 6, 5, 3, 30, 0))],
  [(34, (.aload_n 0, 1, 0, 0, 0, 0, 0)), (35, (.getfield 19, 3, 6, 1, 2, 20, 0)), (38, (.aload_n 0, 1, 0, 0, 0, 0, 0)), (39, (.getfield 19, 3, 6, 1, 2, 20, 0)), (42, (.invokevirtual 166, 3, 50, 4113, 1, 592, 0)), (45, (.aload_n 0, 1, 0, 0, 0, 0, 0)), (46, (.getfield 29, 3, 6, 3, 19, 25, 0)), (49, (.getfield 173, 3, 1, 1, 1, 589, 0)), (52, (.iload_n 1, 1, 1, 0, 0, 0, 0)), (53, (.iaload, 1, 0, 0, 0, 0, 0)), (54, (.aload_n 0, 1, 0, 0, 0, 0, 0)), (55, (.getfield 29, 3, 6, 3, 19, 25, 0)), (58, (.getfield 176, 3, 1, 2, 1, 590, 0)), (61, (.iload_n 1, 1, 1, 0, 0, 0, 0)), (62, (.iaload, 1, 0, 0, 0, 0, 0)), (63, (.aload_n 0, 1, 0, 0, 0, 0, 0))],
  [(64, (.getfield 29, 3, 6, 3, 19, 25, 0)), (67, (.getfield 179, 3, 1, 3, 1, 591, 0)), (70, (.iload_n 1, 1, 1, 0, 0, 0, 0)), (71, (.baload, 1, 0, 0, 0, 0, 0)), (72, (.invokevirtual 343, 3, 2, 150, 1, 593, 0)), (75, (.pop, 1, 0, 0, 0, 0, 0)), (76, (.iinc 1 1, 3, 1, 0, 0, 1, 0)), (79, (.goto (-66), 3, 13, 0, 0, 0, 0)), (82, (.return_, 1, 0, 0, 0, 0, 0))]]
def tX6_chanceOfFirst : List (List (Nat × E_)) := [[(0, (.aload_n 0, 1, 0, 0, 0, 0, 0)), (1, (.getfield 44, 3, 6, 6, 4, 31, 0)), (4, (.aload_n 0, 1, 0, 0, 0, 0, 0)), (5, (.getfield 19, 3, 6, 1, 2, 20, 0)), (8, (.invokevirtual 84, 3, 0, 50, 0, 418, 0)), (11, (.aload_n 0, 1, 0, 0, 0, 0, 0)), (12, (.getfield 44, 3, 6, 6, 4, 31, 0)), (15, (.aload_n 0, 1, 0, 0, 0, 0, 0)), (16, (.getfield 19, 3, 6, 1, 2, 20, 0)), (19, (.aload_n 0, 1, 0, 0, 0, 0, 0)), (20, (.getfield 19, 3, 6, 1, 2, 20, 0)), (23, (.invokevirtual 166, 3, 50, 4113, 1, 592, 0)), (26, (.iload_n 1, 1, 1, 0, 0, 0, 0)), (27, (.iload_n 2, 1, 2, 0, 0, 0, 0)), (28, (.aload_n 0, 1, 0, 0, 0, 0, 0)), (29, (.getfield 19, 3, 6, 1, 2, 20, 0))],
  [(32, (.iload_n 1, 1, 1, 0, 0, 0, 0)), (33, (.iload_n 2, 1, 2, 0, 0, 0, 0)), (34, (.invokevirtual 155, 3, 55, 4147, 1, 648, 0)), (37, (.invokevirtual 343, 3, 2, 150, 1, 593, 0)), (40, (.pop, 1, 0, 0, 0, 0, 0)), (41, (.aload_n 0, 1, 0, 0, 0, 0, 0)), (42, (.getfield 44, 3, 6, 6, 4, 31, 0)), (45, (.aload_n 0, 1, 0, 0, 0, 0, 0)), (46, (.getfield 19, 3, 6, 1, 2, 20, 0)), (49, (.iload_n 1, 1, 1, 0, 0, 0, 0)), (50, (.invokevirtual 278, 3, 10, 83, 1, 910, 0)), (53, (.ireturn, 1, 0, 0, 0, 0, 0))]]
def tX6_greatestLeft : List (List (Nat × E_)) := [[(0, (.aload_n 0, 1, 0, 0, 0, 0, 0)), (1, (.getfield 19, 3, 6, 1, 2, 20, 0)), (4, (.aload_n 0, 1, 0, 0, 0, 0, 0)), (5, (.getfield 29, 3, 6, 3, 19, 25, 0)), (8, (.getfield 170, 3, 1, 4, 0, 687, 0)), (11, (.aload_n 0, 1, 0, 0, 0, 0, 0)), (12, (.getfield 40, 3, 6, 5, 3, 30, 0)), (15, (.aload_n 0, 1, 0, 0, 0, 0, 0)), (16, (.getfield 19, 3, 6, 1, 2, 20, 0)), (19, (.iload_n 1, 1, 1, 0, 0, 0, 0)), (20, (.iload_n 2, 1, 2, 0, 0, 0, 0)), (21, (.iconst 1, 1, 0, 0, 0, 1, 0)), (22, (.invokevirtual 264, 3, 12, 117, 1, 975, 0)), (25, (.iand, 1, 0, 0, 0, 0, 0)), (26, (.invokevirtual 251, 3, 58, 4162, 1, 915, 0)), (29, (.istore_n 3, 1, 3, 0, 0, 0, 0)), (30, (.aload_n 0, 1, 0, 0, 0, 0, 0)), (31, (.getfield 19, 3, 6, 1, 2, 20, 0))],
  [(34, (.aload_n 0, 1, 0, 0, 0, 0, 0)), (35, (.getfield 29, 3, 6, 3, 19, 25, 0)), (38, (.getfield 170, 3, 1, 4, 0, 687, 0)), (41, (.aload_n 0, 1, 0, 0, 0, 0, 0)), (42, (.getfield 40, 3, 6, 5, 3, 30, 0)), (45, (.aload_n 0, 1, 0, 0, 0, 0, 0)), (46, (.getfield 19, 3, 6, 1, 2, 20, 0)), (49, (.iload_n 1, 1, 1, 0, 0, 0, 0)), (50, (.iload_n 2, 1, 2, 0, 0, 0, 0)), (51, (.iconst 0, 1, 0, 0, 0, 0, 0)), (52, (.invokevirtual 264, 3, 12, 117, 1, 975, 0)), (55, (.iand, 1, 0, 0, 0, 0, 0)), (56, (.invokevirtual 251, 3, 58, 4162, 1, 915, 0)), (59, (.istore 4, 2, 4, 0, 0, 0, 0)), (61, (.aload_n 0, 1, 0, 0, 0, 0, 0)), (62, (.getfield 19, 3, 6, 1, 2, 20, 0))],
  [(65, (.aload_n 0, 1, 0, 0, 0, 0, 0)), (66, (.getfield 29, 3, 6, 3, 19, 25, 0)), (69, (.getfield 170, 3, 1, 4, 0, 687, 0)), (72, (.aload_n 0, 1, 0, 0, 0, 0, 0)), (73, (.getfield 40, 3, 6, 5, 3, 30, 0)), (76, (.aload_n 0, 1, 0, 0, 0, 0, 0)), (77, (.getfield 19, 3, 6, 1, 2, 20, 0)), (80, (.iload_n 1, 1, 1, 0, 0, 0, 0)), (81, (.iload_n 2, 1, 2, 0, 0, 0, 0)), (82, (.bipush (-4), 2, 0, 0, 0, (-4), 0)), (84, (.invokevirtual 264, 3, 12, 117, 1, 975, 0)), (87, (.iand, 1, 0, 0, 0, 0, 0)), (88, (.invokevirtual 251, 3, 58, 4162, 1, 915, 0)), (91, (.istore 5, 2, 5, 0, 0, 0, 0)), (93, (.iload_n 3, 1, 3, 0, 0, 0, 0)), (94, (.iload 4, 2, 4, 0, 0, 0, 0))],
  [(96, (.iload 5, 2, 5, 0, 0, 0, 0)), (98, (.invokestatic 347, 3, 1001, 258, 1, 1004, 0)), (101, (.invokestatic 347, 3, 1001, 258, 1, 1004, 0)), (104, (.ireturn, 1, 0, 0, 0, 0, 0))]]
def tX6_areSure : List (List (Nat × E_)) := [[(0, (.aload_n 0, 1, 0, 0, 0, 0, 0)), (1, (.getfield 19, 3, 6, 1, 2, 20, 0)), (4, (.iload_n 1, 1, 1, 0, 0, 0, 0)), (5, (.invokevirtual 352, 3, 53, 4130, 1, 1022, 0)), (8, (.istore_n 3, 1, 3, 0, 0, 0, 0)), (9, (.iconst 0, 1, 0, 0, 0, 0, 0)), (10, (.istore 4, 2, 4, 0, 0, 0, 0)), (12, (.iload 4, 2, 4, 0, 0, 0, 0)), (14, (.aload_n 0, 1, 0, 0, 0, 0, 0)), (15, (.getfield 19, 3, 6, 1, 2, 20, 0)), (18, (.getfield 334, 3, 4, 1, 0, 1021, 0)), (21, (.if_icmp .ge 66, 3, 87, 0, 0, 0, 0)), (24, (.aload_n 0, 1, 0, 0, 0, 0, 0)), (25, (.getfield 19, 3, 6, 1, 2, 20, 0)), (28, (.getfield 113, 3, 4, 9, 1, 527, 0)), (31, (.iload 4, 2, 4, 0, 0, 0, 0))],
  [(33, (.iaload, 1, 0, 0, 0, 0, 0)), (34, (.iload_n 3, 1, 3, 0, 0, 0, 0)), (35, (.if_icmp .eq 19, 3, 54, 0, 0, 0, 0)), (38, (.aload_n 0, 1, 0, 0, 0, 0, 0)), (39, (.getfield 19, 3, 6, 1, 2, 20, 0)), (42, (.iload 4, 2, 4, 0, 0, 0, 0)), (44, (.invokevirtual 116, 3, 56, 4162, 1, 532, 0)), (47, (.ifCond .eq 7, 3, 54, 0, 0, 0, 0)), (50, (.iconst 1, 1, 0, 0, 0, 1, 0)), (51, (.goto 4, 3, 55, 0, 0, 0, 0)), (54, (.iconst 0, 1, 0, 0, 0, 0, 0)), (55, (.istore 5, 2, 5, 0, 0, 0, 0)), (57, (.iload 5, 2, 5, 0, 0, 0, 0)), (59, (.ifCond .eq 22, 3, 81, 0, 0, 0, 0)), (62, (.aload_n 0, 1, 0, 0, 0, 0, 0)), (63, (.getfield 19, 3, 6, 1, 2, 20, 0))],
  [(66, (.getfield 113, 3, 4, 9, 1, 527, 0)), (69, (.iload 4, 2, 4, 0, 0, 0, 0)), (71, (.iaload, 1, 0, 0, 0, 0, 0)), (72, (.iload_n 3, 1, 3, 0, 0, 0, 0)), (73, (.ixor, 1, 0, 0, 0, 0, 0)), (74, (.iload_n 2, 1, 2, 0, 0, 0, 0)), (75, (.iand, 1, 0, 0, 0, 0, 0)), (76, (.ifCond .ne 5, 3, 81, 0, 0, 0, 0)), (79, (.iconst 0, 1, 0, 0, 0, 0, 0)), (80, (.ireturn, 1, 0, 0, 1, 0, 0)), (81, (.iinc 4 1, 3, 4, 0, 0, 1, 0)), (84, (.goto (-72), 3, 12, 0, 0, 0, 0)), (87, (.iconst 1, 1, 0, 0, 0, 1, 0)), (88, (.ireturn, 1, 0, 0, 1, 0, 0))]]
def tX6_fittingTheirs : List (List (Nat × E_)) := [[(0, (.aload_n 0, 1, 0, 0, 0, 0, 0)), (1, (.getfield 19, 3, 6, 1, 2, 20, 0)), (4, (.invokevirtual 355, 3, 49, 4113, 1, 1062, 0)), (7, (.istore_n 1, 1, 1, 0, 0, 0, 0)), (8, (.iconst 0, 1, 0, 0, 0, 0, 0)), (9, (.istore_n 2, 1, 2, 0, 0, 0, 0)), (10, (.iload_n 2, 1, 2, 0, 0, 0, 0)), (11, (.aload_n 0, 1, 0, 0, 0, 0, 0)), (12, (.getfield 29, 3, 6, 3, 19, 25, 0)), (15, (.getfield 282, 3, 1, 5, 0, 1039, 0)), (18, (.if_icmp .ge 43, 3, 61, 0, 0, 0, 0)), (21, (.iload_n 2, 1, 2, 0, 0, 0, 0)), (22, (.bipush 12, 2, 0, 0, 0, 12, 0)), (24, (.if_icmp .ge 37, 3, 61, 0, 0, 0, 0)), (27, (.iload_n 1, 1, 1, 0, 0, 0, 0)), (28, (.aload_n 0, 1, 0, 0, 0, 0, 0)), (29, (.getfield 19, 3, 6, 1, 2, 20, 0))],
  [(32, (.aload_n 0, 1, 0, 0, 0, 0, 0)), (33, (.getfield 29, 3, 6, 3, 19, 25, 0)), (36, (.getfield 285, 3, 1, 6, 1, 1040, 0)), (39, (.iload_n 2, 1, 2, 0, 0, 0, 0)), (40, (.iaload, 1, 0, 0, 0, 0, 0)), (41, (.aload_n 0, 1, 0, 0, 0, 0, 0)), (42, (.getfield 29, 3, 6, 3, 19, 25, 0)), (45, (.getfield 288, 3, 1, 7, 1, 1041, 0)), (48, (.iload_n 2, 1, 2, 0, 0, 0, 0)), (49, (.baload, 1, 0, 0, 0, 0, 0)), (50, (.invokevirtual 358, 3, 52, 4147, 1, 1063, 0)), (53, (.iand, 1, 0, 0, 0, 0, 0)), (54, (.istore_n 1, 1, 1, 0, 0, 0, 0)), (55, (.iinc 2 1, 3, 2, 0, 0, 1, 0)), (58, (.goto (-48), 3, 10, 0, 0, 0, 0)), (61, (.iload_n 1, 1, 1, 0, 0, 0, 0)), (62, (.ireturn, 1, 0, 0, 0, 0, 0))]]
def tX6_mostTelling : List (List (Nat × E_)) := [[(0, (.bipush (-4), 2, 0, 0, 0, (-4), 0)), (2, (.istore_n 2, 1, 2, 0, 0, 0, 0)), (3, (.iconst (-1), 1, 0, 0, 0, (-1), 0)), (4, (.istore_n 3, 1, 3, 0, 0, 0, 0)), (5, (.iconst 0, 1, 0, 0, 0, 0, 0)), (6, (.istore 4, 2, 4, 0, 0, 0, 0)), (8, (.iload 4, 2, 4, 0, 0, 0, 0)), (10, (.aload_n 0, 1, 0, 0, 0, 0, 0)), (11, (.getfield 19, 3, 6, 1, 2, 20, 0)), (14, (.getfield 242, 3, 4, 0, 0, 899, 0)), (17, (.if_icmp .ge 66, 3, 83, 0, 0, 0, 0)), (20, (.iload_n 1, 1, 1, 0, 0, 0, 0)), (21, (.aload_n 0, 1, 0, 0, 0, 0, 0)), (22, (.getfield 19, 3, 6, 1, 2, 20, 0)), (25, (.getfield 362, 3, 4, 5, 1, 1069, 0)), (28, (.iload 4, 2, 4, 0, 0, 0, 0)), (30, (.iaload, 1, 0, 0, 0, 0, 0)), (31, (.iconst (-1), 1, 0, 0, 0, (-1), 0))],
  [(32, (.ixor, 1, 0, 0, 0, 0, 0)), (33, (.iand, 1, 0, 0, 0, 0, 0)), (34, (.invokestatic 270, 3, 217, 17, 1, 1016, 0)), (37, (.istore 5, 2, 5, 0, 0, 0, 0)), (39, (.iload_n 1, 1, 1, 0, 0, 0, 0)), (40, (.aload_n 0, 1, 0, 0, 0, 0, 0)), (41, (.getfield 19, 3, 6, 1, 2, 20, 0)), (44, (.getfield 362, 3, 4, 5, 1, 1069, 0)), (47, (.iload 4, 2, 4, 0, 0, 0, 0)), (49, (.iaload, 1, 0, 0, 0, 0, 0)), (50, (.iand, 1, 0, 0, 0, 0, 0)), (51, (.invokestatic 270, 3, 217, 17, 1, 1016, 0)), (54, (.istore 6, 2, 6, 0, 0, 0, 0)), (56, (.iload 5, 2, 5, 0, 0, 0, 0)), (58, (.iload 6, 2, 6, 0, 0, 0, 0)), (60, (.invokestatic 365, 3, 1002, 258, 1, 1070, 0)), (63, (.istore 7, 2, 7, 0, 0, 0, 0))],
  [(65, (.iload 7, 2, 7, 0, 0, 0, 0)), (67, (.iload_n 3, 1, 3, 0, 0, 0, 0)), (68, (.if_icmp .le 9, 3, 77, 0, 0, 0, 0)), (71, (.iload 7, 2, 7, 0, 0, 0, 0)), (73, (.istore_n 3, 1, 3, 0, 0, 0, 0)), (74, (.iload 4, 2, 4, 0, 0, 0, 0)), (76, (.istore_n 2, 1, 2, 0, 0, 0, 0)), (77, (.iinc 4 1, 3, 4, 0, 0, 1, 0)), (80, (.goto (-72), 3, 8, 0, 0, 0, 0)), (83, (.iload_n 2, 1, 2, 0, 0, 0, 0)), (84, (.ireturn, 1, 0, 0, 0, 0, 0))]]
def tX6_otherSound : List (List (Nat × E_)) := [[(0, (.aload_n 0, 1, 0, 0, 0, 0, 0)), (1, (.getfield 19, 3, 6, 1, 2, 20, 0)), (4, (.iload_n 3, 1, 3, 0, 0, 0, 0)), (5, (.invokevirtual 352, 3, 53, 4130, 1, 1022, 0)), (8, (.istore 4, 2, 4, 0, 0, 0, 0)), (10, (.iload_n 2, 1, 2, 0, 0, 0, 0)), (11, (.iconst 1, 1, 0, 0, 0, 1, 0)), (12, (.if_icmp .ne 16, 3, 28, 0, 0, 0, 0)), (15, (.iload 4, 2, 4, 0, 0, 0, 0)), (17, (.iload_n 1, 1, 1, 0, 0, 0, 0)), (18, (.if_icmp .ne 8, 3, 26, 0, 0, 0, 0)), (21, (.bipush (-4), 2, 0, 0, 0, (-4), 0)), (23, (.goto 4, 3, 27, 0, 0, 0, 0)), (26, (.iconst (-1), 1, 0, 0, 0, (-1), 0)), (27, (.ireturn, 1, 0, 0, 0, 0, 0)), (28, (.iconst 0, 1, 0, 0, 0, 0, 0)), (29, (.istore 5, 2, 5, 0, 0, 0, 0)), (31, (.iload 5, 2, 5, 0, 0, 0, 0))],
  [(33, (.aload_n 0, 1, 0, 0, 0, 0, 0)), (34, (.getfield 19, 3, 6, 1, 2, 20, 0)), (37, (.getfield 202, 3, 4, 2, 0, 761, 0)), (40, (.if_icmp .ge 57, 3, 97, 0, 0, 0, 0)), (43, (.aload_n 0, 1, 0, 0, 0, 0, 0)), (44, (.getfield 19, 3, 6, 1, 2, 20, 0)), (47, (.iload 5, 2, 5, 0, 0, 0, 0)), (49, (.invokevirtual 352, 3, 53, 4130, 1, 1022, 0)), (52, (.istore 6, 2, 6, 0, 0, 0, 0)), (54, (.iload_n 2, 1, 2, 0, 0, 0, 0)), (55, (.iconst 2, 1, 0, 0, 0, 2, 0)), (56, (.if_icmp .ne 11, 3, 67, 0, 0, 0, 0)), (59, (.iload 4, 2, 4, 0, 0, 0, 0)), (61, (.iload 6, 2, 6, 0, 0, 0, 0)), (63, (.iand, 1, 0, 0, 0, 0, 0))],
  [(64, (.goto 10, 3, 74, 0, 0, 0, 0)), (67, (.iload 4, 2, 4, 0, 0, 0, 0)), (69, (.iload 6, 2, 6, 0, 0, 0, 0)), (71, (.iconst (-1), 1, 0, 0, 0, (-1), 0)), (72, (.ixor, 1, 0, 0, 0, 0, 0)), (73, (.iand, 1, 0, 0, 0, 0, 0)), (74, (.istore 7, 2, 7, 0, 0, 0, 0)), (76, (.iload 5, 2, 5, 0, 0, 0, 0)), (78, (.iload_n 3, 1, 3, 0, 0, 0, 0)), (79, (.if_icmp .eq 12, 3, 91, 0, 0, 0, 0)), (82, (.iload 7, 2, 7, 0, 0, 0, 0)), (84, (.iload_n 1, 1, 1, 0, 0, 0, 0)), (85, (.if_icmp .ne 6, 3, 91, 0, 0, 0, 0)), (88, (.iload 5, 2, 5, 0, 0, 0, 0)), (90, (.ireturn, 1, 0, 0, 0, 0, 0)), (91, (.iinc 5 1, 3, 5, 0, 0, 1, 0)), (94, (.goto (-63), 3, 31, 0, 0, 0, 0))],
  [(97, (.iconst (-1), 1, 0, 0, 0, (-1), 0)), (98, (.ireturn, 1, 0, 0, 0, 0, 0))]]
def tX6_firstWrongRead : List (List (Nat × E_)) := [[(0, (.iconst 0, 1, 0, 0, 0, 0, 0)), (1, (.istore 4, 2, 4, 0, 0, 0, 0)), (3, (.iload 4, 2, 4, 0, 0, 0, 0)), (5, (.iload_n 3, 1, 3, 0, 0, 0, 0)), (6, (.if_icmp .ge 120, 3, 126, 0, 0, 0, 0)), (9, (.iload_n 2, 1, 2, 0, 0, 0, 0)), (10, (.iconst 3, 1, 0, 0, 0, 3, 0)), (11, (.iload 4, 2, 4, 0, 0, 0, 0)), (13, (.imul, 1, 0, 0, 0, 0, 0)), (14, (.iadd, 1, 0, 0, 0, 0, 0)), (15, (.istore 5, 2, 5, 0, 0, 0, 0)), (17, (.aload_n 0, 1, 0, 0, 0, 0, 0)), (18, (.getfield 57, 3, 6, 8, 35, 39, 0)), (21, (.iload_n 1, 1, 1, 0, 0, 0, 0)), (22, (.iload 5, 2, 5, 0, 0, 0, 0)), (24, (.iconst 2, 1, 0, 0, 0, 2, 0)), (25, (.iadd, 1, 0, 0, 0, 0, 0)), (26, (.invokevirtual 328, 3, 19, 2099, 1, 1174, 0)), (29, (.istore 6, 2, 6, 0, 0, 0, 0)), (31, (.aload_n 0, 1, 0, 0, 0, 0, 0))],
  [(32, (.getfield 19, 3, 6, 1, 2, 20, 0)), (35, (.aload_n 0, 1, 0, 0, 0, 0, 0)), (36, (.getfield 57, 3, 6, 8, 35, 39, 0)), (39, (.iload_n 1, 1, 1, 0, 0, 0, 0)), (40, (.iload 5, 2, 5, 0, 0, 0, 0)), (42, (.invokevirtual 328, 3, 19, 2099, 1, 1174, 0)), (45, (.invokevirtual 120, 3, 45, 4130, 1, 545, 0)), (48, (.ifCond .eq 29, 3, 77, 0, 0, 0, 0)), (51, (.aload_n 0, 1, 0, 0, 0, 0, 0)), (52, (.getfield 19, 3, 6, 1, 2, 20, 0)), (55, (.aload_n 0, 1, 0, 0, 0, 0, 0)), (56, (.getfield 57, 3, 6, 8, 35, 39, 0)), (59, (.iload_n 1, 1, 1, 0, 0, 0, 0)), (60, (.iload 5, 2, 5, 0, 0, 0, 0)), (62, (.iconst 1, 1, 0, 0, 0, 1, 0)), (63, (.iadd, 1, 0, 0, 0, 0, 0))],
  [(64, (.invokevirtual 328, 3, 19, 2099, 1, 1174, 0)), (67, (.invokevirtual 93, 3, 43, 4130, 1, 508, 0)), (70, (.ifCond .eq 7, 3, 77, 0, 0, 0, 0)), (73, (.iconst 1, 1, 0, 0, 0, 1, 0)), (74, (.goto 4, 3, 78, 0, 0, 0, 0)), (77, (.iconst 0, 1, 0, 0, 0, 0, 0)), (78, (.istore 7, 2, 7, 0, 0, 0, 0)), (80, (.iload 7, 2, 7, 0, 0, 0, 0)), (82, (.ifCond .eq 14, 3, 96, 0, 0, 0, 0)), (85, (.iload 6, 2, 6, 0, 0, 0, 0)), (87, (.ifCond .eq 15, 3, 102, 0, 0, 0, 0)), (90, (.iload 6, 2, 6, 0, 0, 0, 0)), (92, (.iconst 1, 1, 0, 0, 0, 1, 0)), (93, (.if_icmp .eq 9, 3, 102, 0, 0, 0, 0))],
  [(96, (.bipush (-20), 2, 0, 0, 0, (-20), 0)), (98, (.iload 4, 2, 4, 0, 0, 0, 0)), (100, (.isub, 1, 0, 0, 0, 0, 0)), (101, (.ireturn, 1, 0, 0, 0, 0, 0)), (102, (.aload_n 0, 1, 0, 0, 0, 0, 0)), (103, (.getfield 29, 3, 6, 3, 19, 25, 0)), (106, (.getfield 148, 3, 1, 0, 0, 584, 0)), (109, (.iload 4, 2, 4, 0, 0, 0, 0)), (111, (.iadd, 1, 0, 0, 0, 0, 0)), (112, (.bipush 24, 2, 0, 0, 0, 24, 0)), (114, (.if_icmp .lt 6, 3, 120, 0, 0, 0, 0)), (117, (.bipush (-3), 2, 0, 0, 0, (-3), 0)), (119, (.ireturn, 1, 0, 0, 0, 0, 0)), (120, (.iinc 4 1, 3, 4, 0, 0, 1, 0)), (123, (.goto (-120), 3, 3, 0, 0, 0, 0)), (126, (.iconst 0, 1, 0, 0, 0, 0, 0)), (127, (.ireturn, 1, 0, 0, 0, 0, 0))]]
def tX6_imagesKept : List (List (Nat × E_)) := [[(0, (.iconst 0, 1, 0, 0, 0, 0, 0)), (1, (.istore_n 1, 1, 1, 0, 0, 0, 0)), (2, (.iconst 0, 1, 0, 0, 0, 0, 0)), (3, (.istore_n 2, 1, 2, 0, 0, 0, 0)), (4, (.iload_n 2, 1, 2, 0, 0, 0, 0)), (5, (.iconst 2, 1, 0, 0, 0, 2, 0)), (6, (.if_icmp .ge 24, 3, 30, 0, 0, 0, 0)), (9, (.aload_n 0, 1, 0, 0, 0, 0, 0)), (10, (.getfield 33, 3, 6, 4, 1, 26, 0)), (13, (.iload_n 2, 1, 2, 0, 0, 0, 0)), (14, (.aaload, 1, 0, 0, 0, 0, 0)), (15, (.getfield 76, 3, 1, 8, 0, 240, 0)), (18, (.ifCond .eq 6, 3, 24, 0, 0, 0, 0)), (21, (.iinc 1 1, 3, 1, 0, 0, 1, 0)), (24, (.iinc 2 1, 3, 2, 0, 0, 1, 0)), (27, (.goto (-23), 3, 4, 0, 0, 0, 0)), (30, (.iload_n 1, 1, 1, 0, 0, 0, 0)), (31, (.ireturn, 1, 0, 0, 0, 0, 0))]]
def tX7_in : List (List (Nat × E_)) := [[(0, (.lload_n 0, 1, 0, 0, 0, 0, 0)), (1, (.lload_n 2, 1, 2, 0, 0, 0, 0)), (2, (.lcmp, 1, 0, 0, 0, 0, 0)), (3, (.ifCond .lt 14, 3, 17, 0, 0, 0, 0)), (6, (.lload_n 0, 1, 0, 0, 0, 0, 0)), (7, (.lload 4, 2, 4, 0, 0, 0, 0)), (9, (.lcmp, 1, 0, 0, 0, 0, 0)), (10, (.ifCond .gt 7, 3, 17, 0, 0, 0, 0)), (13, (.iconst 1, 1, 0, 0, 0, 1, 0)), (14, (.goto 4, 3, 18, 0, 0, 0, 0)), (17, (.iconst 0, 1, 0, 0, 0, 0, 0)), (18, (.ireturn, 1, 0, 0, 1, 0, 0))]]
def tX7_flag : List (List (Nat × E_)) := [[(0, (.iload_n 0, 1, 0, 0, 0, 0, 0)), (1, (.ifCond .eq 7, 3, 8, 0, 0, 0, 0)), (4, (.iconst 1, 1, 0, 0, 0, 1, 0)), (5, (.goto 4, 3, 9, 0, 0, 0, 0)), (8, (.iconst 0, 1, 0, 0, 0, 0, 0)), (9, (.ireturn, 1, 0, 0, 0, 0, 0))]]
def tX7_countOf : List (List (Nat × E_)) := [[(0, (.iconst 0, 1, 0, 0, 0, 0, 0)), (1, (.istore_n 1, 1, 1, 0, 0, 0, 0)), (2, (.iconst 0, 1, 0, 0, 0, 0, 0)), (3, (.istore_n 2, 1, 2, 0, 0, 0, 0)), (4, (.iload_n 2, 1, 2, 0, 0, 0, 0)), (5, (.bipush 16, 2, 0, 0, 0, 16, 0)), (7, (.if_icmp .ge 17, 3, 24, 0, 0, 0, 0)), (10, (.iload_n 1, 1, 1, 0, 0, 0, 0)), (11, (.iload_n 0, 1, 0, 0, 0, 0, 0)), (12, (.iload_n 2, 1, 2, 0, 0, 0, 0)), (13, (.ishr, 1, 0, 0, 0, 0, 0)), (14, (.iconst 1, 1, 0, 0, 0, 1, 0)), (15, (.iand, 1, 0, 0, 0, 0, 0)), (16, (.iadd, 1, 0, 0, 0, 0, 0)), (17, (.istore_n 1, 1, 1, 0, 0, 0, 0)), (18, (.iinc 2 1, 3, 2, 0, 0, 1, 0)), (21, (.goto (-17), 3, 4, 0, 0, 0, 0)), (24, (.iload_n 1, 1, 1, 0, 0, 0, 0)), (25, (.ireturn, 1, 0, 0, 0, 0, 0))]]
def tX7_firstDraft : List (List (Nat × E_)) := [[(0, (.aload_n 0, 1, 0, 0, 0, 0, 0)), (1, (.iconst 0, 1, 0, 0, 0, 0, 0)), (2, (.putfield 95, 3, 7, 9, 0, 137, 0)), (5, (.aload_n 0, 1, 0, 0, 0, 0, 0)), (6, (.iconst 0, 1, 0, 0, 0, 0, 0)), (7, (.putfield 99, 3, 7, 11, 0, 138, 0)), (10, (.aload_n 0, 1, 0, 0, 0, 0, 0)), (11, (.iconst 0, 1, 0, 0, 0, 0, 0)), (12, (.putfield 102, 3, 7, 14, 0, 139, 0)), (15, (.aload_n 0, 1, 0, 0, 0, 0, 0)), (16, (.iconst 0, 1, 0, 0, 0, 0, 0)), (17, (.putfield 105, 3, 7, 16, 0, 140, 0)), (20, (.return_, 1, 0, 0, 0, 0, 0))]]
def tX7_keepDraft : List (List (Nat × E_)) := [[(0, (.aload_n 0, 1, 0, 0, 0, 0, 0)), (1, (.aload_n 0, 1, 0, 0, 0, 0, 0)), (2, (.getfield 95, 3, 7, 9, 0, 137, 0)), (5, (.putfield 108, 3, 7, 0, 0, 145, 0)), (8, (.aload_n 0, 1, 0, 0, 0, 0, 0)), (9, (.aload_n 0, 1, 0, 0, 0, 0, 0)), (10, (.getfield 99, 3, 7, 11, 0, 138, 0)), (13, (.putfield 111, 3, 7, 2, 0, 146, 0)), (16, (.aload_n 0, 1, 0, 0, 0, 0, 0)), (17, (.aload_n 0, 1, 0, 0, 0, 0, 0)), (18, (.getfield 102, 3, 7, 14, 0, 139, 0)), (21, (.putfield 114, 3, 7, 5, 0, 147, 0)), (24, (.aload_n 0, 1, 0, 0, 0, 0, 0)), (25, (.aload_n 0, 1, 0, 0, 0, 0, 0)), (26, (.getfield 105, 3, 7, 16, 0, 140, 0)), (29, (.putfield 117, 3, 7, 7, 0, 148, 0))],
  [(32, (.iconst 0, 1, 0, 0, 0, 0, 0)), (33, (.istore_n 1, 1, 1, 0, 0, 0, 0)), (34, (.iload_n 1, 1, 1, 0, 0, 0, 0)), (35, (.bipush 8, 2, 0, 0, 0, 8, 0)), (37, (.if_icmp .ge 21, 3, 58, 0, 0, 0, 0)), (40, (.aload_n 0, 1, 0, 0, 0, 0, 0)), (41, (.getfield 7, 3, 7, 1, 1, 107, 0)), (44, (.iload_n 1, 1, 1, 0, 0, 0, 0)), (45, (.aload_n 0, 1, 0, 0, 0, 0, 0)), (46, (.getfield 25, 3, 7, 10, 1, 112, 0)), (49, (.iload_n 1, 1, 1, 0, 0, 0, 0)), (50, (.iaload, 1, 0, 0, 0, 0, 0)), (51, (.iastore, 1, 0, 0, 0, 0, 0)), (52, (.iinc 1 1, 3, 1, 0, 0, 1, 0)), (55, (.goto (-21), 3, 34, 0, 0, 0, 0)), (58, (.iconst 0, 1, 0, 0, 0, 0, 0)), (59, (.istore_n 1, 1, 1, 0, 0, 0, 0)), (60, (.iload_n 1, 1, 1, 0, 0, 0, 0)), (61, (.bipush 12, 2, 0, 0, 0, 12, 0)), (63, (.if_icmp .ge 110, 3, 173, 0, 0, 0, 0))],
  [(66, (.aload_n 0, 1, 0, 0, 0, 0, 0)), (67, (.getfield 13, 3, 7, 3, 1, 108, 0)), (70, (.iload_n 1, 1, 1, 0, 0, 0, 0)), (71, (.aload_n 0, 1, 0, 0, 0, 0, 0)), (72, (.getfield 28, 3, 7, 12, 1, 113, 0)), (75, (.iload_n 1, 1, 1, 0, 0, 0, 0)), (76, (.iaload, 1, 0, 0, 0, 0, 0)), (77, (.iastore, 1, 0, 0, 0, 0, 0)), (78, (.aload_n 0, 1, 0, 0, 0, 0, 0)), (79, (.getfield 16, 3, 7, 4, 1, 109, 0)), (82, (.iload_n 1, 1, 1, 0, 0, 0, 0)), (83, (.aload_n 0, 1, 0, 0, 0, 0, 0)), (84, (.getfield 31, 3, 7, 13, 1, 114, 0)), (87, (.iload_n 1, 1, 1, 0, 0, 0, 0)), (88, (.iaload, 1, 0, 0, 0, 0, 0)), (89, (.iastore, 1, 0, 0, 0, 0, 0)), (90, (.aload_n 0, 1, 0, 0, 0, 0, 0)), (91, (.getfield 40, 3, 7, 18, 1, 117, 0)), (94, (.iload_n 1, 1, 1, 0, 0, 0, 0)), (95, (.iconst 0, 1, 0, 0, 0, 0, 0))],
  [(96, (.iastore, 1, 0, 0, 0, 0, 0)), (97, (.iconst 0, 1, 0, 0, 0, 0, 0)), (98, (.istore_n 2, 1, 2, 0, 0, 0, 0)), (99, (.iload_n 2, 1, 2, 0, 0, 0, 0)), (100, (.aload_n 0, 1, 0, 0, 0, 0, 0)), (101, (.getfield 108, 3, 7, 0, 0, 145, 0)), (104, (.if_icmp .ge 63, 3, 167, 0, 0, 0, 0)), (107, (.aload_n 0, 1, 0, 0, 0, 0, 0)), (108, (.getfield 40, 3, 7, 18, 1, 117, 0)), (111, (.iload_n 1, 1, 1, 0, 0, 0, 0)), (112, (.dup2, 1, 0, 0, 0, 0, 0)), (113, (.iaload, 1, 0, 0, 0, 0, 0)), (114, (.aload_n 0, 1, 0, 0, 0, 0, 0)), (115, (.getfield 7, 3, 7, 1, 1, 107, 0)), (118, (.iload_n 2, 1, 2, 0, 0, 0, 0)), (119, (.iaload, 1, 0, 0, 0, 0, 0)), (120, (.aload_n 0, 1, 0, 0, 0, 0, 0)), (121, (.getfield 13, 3, 7, 3, 1, 108, 0)), (124, (.iload_n 1, 1, 1, 0, 0, 0, 0)), (125, (.iaload, 1, 0, 0, 0, 0, 0)), (126, (.iand, 1, 0, 0, 0, 0, 0)), (127, (.aload_n 0, 1, 0, 0, 0, 0, 0))],
  [(128, (.getfield 13, 3, 7, 3, 1, 108, 0)), (131, (.iload_n 1, 1, 1, 0, 0, 0, 0)), (132, (.iaload, 1, 0, 0, 0, 0, 0)), (133, (.if_icmp .ne 25, 3, 158, 0, 0, 0, 0)), (136, (.aload_n 0, 1, 0, 0, 0, 0, 0)), (137, (.getfield 7, 3, 7, 1, 1, 107, 0)), (140, (.iload_n 2, 1, 2, 0, 0, 0, 0)), (141, (.iaload, 1, 0, 0, 0, 0, 0)), (142, (.aload_n 0, 1, 0, 0, 0, 0, 0)), (143, (.getfield 16, 3, 7, 4, 1, 109, 0)), (146, (.iload_n 1, 1, 1, 0, 0, 0, 0)), (147, (.iaload, 1, 0, 0, 0, 0, 0)), (148, (.iand, 1, 0, 0, 0, 0, 0)), (149, (.ifCond .ne 9, 3, 158, 0, 0, 0, 0)), (152, (.iconst 1, 1, 0, 0, 0, 1, 0)), (153, (.iload_n 2, 1, 2, 0, 0, 0, 0)), (154, (.ishl, 1, 0, 0, 0, 0, 0)), (155, (.goto 4, 3, 159, 0, 0, 0, 0)), (158, (.iconst 0, 1, 0, 0, 0, 0, 0)), (159, (.ior, 1, 0, 0, 0, 0, 0))],
  [(160, (.iastore, 1, 0, 0, 0, 0, 0)), (161, (.iinc 2 1, 3, 2, 0, 0, 1, 0)), (164, (.goto (-65), 3, 99, 0, 0, 0, 0)), (167, (.iinc 1 1, 3, 1, 0, 0, 1, 0)), (170, (.goto (-110), 3, 60, 0, 0, 0, 0)), (173, (.iconst 0, 1, 0, 0, 0, 0, 0)), (174, (.istore_n 1, 1, 1, 0, 0, 0, 0)), (175, (.iload_n 1, 1, 1, 0, 0, 0, 0)), (176, (.iconst 4, 1, 0, 0, 0, 4, 0)), (177, (.if_icmp .ge 21, 3, 198, 0, 0, 0, 0)), (180, (.aload_n 0, 1, 0, 0, 0, 0, 0)), (181, (.getfield 19, 3, 7, 6, 1, 110, 0)), (184, (.iload_n 1, 1, 1, 0, 0, 0, 0)), (185, (.aload_n 0, 1, 0, 0, 0, 0, 0)), (186, (.getfield 34, 3, 7, 15, 1, 115, 0)), (189, (.iload_n 1, 1, 1, 0, 0, 0, 0)), (190, (.iaload, 1, 0, 0, 0, 0, 0)), (191, (.iastore, 1, 0, 0, 0, 0, 0))],
  [(192, (.iinc 1 1, 3, 1, 0, 0, 1, 0)), (195, (.goto (-20), 3, 175, 0, 0, 0, 0)), (198, (.iconst 0, 1, 0, 0, 0, 0, 0)), (199, (.istore_n 1, 1, 1, 0, 0, 0, 0)), (200, (.iload_n 1, 1, 1, 0, 0, 0, 0)), (201, (.bipush 30, 2, 0, 0, 0, 30, 0)), (203, (.if_icmp .ge 21, 3, 224, 0, 0, 0, 0)), (206, (.aload_n 0, 1, 0, 0, 0, 0, 0)), (207, (.getfield 22, 3, 7, 8, 1, 111, 0)), (210, (.iload_n 1, 1, 1, 0, 0, 0, 0)), (211, (.aload_n 0, 1, 0, 0, 0, 0, 0)), (212, (.getfield 37, 3, 7, 17, 1, 116, 0)), (215, (.iload_n 1, 1, 1, 0, 0, 0, 0)), (216, (.iaload, 1, 0, 0, 0, 0, 0)), (217, (.iastore, 1, 0, 0, 0, 0, 0)), (218, (.iinc 1 1, 3, 1, 0, 0, 1, 0)), (221, (.goto (-21), 3, 200, 0, 0, 0, 0))],
  [(224, (.aload_n 0, 1, 0, 0, 0, 0, 0)), (225, (.iconst 0, 1, 0, 0, 0, 0, 0)), (226, (.putfield 120, 3, 7, 28, 0, 149, 0)), (229, (.aload_n 0, 1, 0, 0, 0, 0, 0)), (230, (.iconst 1, 1, 0, 0, 0, 1, 0)), (231, (.aload_n 0, 1, 0, 0, 0, 0, 0)), (232, (.getfield 117, 3, 7, 7, 0, 148, 0)), (235, (.ishl, 1, 0, 0, 0, 0, 0)), (236, (.iconst 1, 1, 0, 0, 0, 1, 0)), (237, (.isub, 1, 0, 0, 0, 0, 0)), (238, (.putfield 123, 3, 7, 33, 0, 150, 0)), (241, (.aload_n 0, 1, 0, 0, 0, 0, 0)), (242, (.iconst 0, 1, 0, 0, 0, 0, 0)), (243, (.putfield 126, 3, 7, 34, 0, 151, 0)), (246, (.aload_n 0, 1, 0, 0, 0, 0, 0)), (247, (.getfield 68, 3, 7, 37, 1, 126, 0)), (250, (.iconst 0, 1, 0, 0, 0, 0, 0)), (251, (.iconst 0, 1, 0, 0, 0, 0, 0)), (252, (.bastore, 1, 0, 0, 0, 0, 0)), (253, (.aload_n 0, 1, 0, 0, 0, 0, 0)), (254, (.getfield 68, 3, 7, 37, 1, 126, 0))],
  [(257, (.iconst 1, 1, 0, 0, 0, 1, 0)), (258, (.iconst 0, 1, 0, 0, 0, 0, 0)), (259, (.bastore, 1, 0, 0, 0, 0, 0)), (260, (.aload_n 0, 1, 0, 0, 0, 0, 0)), (261, (.invokevirtual 129, 3, 162, 7201, 0, 152, 0)), (264, (.return_, 1, 0, 0, 0, 0, 0))]]
def tX7_feed : List (List (Nat × E_)) := [[(0, (.aload_n 0, 1, 0, 0, 0, 0, 0)), (1, (.getfield 132, 3, 7, 20, 0, 225, 0)), (4, (.bipush 8, 2, 0, 0, 0, 8, 0)), (6, (.iadd, 1, 0, 0, 0, 0, 0)), (7, (.sipush 400, 3, 0, 0, 0, 400, 0)), (10, (.if_icmp .le 6, 3, 16, 0, 0, 0, 0)), (13, (.bipush (-3), 2, 0, 0, 0, (-3), 0)), (15, (.ireturn, 1, 0, 0, 0, 0, 0)), (16, (.bipush 56, 2, 0, 0, 0, 56, 0)), (18, (.istore_n 3, 1, 3, 0, 0, 0, 0)), (19, (.iload_n 3, 1, 3, 0, 0, 0, 0)), (20, (.ifCond .lt 36, 3, 56, 0, 0, 0, 0)), (23, (.aload_n 0, 1, 0, 0, 0, 0, 0)), (24, (.getfield 43, 3, 7, 19, 1, 118, 0)), (27, (.aload_n 0, 1, 0, 0, 0, 0, 0)), (28, (.getfield 132, 3, 7, 20, 0, 225, 0)), (31, (.lload_n 1, 1, 1, 0, 0, 0, 0))],
  [(32, (.iload_n 3, 1, 3, 0, 0, 0, 0)), (33, (.lshr, 1, 0, 0, 0, 0, 0)), (34, (.ldc2_w 135, 3, 0, 226, 0, 0, (255))), (37, (.land, 1, 0, 0, 0, 0, 0)), (38, (.l2i, 1, 0, 0, 0, 0, 0)), (39, (.iastore, 1, 0, 0, 0, 0, 0)), (40, (.aload_n 0, 1, 0, 0, 0, 0, 0)), (41, (.dup, 1, 0, 0, 0, 0, 0)), (42, (.getfield 132, 3, 7, 20, 0, 225, 0)), (45, (.iconst 1, 1, 0, 0, 0, 1, 0)), (46, (.iadd, 1, 0, 0, 0, 0, 0)), (47, (.putfield 132, 3, 7, 20, 0, 225, 0)), (50, (.iinc 3 (-8), 3, 3, 0, 0, (-8), 0)), (53, (.goto (-34), 3, 19, 0, 0, 0, 0)), (56, (.aload_n 0, 1, 0, 0, 0, 0, 0)), (57, (.getfield 132, 3, 7, 20, 0, 225, 0)), (60, (.ireturn, 1, 0, 0, 0, 0, 0))]]
def tX7_end : List (List (Nat × E_)) := [[(0, (.iload_n 1, 1, 1, 0, 0, 0, 0)), (1, (.i2l, 1, 0, 0, 0, 0, 0)), (2, (.lconst 0, 1, 0, 0, 0, 0, 0)), (3, (.aload_n 0, 1, 0, 0, 0, 0, 0)), (4, (.getfield 132, 3, 7, 20, 0, 225, 0)), (7, (.i2l, 1, 0, 0, 0, 0, 0)), (8, (.invokestatic 137, 3, 121, 99, 1, 162, 0)), (11, (.ifCond .ne 5, 3, 16, 0, 0, 0, 0)), (14, (.iconst (-1), 1, 0, 0, 0, (-1), 0)), (15, (.ireturn, 1, 0, 0, 0, 0, 0)), (16, (.aload_n 0, 1, 0, 0, 0, 0, 0)), (17, (.getfield 132, 3, 7, 20, 0, 225, 0)), (20, (.istore_n 2, 1, 2, 0, 0, 0, 0)), (21, (.aload_n 0, 1, 0, 0, 0, 0, 0)), (22, (.iload_n 1, 1, 1, 0, 0, 0, 0)), (23, (.putfield 132, 3, 7, 20, 0, 225, 0)), (26, (.iload_n 2, 1, 2, 0, 0, 0, 0)), (27, (.ireturn, 1, 0, 0, 0, 0, 0))]]
def tX7_needs : List (List (Nat × E_)) := [[(0, (.iload_n 1, 1, 1, 0, 0, 0, 0)), (1, (.ifCond .ne 23, 3, 24, 0, 0, 0, 0)), (4, (.aload_n 0, 1, 0, 0, 0, 0, 0)), (5, (.getfield 141, 3, 7, 25, 0, 431, 0)), (8, (.ifCond .ne 16, 3, 24, 0, 0, 0, 0)), (11, (.aload_n 0, 1, 0, 0, 0, 0, 0)), (12, (.iload_n 2, 1, 2, 0, 0, 0, 0)), (13, (.putfield 141, 3, 7, 25, 0, 431, 0)), (16, (.aload_n 0, 1, 0, 0, 0, 0, 0)), (17, (.aload_n 0, 1, 0, 0, 0, 0, 0)), (18, (.getfield 144, 3, 7, 22, 0, 439, 0)), (21, (.putfield 147, 3, 7, 26, 0, 434, 0)), (24, (.return_, 1, 0, 0, 0, 0, 0))]]
def tX7_look : List (List (Nat × E_)) := [[(0, (.iload_n 1, 1, 1, 0, 0, 0, 0)), (1, (.aload_n 0, 1, 0, 0, 0, 0, 0)), (2, (.getfield 132, 3, 7, 20, 0, 225, 0)), (5, (.if_icmp .ge 12, 3, 17, 0, 0, 0, 0)), (8, (.aload_n 0, 1, 0, 0, 0, 0, 0)), (9, (.getfield 43, 3, 7, 19, 1, 118, 0)), (12, (.iload_n 1, 1, 1, 0, 0, 0, 0)), (13, (.iaload, 1, 0, 0, 0, 0, 0)), (14, (.goto 4, 3, 18, 0, 0, 0, 0)), (17, (.iconst (-1), 1, 0, 0, 0, (-1), 0)), (18, (.ireturn, 1, 0, 0, 0, 0, 0))]]
def tX7_is : List (List (Nat × E_)) := [[(0, (.aload_n 0, 1, 0, 0, 0, 0, 0)), (1, (.getfield 150, 3, 7, 21, 0, 432, 0)), (4, (.aload_n 0, 1, 0, 0, 0, 0, 0)), (5, (.getfield 144, 3, 7, 22, 0, 439, 0)), (8, (.isub, 1, 0, 0, 0, 0, 0)), (9, (.iload_n 1, 1, 1, 0, 0, 0, 0)), (10, (.if_icmp .ne 68, 3, 78, 0, 0, 0, 0)), (13, (.aload_n 0, 1, 0, 0, 0, 0, 0)), (14, (.aload_n 0, 1, 0, 0, 0, 0, 0)), (15, (.getfield 144, 3, 7, 22, 0, 439, 0)), (18, (.invokevirtual 153, 3, 129, 7202, 1, 445, 0)), (21, (.iload_n 2, 1, 2, 0, 0, 0, 0)), (22, (.if_icmp .ne 56, 3, 78, 0, 0, 0, 0)), (25, (.aload_n 0, 1, 0, 0, 0, 0, 0)), (26, (.aload_n 0, 1, 0, 0, 0, 0, 0)), (27, (.getfield 144, 3, 7, 22, 0, 439, 0)), (30, (.iconst 1, 1, 0, 0, 0, 1, 0)), (31, (.iadd, 1, 0, 0, 0, 0, 0))],
  [(32, (.invokevirtual 153, 3, 129, 7202, 1, 445, 0)), (35, (.iload_n 3, 1, 3, 0, 0, 0, 0)), (36, (.if_icmp .ne 42, 3, 78, 0, 0, 0, 0)), (39, (.aload_n 0, 1, 0, 0, 0, 0, 0)), (40, (.aload_n 0, 1, 0, 0, 0, 0, 0)), (41, (.getfield 144, 3, 7, 22, 0, 439, 0)), (44, (.iconst 2, 1, 0, 0, 0, 2, 0)), (45, (.iadd, 1, 0, 0, 0, 0, 0)), (46, (.invokevirtual 153, 3, 129, 7202, 1, 445, 0)), (49, (.iload 4, 2, 4, 0, 0, 0, 0)), (51, (.if_icmp .ne 27, 3, 78, 0, 0, 0, 0)), (54, (.iload_n 1, 1, 1, 0, 0, 0, 0)), (55, (.iconst 4, 1, 0, 0, 0, 4, 0)), (56, (.if_icmp .lt 18, 3, 74, 0, 0, 0, 0)), (59, (.aload_n 0, 1, 0, 0, 0, 0, 0)), (60, (.aload_n 0, 1, 0, 0, 0, 0, 0)), (61, (.getfield 144, 3, 7, 22, 0, 439, 0))],
  [(64, (.iconst 3, 1, 0, 0, 0, 3, 0)), (65, (.iadd, 1, 0, 0, 0, 0, 0)), (66, (.invokevirtual 153, 3, 129, 7202, 1, 445, 0)), (69, (.iload 5, 2, 5, 0, 0, 0, 0)), (71, (.if_icmp .ne 7, 3, 78, 0, 0, 0, 0)), (74, (.iconst 1, 1, 0, 0, 0, 1, 0)), (75, (.goto 4, 3, 79, 0, 0, 0, 0)), (78, (.iconst 0, 1, 0, 0, 0, 0, 0)), (79, (.ireturn, 1, 0, 0, 1, 0, 0))]]
def tX7_goesOn : List (List (Nat × E_)) := [[(0, (.aload_n 0, 1, 0, 0, 0, 0, 0)), (1, (.aload_n 0, 1, 0, 0, 0, 0, 0)), (2, (.getfield 144, 3, 7, 22, 0, 439, 0)), (5, (.iconst 4, 1, 0, 0, 0, 4, 0)), (6, (.iadd, 1, 0, 0, 0, 0, 0)), (7, (.invokevirtual 153, 3, 129, 7202, 1, 445, 0)), (10, (.iload_n 1, 1, 1, 0, 0, 0, 0)), (11, (.if_icmp .ne 44, 3, 55, 0, 0, 0, 0)), (14, (.iload_n 2, 1, 2, 0, 0, 0, 0)), (15, (.ifCond .eq 17, 3, 32, 0, 0, 0, 0)), (18, (.aload_n 0, 1, 0, 0, 0, 0, 0)), (19, (.aload_n 0, 1, 0, 0, 0, 0, 0)), (20, (.getfield 144, 3, 7, 22, 0, 439, 0)), (23, (.iconst 5, 1, 0, 0, 0, 5, 0)), (24, (.iadd, 1, 0, 0, 0, 0, 0)), (25, (.invokevirtual 153, 3, 129, 7202, 1, 445, 0)), (28, (.iload_n 2, 1, 2, 0, 0, 0, 0)), (29, (.if_icmp .ne 26, 3, 55, 0, 0, 0, 0))],
  [(32, (.iload_n 3, 1, 3, 0, 0, 0, 0)), (33, (.ifCond .eq 18, 3, 51, 0, 0, 0, 0)), (36, (.aload_n 0, 1, 0, 0, 0, 0, 0)), (37, (.aload_n 0, 1, 0, 0, 0, 0, 0)), (38, (.getfield 144, 3, 7, 22, 0, 439, 0)), (41, (.bipush 6, 2, 0, 0, 0, 6, 0)), (43, (.iadd, 1, 0, 0, 0, 0, 0)), (44, (.invokevirtual 153, 3, 129, 7202, 1, 445, 0)), (47, (.iload_n 3, 1, 3, 0, 0, 0, 0)), (48, (.if_icmp .ne 7, 3, 55, 0, 0, 0, 0)), (51, (.iconst 1, 1, 0, 0, 0, 1, 0)), (52, (.goto 4, 3, 56, 0, 0, 0, 0)), (55, (.iconst 0, 1, 0, 0, 0, 0, 0)), (56, (.ireturn, 1, 0, 0, 1, 0, 0))]]
def tX7_kindNow : List (List (Nat × E_)) := [[(0, (.aload_n 0, 1, 0, 0, 0, 0, 0)), (1, (.iconst 5, 1, 0, 0, 0, 5, 0)), (2, (.bipush 112, 2, 0, 0, 0, 112, 0)), (4, (.bipush 108, 2, 0, 0, 0, 108, 0)), (6, (.bipush 97, 2, 0, 0, 0, 97, 0)), (8, (.bipush 105, 2, 0, 0, 0, 105, 0)), (10, (.invokevirtual 157, 3, 130, 7270, 1, 468, 0)), (13, (.ifCond .eq 16, 3, 29, 0, 0, 0, 0)), (16, (.aload_n 0, 1, 0, 0, 0, 0, 0)), (17, (.bipush 110, 2, 0, 0, 0, 110, 0)), (19, (.iconst 0, 1, 0, 0, 0, 0, 0)), (20, (.iconst 0, 1, 0, 0, 0, 0, 0)), (21, (.invokevirtual 161, 3, 131, 7236, 1, 472, 0)), (24, (.ifCond .eq 5, 3, 29, 0, 0, 0, 0)), (27, (.iconst 0, 1, 0, 0, 0, 0, 0)), (28, (.ireturn, 1, 0, 0, 0, 0, 0)), (29, (.aload_n 0, 1, 0, 0, 0, 0, 0)), (30, (.iconst 4, 1, 0, 0, 0, 4, 0)), (31, (.bipush 108, 2, 0, 0, 0, 108, 0))],
  [(33, (.bipush 97, 2, 0, 0, 0, 97, 0)), (35, (.bipush 115, 2, 0, 0, 0, 115, 0)), (37, (.bipush 116, 2, 0, 0, 0, 116, 0)), (39, (.invokevirtual 157, 3, 130, 7270, 1, 468, 0)), (42, (.ifCond .eq 5, 3, 47, 0, 0, 0, 0)), (45, (.iconst 1, 1, 0, 0, 0, 1, 0)), (46, (.ireturn, 1, 0, 0, 0, 0, 0)), (47, (.aload_n 0, 1, 0, 0, 0, 0, 0)), (48, (.bipush 7, 2, 0, 0, 0, 7, 0)), (50, (.bipush 99, 2, 0, 0, 0, 99, 0)), (52, (.bipush 97, 2, 0, 0, 0, 97, 0)), (54, (.bipush 114, 2, 0, 0, 0, 114, 0)), (56, (.bipush 101, 2, 0, 0, 0, 101, 0)), (58, (.invokevirtual 157, 3, 130, 7270, 1, 468, 0)), (61, (.ifCond .eq 18, 3, 79, 0, 0, 0, 0))],
  [(64, (.aload_n 0, 1, 0, 0, 0, 0, 0)), (65, (.bipush 102, 2, 0, 0, 0, 102, 0)), (67, (.bipush 117, 2, 0, 0, 0, 117, 0)), (69, (.bipush 108, 2, 0, 0, 0, 108, 0)), (71, (.invokevirtual 161, 3, 131, 7236, 1, 472, 0)), (74, (.ifCond .eq 5, 3, 79, 0, 0, 0, 0)), (77, (.iconst 2, 1, 0, 0, 0, 2, 0)), (78, (.ireturn, 1, 0, 0, 0, 0, 0)), (79, (.aload_n 0, 1, 0, 0, 0, 0, 0)), (80, (.iconst 5, 1, 0, 0, 0, 5, 0)), (81, (.bipush 112, 2, 0, 0, 0, 112, 0)), (83, (.bipush 114, 2, 0, 0, 0, 114, 0)), (85, (.bipush 111, 2, 0, 0, 0, 111, 0)), (87, (.bipush 117, 2, 0, 0, 0, 117, 0)), (89, (.invokevirtual 157, 3, 130, 7270, 1, 468, 0)), (92, (.ifCond .eq 18, 3, 110, 0, 0, 0, 0)), (95, (.aload_n 0, 1, 0, 0, 0, 0, 0))],
  [(96, (.bipush 100, 2, 0, 0, 0, 100, 0)), (98, (.iconst 0, 1, 0, 0, 0, 0, 0)), (99, (.iconst 0, 1, 0, 0, 0, 0, 0)), (100, (.invokevirtual 161, 3, 131, 7236, 1, 472, 0)), (103, (.ifCond .eq 7, 3, 110, 0, 0, 0, 0)), (106, (.iconst 3, 1, 0, 0, 0, 3, 0)), (107, (.goto 5, 3, 112, 0, 0, 0, 0)), (110, (.bipush (-4), 2, 0, 0, 0, (-4), 0)), (112, (.ireturn, 1, 0, 0, 0, 0, 0))]]
def tX7_nameNow : List (List (Nat × E_)) := [[(0, (.aload_n 0, 1, 0, 0, 0, 0, 0)), (1, (.invokevirtual 165, 3, 132, 7185, 1, 464, 0)), (4, (.bipush (-4), 2, 0, 0, 0, (-4), 0)), (6, (.if_icmp .eq 8, 3, 14, 0, 0, 0, 0)), (9, (.aload_n 0, 1, 0, 0, 0, 0, 0)), (10, (.invokevirtual 165, 3, 132, 7185, 1, 464, 0)), (13, (.ireturn, 1, 0, 0, 0, 0, 0)), (14, (.aload_n 0, 1, 0, 0, 0, 0, 0)), (15, (.iconst 5, 1, 0, 0, 0, 5, 0)), (16, (.bipush 116, 2, 0, 0, 0, 116, 0)), (18, (.bipush 104, 2, 0, 0, 0, 104, 0)), (20, (.bipush 105, 2, 0, 0, 0, 105, 0)), (22, (.bipush 110, 2, 0, 0, 0, 110, 0)), (24, (.invokevirtual 157, 3, 130, 7270, 1, 468, 0)), (27, (.ifCond .eq 17, 3, 44, 0, 0, 0, 0)), (30, (.aload_n 0, 1, 0, 0, 0, 0, 0)), (31, (.bipush 103, 2, 0, 0, 0, 103, 0))],
  [(33, (.iconst 0, 1, 0, 0, 0, 0, 0)), (34, (.iconst 0, 1, 0, 0, 0, 0, 0)), (35, (.invokevirtual 161, 3, 131, 7236, 1, 472, 0)), (38, (.ifCond .eq 6, 3, 44, 0, 0, 0, 0)), (41, (.bipush 10, 2, 0, 0, 0, 10, 0)), (43, (.ireturn, 1, 0, 0, 0, 0, 0)), (44, (.aload_n 0, 1, 0, 0, 0, 0, 0)), (45, (.iconst 5, 1, 0, 0, 0, 5, 0)), (46, (.bipush 109, 2, 0, 0, 0, 109, 0)), (48, (.bipush 101, 2, 0, 0, 0, 101, 0)), (50, (.bipush 97, 2, 0, 0, 0, 97, 0)), (52, (.bipush 110, 2, 0, 0, 0, 110, 0)), (54, (.invokevirtual 157, 3, 130, 7270, 1, 468, 0)), (57, (.ifCond .eq 17, 3, 74, 0, 0, 0, 0)), (60, (.aload_n 0, 1, 0, 0, 0, 0, 0)), (61, (.bipush 115, 2, 0, 0, 0, 115, 0)), (63, (.iconst 0, 1, 0, 0, 0, 0, 0))],
  [(64, (.iconst 0, 1, 0, 0, 0, 0, 0)), (65, (.invokevirtual 161, 3, 131, 7236, 1, 472, 0)), (68, (.ifCond .eq 6, 3, 74, 0, 0, 0, 0)), (71, (.bipush 11, 2, 0, 0, 0, 11, 0)), (73, (.ireturn, 1, 0, 0, 0, 0, 0)), (74, (.aload_n 0, 1, 0, 0, 0, 0, 0)), (75, (.iconst 4, 1, 0, 0, 0, 4, 0)), (76, (.bipush 119, 2, 0, 0, 0, 119, 0)), (78, (.bipush 111, 2, 0, 0, 0, 111, 0)), (80, (.bipush 114, 2, 0, 0, 0, 114, 0)), (82, (.bipush 100, 2, 0, 0, 0, 100, 0)), (84, (.invokevirtual 157, 3, 130, 7270, 1, 468, 0)), (87, (.ifCond .eq 6, 3, 93, 0, 0, 0, 0)), (90, (.bipush 12, 2, 0, 0, 0, 12, 0)), (92, (.ireturn, 1, 0, 0, 0, 0, 0)), (93, (.aload_n 0, 1, 0, 0, 0, 0, 0)), (94, (.iconst 3, 1, 0, 0, 0, 3, 0)), (95, (.bipush 110, 2, 0, 0, 0, 110, 0))],
  [(97, (.bipush 111, 2, 0, 0, 0, 111, 0)), (99, (.bipush 116, 2, 0, 0, 0, 116, 0)), (101, (.iconst 0, 1, 0, 0, 0, 0, 0)), (102, (.invokevirtual 157, 3, 130, 7270, 1, 468, 0)), (105, (.ifCond .eq 6, 3, 111, 0, 0, 0, 0)), (108, (.bipush 13, 2, 0, 0, 0, 13, 0)), (110, (.ireturn, 1, 0, 0, 0, 0, 0)), (111, (.aload_n 0, 1, 0, 0, 0, 0, 0)), (112, (.iconst 4, 1, 0, 0, 0, 4, 0)), (113, (.bipush 115, 2, 0, 0, 0, 115, 0)), (115, (.bipush 101, 2, 0, 0, 0, 101, 0)), (117, (.bipush 101, 2, 0, 0, 0, 101, 0)), (119, (.bipush 115, 2, 0, 0, 0, 115, 0)), (121, (.invokevirtual 157, 3, 130, 7270, 1, 468, 0)), (124, (.ifCond .eq 6, 3, 130, 0, 0, 0, 0)), (127, (.bipush 14, 2, 0, 0, 0, 14, 0))],
  [(129, (.ireturn, 1, 0, 0, 0, 0, 0)), (130, (.aload_n 0, 1, 0, 0, 0, 0, 0)), (131, (.iconst 5, 1, 0, 0, 0, 5, 0)), (132, (.bipush 102, 2, 0, 0, 0, 102, 0)), (134, (.bipush 101, 2, 0, 0, 0, 101, 0)), (136, (.bipush 97, 2, 0, 0, 0, 97, 0)), (138, (.bipush 114, 2, 0, 0, 0, 114, 0)), (140, (.invokevirtual 157, 3, 130, 7270, 1, 468, 0)), (143, (.ifCond .eq 17, 3, 160, 0, 0, 0, 0)), (146, (.aload_n 0, 1, 0, 0, 0, 0, 0)), (147, (.bipush 115, 2, 0, 0, 0, 115, 0)), (149, (.iconst 0, 1, 0, 0, 0, 0, 0)), (150, (.iconst 0, 1, 0, 0, 0, 0, 0)), (151, (.invokevirtual 161, 3, 131, 7236, 1, 472, 0)), (154, (.ifCond .eq 6, 3, 160, 0, 0, 0, 0)), (157, (.bipush 15, 2, 0, 0, 0, 15, 0)), (159, (.ireturn, 1, 0, 0, 0, 0, 0))],
  [(160, (.aload_n 0, 1, 0, 0, 0, 0, 0)), (161, (.bipush 6, 2, 0, 0, 0, 6, 0)), (163, (.bipush 117, 2, 0, 0, 0, 117, 0)), (165, (.bipush 110, 2, 0, 0, 0, 110, 0)), (167, (.bipush 108, 2, 0, 0, 0, 108, 0)), (169, (.bipush 105, 2, 0, 0, 0, 105, 0)), (171, (.invokevirtual 157, 3, 130, 7270, 1, 468, 0)), (174, (.ifCond .eq 18, 3, 192, 0, 0, 0, 0)), (177, (.aload_n 0, 1, 0, 0, 0, 0, 0)), (178, (.bipush 107, 2, 0, 0, 0, 107, 0)), (180, (.bipush 101, 2, 0, 0, 0, 101, 0)), (182, (.iconst 0, 1, 0, 0, 0, 0, 0)), (183, (.invokevirtual 161, 3, 131, 7236, 1, 472, 0)), (186, (.ifCond .eq 6, 3, 192, 0, 0, 0, 0)), (189, (.bipush 16, 2, 0, 0, 0, 16, 0)), (191, (.ireturn, 1, 0, 0, 0, 0, 0))],
  [(192, (.aload_n 0, 1, 0, 0, 0, 0, 0)), (193, (.bipush 6, 2, 0, 0, 0, 6, 0)), (195, (.bipush 99, 2, 0, 0, 0, 99, 0)), (197, (.bipush 104, 2, 0, 0, 0, 104, 0)), (199, (.bipush 97, 2, 0, 0, 0, 97, 0)), (201, (.bipush 110, 2, 0, 0, 0, 110, 0)), (203, (.invokevirtual 157, 3, 130, 7270, 1, 468, 0)), (206, (.ifCond .eq 20, 3, 226, 0, 0, 0, 0)), (209, (.aload_n 0, 1, 0, 0, 0, 0, 0)), (210, (.bipush 99, 2, 0, 0, 0, 99, 0)), (212, (.bipush 101, 2, 0, 0, 0, 101, 0)), (214, (.iconst 0, 1, 0, 0, 0, 0, 0)), (215, (.invokevirtual 161, 3, 131, 7236, 1, 472, 0)), (218, (.ifCond .eq 8, 3, 226, 0, 0, 0, 0)), (221, (.bipush 17, 2, 0, 0, 0, 17, 0)), (223, (.goto 5, 3, 228, 0, 0, 0, 0))],
  [(226, (.bipush (-4), 2, 0, 0, 0, (-4), 0)), (228, (.ireturn, 1, 0, 0, 0, 0, 0))]]
def tX7_next : List (List (Nat × E_)) := [[(0, (.aload_n 0, 1, 0, 0, 0, 0, 0)), (1, (.getfield 141, 3, 7, 25, 0, 431, 0)), (4, (.ifCond .le 4, 3, 8, 0, 0, 0, 0)), (7, (.return_, 1, 0, 0, 0, 0, 0)), (8, (.aload_n 0, 1, 0, 0, 0, 0, 0)), (9, (.aload_n 0, 1, 0, 0, 0, 0, 0)), (10, (.getfield 150, 3, 7, 21, 0, 432, 0)), (13, (.invokevirtual 153, 3, 129, 7202, 1, 445, 0)), (16, (.bipush 32, 2, 0, 0, 0, 32, 0)), (18, (.if_icmp .ne 16, 3, 34, 0, 0, 0, 0)), (21, (.aload_n 0, 1, 0, 0, 0, 0, 0)), (22, (.dup, 1, 0, 0, 0, 0, 0)), (23, (.getfield 150, 3, 7, 21, 0, 432, 0)), (26, (.iconst 1, 1, 0, 0, 0, 1, 0)), (27, (.iadd, 1, 0, 0, 0, 0, 0)), (28, (.putfield 150, 3, 7, 21, 0, 432, 0)), (31, (.goto (-23), 3, 8, 0, 0, 0, 0))],
  [(34, (.aload_n 0, 1, 0, 0, 0, 0, 0)), (35, (.aload_n 0, 1, 0, 0, 0, 0, 0)), (36, (.getfield 150, 3, 7, 21, 0, 432, 0)), (39, (.putfield 144, 3, 7, 22, 0, 439, 0)), (42, (.aload_n 0, 1, 0, 0, 0, 0, 0)), (43, (.aload_n 0, 1, 0, 0, 0, 0, 0)), (44, (.getfield 150, 3, 7, 21, 0, 432, 0)), (47, (.invokevirtual 153, 3, 129, 7202, 1, 445, 0)), (50, (.istore_n 1, 1, 1, 0, 0, 0, 0)), (51, (.iload_n 1, 1, 1, 0, 0, 0, 0)), (52, (.ifCond .ge 11, 3, 63, 0, 0, 0, 0)), (55, (.aload_n 0, 1, 0, 0, 0, 0, 0)), (56, (.iconst 0, 1, 0, 0, 0, 0, 0)), (57, (.putfield 169, 3, 7, 23, 0, 433, 0)), (60, (.goto 230, 3, 290, 0, 0, 0, 0)), (63, (.iload_n 1, 1, 1, 0, 0, 0, 0))],
  [(64, (.i2l, 1, 0, 0, 0, 0, 0)), (65, (.ldc2_w 172, 3, 0, 440, 0, 0, (97))), (68, (.ldc2_w 174, 3, 0, 441, 0, 0, (122))), (71, (.invokestatic 137, 3, 121, 99, 1, 162, 0)), (74, (.ifCond .eq 42, 3, 116, 0, 0, 0, 0)), (77, (.aload_n 0, 1, 0, 0, 0, 0, 0)), (78, (.iconst 1, 1, 0, 0, 0, 1, 0)), (79, (.putfield 169, 3, 7, 23, 0, 433, 0)), (82, (.aload_n 0, 1, 0, 0, 0, 0, 0)), (83, (.aload_n 0, 1, 0, 0, 0, 0, 0)), (84, (.getfield 150, 3, 7, 21, 0, 432, 0)), (87, (.invokevirtual 153, 3, 129, 7202, 1, 445, 0)), (90, (.i2l, 1, 0, 0, 0, 0, 0)), (91, (.ldc2_w 172, 3, 0, 440, 0, 0, (97))), (94, (.ldc2_w 174, 3, 0, 441, 0, 0, (122)))],
  [(97, (.invokestatic 137, 3, 121, 99, 1, 162, 0)), (100, (.ifCond .eq 190, 3, 290, 0, 0, 0, 0)), (103, (.aload_n 0, 1, 0, 0, 0, 0, 0)), (104, (.dup, 1, 0, 0, 0, 0, 0)), (105, (.getfield 150, 3, 7, 21, 0, 432, 0)), (108, (.iconst 1, 1, 0, 0, 0, 1, 0)), (109, (.iadd, 1, 0, 0, 0, 0, 0)), (110, (.putfield 150, 3, 7, 21, 0, 432, 0)), (113, (.goto (-31), 3, 82, 0, 0, 0, 0)), (116, (.iload_n 1, 1, 1, 0, 0, 0, 0)), (117, (.i2l, 1, 0, 0, 0, 0, 0)), (118, (.ldc2_w 176, 3, 0, 442, 0, 0, (48))), (121, (.ldc2_w 178, 3, 0, 443, 0, 0, (57))), (124, (.invokestatic 137, 3, 121, 99, 1, 162, 0)), (127, (.ifCond .eq 116, 3, 243, 0, 0, 0, 0))],
  [(130, (.aload_n 0, 1, 0, 0, 0, 0, 0)), (131, (.iconst 2, 1, 0, 0, 0, 2, 0)), (132, (.putfield 169, 3, 7, 23, 0, 433, 0)), (135, (.aload_n 0, 1, 0, 0, 0, 0, 0)), (136, (.iconst 0, 1, 0, 0, 0, 0, 0)), (137, (.putfield 180, 3, 7, 24, 0, 444, 0)), (140, (.aload_n 0, 1, 0, 0, 0, 0, 0)), (141, (.aload_n 0, 1, 0, 0, 0, 0, 0)), (142, (.getfield 150, 3, 7, 21, 0, 432, 0)), (145, (.invokevirtual 153, 3, 129, 7202, 1, 445, 0)), (148, (.i2l, 1, 0, 0, 0, 0, 0)), (149, (.ldc2_w 176, 3, 0, 442, 0, 0, (48))), (152, (.ldc2_w 178, 3, 0, 443, 0, 0, (57))), (155, (.invokestatic 137, 3, 121, 99, 1, 162, 0)), (158, (.ifCond .eq 59, 3, 217, 0, 0, 0, 0))],
  [(161, (.aload_n 0, 1, 0, 0, 0, 0, 0)), (162, (.aload_n 0, 1, 0, 0, 0, 0, 0)), (163, (.getfield 150, 3, 7, 21, 0, 432, 0)), (166, (.aload_n 0, 1, 0, 0, 0, 0, 0)), (167, (.getfield 144, 3, 7, 22, 0, 439, 0)), (170, (.isub, 1, 0, 0, 0, 0, 0)), (171, (.iconst 2, 1, 0, 0, 0, 2, 0)), (172, (.if_icmp .ge 25, 3, 197, 0, 0, 0, 0)), (175, (.bipush 10, 2, 0, 0, 0, 10, 0)), (177, (.aload_n 0, 1, 0, 0, 0, 0, 0)), (178, (.getfield 180, 3, 7, 24, 0, 444, 0)), (181, (.imul, 1, 0, 0, 0, 0, 0)), (182, (.aload_n 0, 1, 0, 0, 0, 0, 0)), (183, (.aload_n 0, 1, 0, 0, 0, 0, 0)), (184, (.getfield 150, 3, 7, 21, 0, 432, 0)), (187, (.invokevirtual 153, 3, 129, 7202, 1, 445, 0)), (190, (.iadd, 1, 0, 0, 0, 0, 0)), (191, (.bipush 48, 2, 0, 0, 0, 48, 0))],
  [(193, (.isub, 1, 0, 0, 0, 0, 0)), (194, (.goto 7, 3, 201, 0, 0, 0, 0)), (197, (.aload_n 0, 1, 0, 0, 0, 0, 0)), (198, (.getfield 180, 3, 7, 24, 0, 444, 0)), (201, (.putfield 180, 3, 7, 24, 0, 444, 0)), (204, (.aload_n 0, 1, 0, 0, 0, 0, 0)), (205, (.dup, 1, 0, 0, 0, 0, 0)), (206, (.getfield 150, 3, 7, 21, 0, 432, 0)), (209, (.iconst 1, 1, 0, 0, 0, 1, 0)), (210, (.iadd, 1, 0, 0, 0, 0, 0)), (211, (.putfield 150, 3, 7, 21, 0, 432, 0)), (214, (.goto (-74), 3, 140, 0, 0, 0, 0)), (217, (.aload_n 0, 1, 0, 0, 0, 0, 0)), (218, (.aload_n 0, 1, 0, 0, 0, 0, 0)), (219, (.getfield 150, 3, 7, 21, 0, 432, 0)), (222, (.aload_n 0, 1, 0, 0, 0, 0, 0)), (223, (.getfield 144, 3, 7, 22, 0, 439, 0))],
  [(226, (.isub, 1, 0, 0, 0, 0, 0)), (227, (.iconst 2, 1, 0, 0, 0, 2, 0)), (228, (.if_icmp .gt 7, 3, 235, 0, 0, 0, 0)), (231, (.iconst 1, 1, 0, 0, 0, 1, 0)), (232, (.goto 4, 3, 236, 0, 0, 0, 0)), (235, (.iconst 0, 1, 0, 0, 0, 0, 0)), (236, (.iconst 1, 1, 0, 0, 0, 1, 0)), (237, (.invokevirtual 183, 3, 128, 7219, 0, 449, 0)), (240, (.goto 50, 3, 290, 0, 0, 0, 0)), (243, (.aload_n 0, 1, 0, 0, 0, 0, 0)), (244, (.iload_n 1, 1, 1, 0, 0, 0, 0)), (245, (.bipush 45, 2, 0, 0, 0, 45, 0)), (247, (.if_icmp .ne 7, 3, 254, 0, 0, 0, 0)), (250, (.iconst 4, 1, 0, 0, 0, 4, 0)), (251, (.goto 4, 3, 255, 0, 0, 0, 0)), (254, (.iconst 3, 1, 0, 0, 0, 3, 0)), (255, (.putfield 169, 3, 7, 23, 0, 433, 0))],
  [(258, (.aload_n 0, 1, 0, 0, 0, 0, 0)), (259, (.iload_n 1, 1, 1, 0, 0, 0, 0)), (260, (.bipush 59, 2, 0, 0, 0, 59, 0)), (262, (.if_icmp .eq 9, 3, 271, 0, 0, 0, 0)), (265, (.iload_n 1, 1, 1, 0, 0, 0, 0)), (266, (.bipush 45, 2, 0, 0, 0, 45, 0)), (268, (.if_icmp .ne 7, 3, 275, 0, 0, 0, 0)), (271, (.iconst 1, 1, 0, 0, 0, 1, 0)), (272, (.goto 4, 3, 276, 0, 0, 0, 0)), (275, (.iconst 0, 1, 0, 0, 0, 0, 0)), (276, (.iconst 1, 1, 0, 0, 0, 1, 0)), (277, (.invokevirtual 183, 3, 128, 7219, 0, 449, 0)), (280, (.aload_n 0, 1, 0, 0, 0, 0, 0)), (281, (.dup, 1, 0, 0, 0, 0, 0)), (282, (.getfield 150, 3, 7, 21, 0, 432, 0)), (285, (.iconst 1, 1, 0, 0, 0, 1, 0)), (286, (.iadd, 1, 0, 0, 0, 0, 0)), (287, (.putfield 150, 3, 7, 21, 0, 432, 0))],
  [(290, (.return_, 1, 0, 0, 0, 0, 0))]]
def tX7_readNumber : List (List (Nat × E_)) := [[(0, (.aload_n 0, 1, 0, 0, 0, 0, 0)), (1, (.getfield 141, 3, 7, 25, 0, 431, 0)), (4, (.ifCond .ne 21, 3, 25, 0, 0, 0, 0)), (7, (.aload_n 0, 1, 0, 0, 0, 0, 0)), (8, (.aload_n 0, 1, 0, 0, 0, 0, 0)), (9, (.getfield 169, 3, 7, 23, 0, 433, 0)), (12, (.iconst 2, 1, 0, 0, 0, 2, 0)), (13, (.if_icmp .ne 7, 3, 20, 0, 0, 0, 0)), (16, (.iconst 1, 1, 0, 0, 0, 1, 0)), (17, (.goto 4, 3, 21, 0, 0, 0, 0)), (20, (.iconst 0, 1, 0, 0, 0, 0, 0)), (21, (.iconst 2, 1, 0, 0, 0, 2, 0)), (22, (.invokevirtual 183, 3, 128, 7219, 0, 449, 0)), (25, (.aload_n 0, 1, 0, 0, 0, 0, 0)), (26, (.getfield 141, 3, 7, 25, 0, 431, 0)), (29, (.ifCond .ne 20, 3, 49, 0, 0, 0, 0))],
  [(32, (.aload_n 0, 1, 0, 0, 0, 0, 0)), (33, (.aload_n 0, 1, 0, 0, 0, 0, 0)), (34, (.getfield 180, 3, 7, 24, 0, 444, 0)), (37, (.i2l, 1, 0, 0, 0, 0, 0)), (38, (.iload_n 1, 1, 1, 0, 0, 0, 0)), (39, (.i2l, 1, 0, 0, 0, 0, 0)), (40, (.iload_n 2, 1, 2, 0, 0, 0, 0)), (41, (.i2l, 1, 0, 0, 0, 0, 0)), (42, (.invokestatic 137, 3, 121, 99, 1, 162, 0)), (45, (.iconst 3, 1, 0, 0, 0, 3, 0)), (46, (.invokevirtual 183, 3, 128, 7219, 0, 449, 0)), (49, (.aload_n 0, 1, 0, 0, 0, 0, 0)), (50, (.getfield 180, 3, 7, 24, 0, 444, 0)), (53, (.istore_n 3, 1, 3, 0, 0, 0, 0)), (54, (.aload_n 0, 1, 0, 0, 0, 0, 0)), (55, (.invokevirtual 187, 3, 134, 7201, 0, 435, 0)), (58, (.iload_n 3, 1, 3, 0, 0, 0, 0)), (59, (.ireturn, 1, 0, 0, 0, 0, 0))]]
def tX7_readMarks : List (List (Nat × E_)) := [[(0, (.aload_n 0, 1, 0, 0, 0, 0, 0)), (1, (.getfield 141, 3, 7, 25, 0, 431, 0)), (4, (.ifCond .ne 29, 3, 33, 0, 0, 0, 0)), (7, (.aload_n 0, 1, 0, 0, 0, 0, 0)), (8, (.aload_n 0, 1, 0, 0, 0, 0, 0)), (9, (.getfield 169, 3, 7, 23, 0, 433, 0)), (12, (.iconst 1, 1, 0, 0, 0, 1, 0)), (13, (.if_icmp .eq 11, 3, 24, 0, 0, 0, 0)), (16, (.aload_n 0, 1, 0, 0, 0, 0, 0)), (17, (.getfield 169, 3, 7, 23, 0, 433, 0)), (20, (.iconst 4, 1, 0, 0, 0, 4, 0)), (21, (.if_icmp .ne 7, 3, 28, 0, 0, 0, 0)), (24, (.iconst 1, 1, 0, 0, 0, 1, 0)), (25, (.goto 4, 3, 29, 0, 0, 0, 0)), (28, (.iconst 0, 1, 0, 0, 0, 0, 0)), (29, (.iconst 2, 1, 0, 0, 0, 2, 0)), (30, (.invokevirtual 183, 3, 128, 7219, 0, 449, 0))],
  [(33, (.iconst 0, 1, 0, 0, 0, 0, 0)), (34, (.istore_n 2, 1, 2, 0, 0, 0, 0)), (35, (.aload_n 0, 1, 0, 0, 0, 0, 0)), (36, (.getfield 144, 3, 7, 22, 0, 439, 0)), (39, (.istore_n 3, 1, 3, 0, 0, 0, 0)), (40, (.iload_n 3, 1, 3, 0, 0, 0, 0)), (41, (.aload_n 0, 1, 0, 0, 0, 0, 0)), (42, (.getfield 150, 3, 7, 21, 0, 432, 0)), (45, (.if_icmp .ge 93, 3, 138, 0, 0, 0, 0)), (48, (.aload_n 0, 1, 0, 0, 0, 0, 0)), (49, (.getfield 141, 3, 7, 25, 0, 431, 0)), (52, (.ifCond .ne 86, 3, 138, 0, 0, 0, 0)), (55, (.aload_n 0, 1, 0, 0, 0, 0, 0)), (56, (.getfield 169, 3, 7, 23, 0, 433, 0)), (59, (.iconst 1, 1, 0, 0, 0, 1, 0)), (60, (.if_icmp .ne 78, 3, 138, 0, 0, 0, 0)), (63, (.aload_n 0, 1, 0, 0, 0, 0, 0))],
  [(64, (.iload_n 3, 1, 3, 0, 0, 0, 0)), (65, (.invokevirtual 153, 3, 129, 7202, 1, 445, 0)), (68, (.bipush 97, 2, 0, 0, 0, 97, 0)), (70, (.isub, 1, 0, 0, 0, 0, 0)), (71, (.istore 4, 2, 4, 0, 0, 0, 0)), (73, (.aload_n 0, 1, 0, 0, 0, 0, 0)), (74, (.iload 4, 2, 4, 0, 0, 0, 0)), (76, (.i2l, 1, 0, 0, 0, 0, 0)), (77, (.lconst 0, 1, 0, 0, 0, 0, 0)), (78, (.ldc2_w 190, 3, 0, 161, 0, 0, (7))), (81, (.invokestatic 137, 3, 121, 99, 1, 162, 0)), (84, (.ifCond .eq 25, 3, 109, 0, 0, 0, 0)), (87, (.iload_n 2, 1, 2, 0, 0, 0, 0)), (88, (.iload 4, 2, 4, 0, 0, 0, 0)), (90, (.ishr, 1, 0, 0, 0, 0, 0)), (91, (.iconst 1, 1, 0, 0, 0, 1, 0)), (92, (.iand, 1, 0, 0, 0, 0, 0)), (93, (.ifCond .ne 16, 3, 109, 0, 0, 0, 0))],
  [(96, (.iload_n 1, 1, 1, 0, 0, 0, 0)), (97, (.iload 4, 2, 4, 0, 0, 0, 0)), (99, (.ishr, 1, 0, 0, 0, 0, 0)), (100, (.iconst 1, 1, 0, 0, 0, 1, 0)), (101, (.iand, 1, 0, 0, 0, 0, 0)), (102, (.ifCond .ne 7, 3, 109, 0, 0, 0, 0)), (105, (.iconst 1, 1, 0, 0, 0, 1, 0)), (106, (.goto 4, 3, 110, 0, 0, 0, 0)), (109, (.iconst 0, 1, 0, 0, 0, 0, 0)), (110, (.iconst 3, 1, 0, 0, 0, 3, 0)), (111, (.invokevirtual 183, 3, 128, 7219, 0, 449, 0)), (114, (.iload_n 2, 1, 2, 0, 0, 0, 0)), (115, (.aload_n 0, 1, 0, 0, 0, 0, 0)), (116, (.getfield 141, 3, 7, 25, 0, 431, 0)), (119, (.ifCond .ne 10, 3, 129, 0, 0, 0, 0)), (122, (.iconst 1, 1, 0, 0, 0, 1, 0)), (123, (.iload 4, 2, 4, 0, 0, 0, 0)), (125, (.ishl, 1, 0, 0, 0, 0, 0)), (126, (.goto 4, 3, 130, 0, 0, 0, 0))],
  [(129, (.iconst 0, 1, 0, 0, 0, 0, 0)), (130, (.ior, 1, 0, 0, 0, 0, 0)), (131, (.istore_n 2, 1, 2, 0, 0, 0, 0)), (132, (.iinc 3 1, 3, 3, 0, 0, 1, 0)), (135, (.goto (-95), 3, 40, 0, 0, 0, 0)), (138, (.aload_n 0, 1, 0, 0, 0, 0, 0)), (139, (.invokevirtual 187, 3, 134, 7201, 0, 435, 0)), (142, (.iload_n 2, 1, 2, 0, 0, 0, 0)), (143, (.ireturn, 1, 0, 0, 0, 0, 0))]]
def tX7_readKind : List (List (Nat × E_)) := [[(0, (.iconst 5, 1, 0, 0, 0, 5, 0)), (1, (.aload_n 0, 1, 0, 0, 0, 0, 0)), (2, (.getfield 105, 3, 7, 16, 0, 140, 0)), (5, (.imul, 1, 0, 0, 0, 0, 0)), (6, (.istore_n 2, 1, 2, 0, 0, 0, 0)), (7, (.sipush 255, 3, 0, 0, 0, 255, 0)), (10, (.istore_n 3, 1, 3, 0, 0, 0, 0)), (11, (.bipush (-4), 2, 0, 0, 0, (-4), 0)), (13, (.istore 4, 2, 4, 0, 0, 0, 0)), (15, (.iconst 1, 1, 0, 0, 0, 1, 0)), (16, (.istore 5, 2, 5, 0, 0, 0, 0)), (18, (.iconst 0, 1, 0, 0, 0, 0, 0)), (19, (.istore 6, 2, 6, 0, 0, 0, 0)), (21, (.aload_n 0, 1, 0, 0, 0, 0, 0)), (22, (.getfield 141, 3, 7, 25, 0, 431, 0)), (25, (.ifCond .ne 138, 3, 163, 0, 0, 0, 0)), (28, (.aload_n 0, 1, 0, 0, 0, 0, 0)), (29, (.getfield 169, 3, 7, 23, 0, 433, 0))],
  [(32, (.iconst 1, 1, 0, 0, 0, 1, 0)), (33, (.if_icmp .ne 130, 3, 163, 0, 0, 0, 0)), (36, (.aload_n 0, 1, 0, 0, 0, 0, 0)), (37, (.invokevirtual 192, 3, 133, 7185, 1, 460, 0)), (40, (.istore 7, 2, 7, 0, 0, 0, 0)), (42, (.aload_n 0, 1, 0, 0, 0, 0, 0)), (43, (.iload 7, 2, 7, 0, 0, 0, 0)), (45, (.i2l, 1, 0, 0, 0, 0, 0)), (46, (.ldc2_w 195, 3, 0, 492, 0, 0, (14))), (49, (.ldc2_w 197, 3, 0, 493, 0, 0, (17))), (52, (.invokestatic 137, 3, 121, 99, 1, 162, 0)), (55, (.iconst 2, 1, 0, 0, 0, 2, 0)), (56, (.invokevirtual 183, 3, 128, 7219, 0, 449, 0)), (59, (.aload_n 0, 1, 0, 0, 0, 0, 0)), (60, (.getfield 141, 3, 7, 25, 0, 431, 0)), (63, (.ifCond .ne 97, 3, 160, 0, 0, 0, 0))],
  [(66, (.aload_n 0, 1, 0, 0, 0, 0, 0)), (67, (.iload 6, 2, 6, 0, 0, 0, 0)), (69, (.iload 7, 2, 7, 0, 0, 0, 0)), (71, (.bipush 14, 2, 0, 0, 0, 14, 0)), (73, (.isub, 1, 0, 0, 0, 0, 0)), (74, (.ishr, 1, 0, 0, 0, 0, 0)), (75, (.iconst 1, 1, 0, 0, 0, 1, 0)), (76, (.iand, 1, 0, 0, 0, 0, 0)), (77, (.ifCond .ne 7, 3, 84, 0, 0, 0, 0)), (80, (.iconst 1, 1, 0, 0, 0, 1, 0)), (81, (.goto 4, 3, 85, 0, 0, 0, 0)), (84, (.iconst 0, 1, 0, 0, 0, 0, 0)), (85, (.iconst 4, 1, 0, 0, 0, 4, 0)), (86, (.invokevirtual 183, 3, 128, 7219, 0, 449, 0)), (89, (.iload 6, 2, 6, 0, 0, 0, 0)), (91, (.iconst 1, 1, 0, 0, 0, 1, 0)), (92, (.iload 7, 2, 7, 0, 0, 0, 0)), (94, (.bipush 14, 2, 0, 0, 0, 14, 0))],
  [(96, (.isub, 1, 0, 0, 0, 0, 0)), (97, (.ishl, 1, 0, 0, 0, 0, 0)), (98, (.ior, 1, 0, 0, 0, 0, 0)), (99, (.istore 6, 2, 6, 0, 0, 0, 0)), (101, (.aload_n 0, 1, 0, 0, 0, 0, 0)), (102, (.invokevirtual 187, 3, 134, 7201, 0, 435, 0)), (105, (.iload 7, 2, 7, 0, 0, 0, 0)), (107, (.bipush 14, 2, 0, 0, 0, 14, 0)), (109, (.if_icmp .ne 12, 3, 121, 0, 0, 0, 0)), (112, (.aload_n 0, 1, 0, 0, 0, 0, 0)), (113, (.iconst 0, 1, 0, 0, 0, 0, 0)), (114, (.invokevirtual 199, 3, 136, 7250, 1, 476, 0)), (117, (.istore_n 3, 1, 3, 0, 0, 0, 0)), (118, (.goto 42, 3, 160, 0, 0, 0, 0)), (121, (.iload 7, 2, 7, 0, 0, 0, 0)), (123, (.bipush 15, 2, 0, 0, 0, 15, 0)), (125, (.if_icmp .ne 19, 3, 144, 0, 0, 0, 0))],
  [(128, (.aload_n 0, 1, 0, 0, 0, 0, 0)), (129, (.iconst 0, 1, 0, 0, 0, 0, 0)), (130, (.aload_n 0, 1, 0, 0, 0, 0, 0)), (131, (.getfield 95, 3, 7, 9, 0, 137, 0)), (134, (.iconst 1, 1, 0, 0, 0, 1, 0)), (135, (.isub, 1, 0, 0, 0, 0, 0)), (136, (.invokevirtual 202, 3, 135, 7235, 1, 484, 0)), (139, (.istore 4, 2, 4, 0, 0, 0, 0)), (141, (.goto 19, 3, 160, 0, 0, 0, 0)), (144, (.iload 7, 2, 7, 0, 0, 0, 0)), (146, (.bipush 17, 2, 0, 0, 0, 17, 0)), (148, (.if_icmp .ne 12, 3, 160, 0, 0, 0, 0)), (151, (.aload_n 0, 1, 0, 0, 0, 0, 0)), (152, (.iconst 0, 1, 0, 0, 0, 0, 0)), (153, (.bipush 9, 2, 0, 0, 0, 9, 0)), (155, (.invokevirtual 202, 3, 135, 7235, 1, 484, 0)), (158, (.istore 5, 2, 5, 0, 0, 0, 0))],
  [(160, (.goto (-139), 3, 21, 0, 0, 0, 0)), (163, (.aload_n 0, 1, 0, 0, 0, 0, 0)), (164, (.getfield 141, 3, 7, 25, 0, 431, 0)), (167, (.ifCond .ne 63, 3, 230, 0, 0, 0, 0)), (170, (.aload_n 0, 1, 0, 0, 0, 0, 0)), (171, (.getfield 37, 3, 7, 17, 1, 116, 0)), (174, (.iload_n 2, 1, 2, 0, 0, 0, 0)), (175, (.iload_n 1, 1, 1, 0, 0, 0, 0)), (176, (.iastore, 1, 0, 0, 0, 0, 0)), (177, (.aload_n 0, 1, 0, 0, 0, 0, 0)), (178, (.getfield 37, 3, 7, 17, 1, 116, 0)), (181, (.iload_n 2, 1, 2, 0, 0, 0, 0)), (182, (.iconst 1, 1, 0, 0, 0, 1, 0)), (183, (.iadd, 1, 0, 0, 0, 0, 0)), (184, (.iload_n 3, 1, 3, 0, 0, 0, 0)), (185, (.iastore, 1, 0, 0, 0, 0, 0)), (186, (.aload_n 0, 1, 0, 0, 0, 0, 0)), (187, (.getfield 37, 3, 7, 17, 1, 116, 0)), (190, (.iload_n 2, 1, 2, 0, 0, 0, 0)), (191, (.iconst 2, 1, 0, 0, 0, 2, 0))],
  [(192, (.iadd, 1, 0, 0, 0, 0, 0)), (193, (.iload 4, 2, 4, 0, 0, 0, 0)), (195, (.iastore, 1, 0, 0, 0, 0, 0)), (196, (.aload_n 0, 1, 0, 0, 0, 0, 0)), (197, (.getfield 37, 3, 7, 17, 1, 116, 0)), (200, (.iload_n 2, 1, 2, 0, 0, 0, 0)), (201, (.iconst 3, 1, 0, 0, 0, 3, 0)), (202, (.iadd, 1, 0, 0, 0, 0, 0)), (203, (.iload 6, 2, 6, 0, 0, 0, 0)), (205, (.iconst 2, 1, 0, 0, 0, 2, 0)), (206, (.ishr, 1, 0, 0, 0, 0, 0)), (207, (.iconst 1, 1, 0, 0, 0, 1, 0)), (208, (.iand, 1, 0, 0, 0, 0, 0)), (209, (.iastore, 1, 0, 0, 0, 0, 0)), (210, (.aload_n 0, 1, 0, 0, 0, 0, 0)), (211, (.getfield 37, 3, 7, 17, 1, 116, 0)), (214, (.iload_n 2, 1, 2, 0, 0, 0, 0)), (215, (.iconst 4, 1, 0, 0, 0, 4, 0)), (216, (.iadd, 1, 0, 0, 0, 0, 0)), (217, (.iload 5, 2, 5, 0, 0, 0, 0)), (219, (.iastore, 1, 0, 0, 0, 0, 0)), (220, (.aload_n 0, 1, 0, 0, 0, 0, 0)), (221, (.dup, 1, 0, 0, 0, 0, 0)), (222, (.getfield 105, 3, 7, 16, 0, 140, 0))],
  [(225, (.iconst 1, 1, 0, 0, 0, 1, 0)), (226, (.iadd, 1, 0, 0, 0, 0, 0)), (227, (.putfield 105, 3, 7, 16, 0, 140, 0)), (230, (.return_, 1, 0, 0, 0, 0, 0))]]
def tX7_readMeans : List (List (Nat × E_)) := [[(0, (.aload_n 0, 1, 0, 0, 0, 0, 0)), (1, (.iconst 0, 1, 0, 0, 0, 0, 0)), (2, (.invokevirtual 199, 3, 136, 7250, 1, 476, 0)), (5, (.istore_n 1, 1, 1, 0, 0, 0, 0)), (6, (.iconst 0, 1, 0, 0, 0, 0, 0)), (7, (.istore_n 2, 1, 2, 0, 0, 0, 0)), (8, (.aload_n 0, 1, 0, 0, 0, 0, 0)), (9, (.getfield 141, 3, 7, 25, 0, 431, 0)), (12, (.ifCond .ne 40, 3, 52, 0, 0, 0, 0)), (15, (.aload_n 0, 1, 0, 0, 0, 0, 0)), (16, (.getfield 169, 3, 7, 23, 0, 433, 0)), (19, (.iconst 1, 1, 0, 0, 0, 1, 0)), (20, (.if_icmp .ne 32, 3, 52, 0, 0, 0, 0)), (23, (.aload_n 0, 1, 0, 0, 0, 0, 0)), (24, (.aload_n 0, 1, 0, 0, 0, 0, 0)), (25, (.invokevirtual 192, 3, 133, 7185, 1, 460, 0)), (28, (.bipush 13, 2, 0, 0, 0, 13, 0)), (30, (.if_icmp .ne 7, 3, 37, 0, 0, 0, 0))],
  [(33, (.iconst 1, 1, 0, 0, 0, 1, 0)), (34, (.goto 4, 3, 38, 0, 0, 0, 0)), (37, (.iconst 0, 1, 0, 0, 0, 0, 0)), (38, (.iconst 2, 1, 0, 0, 0, 2, 0)), (39, (.invokevirtual 183, 3, 128, 7219, 0, 449, 0)), (42, (.aload_n 0, 1, 0, 0, 0, 0, 0)), (43, (.invokevirtual 187, 3, 134, 7201, 0, 435, 0)), (46, (.aload_n 0, 1, 0, 0, 0, 0, 0)), (47, (.iload_n 1, 1, 1, 0, 0, 0, 0)), (48, (.invokevirtual 199, 3, 136, 7250, 1, 476, 0)), (51, (.istore_n 2, 1, 2, 0, 0, 0, 0)), (52, (.aload_n 0, 1, 0, 0, 0, 0, 0)), (53, (.getfield 141, 3, 7, 25, 0, 431, 0)), (56, (.ifCond .ne 33, 3, 89, 0, 0, 0, 0)), (59, (.aload_n 0, 1, 0, 0, 0, 0, 0)), (60, (.getfield 28, 3, 7, 12, 1, 113, 0)), (63, (.aload_n 0, 1, 0, 0, 0, 0, 0))],
  [(64, (.getfield 99, 3, 7, 11, 0, 138, 0)), (67, (.iload_n 1, 1, 1, 0, 0, 0, 0)), (68, (.iastore, 1, 0, 0, 0, 0, 0)), (69, (.aload_n 0, 1, 0, 0, 0, 0, 0)), (70, (.getfield 31, 3, 7, 13, 1, 114, 0)), (73, (.aload_n 0, 1, 0, 0, 0, 0, 0)), (74, (.getfield 99, 3, 7, 11, 0, 138, 0)), (77, (.iload_n 2, 1, 2, 0, 0, 0, 0)), (78, (.iastore, 1, 0, 0, 0, 0, 0)), (79, (.aload_n 0, 1, 0, 0, 0, 0, 0)), (80, (.dup, 1, 0, 0, 0, 0, 0)), (81, (.getfield 99, 3, 7, 11, 0, 138, 0)), (84, (.iconst 1, 1, 0, 0, 0, 1, 0)), (85, (.iadd, 1, 0, 0, 0, 0, 0)), (86, (.putfield 99, 3, 7, 11, 0, 138, 0)), (89, (.return_, 1, 0, 0, 0, 0, 0))]]
def tX7_readLine : List (List (Nat × E_)) := [[(0, (.aload_n 0, 1, 0, 0, 0, 0, 0)), (1, (.getfield 169, 3, 7, 23, 0, 433, 0)), (4, (.iconst 1, 1, 0, 0, 0, 1, 0)), (5, (.if_icmp .ne 10, 3, 15, 0, 0, 0, 0)), (8, (.aload_n 0, 1, 0, 0, 0, 0, 0)), (9, (.invokevirtual 192, 3, 133, 7185, 1, 460, 0)), (12, (.goto 5, 3, 17, 0, 0, 0, 0)), (15, (.bipush (-4), 2, 0, 0, 0, (-4), 0)), (17, (.istore_n 1, 1, 1, 0, 0, 0, 0)), (18, (.aload_n 0, 1, 0, 0, 0, 0, 0)), (19, (.iload_n 1, 1, 1, 0, 0, 0, 0)), (20, (.i2l, 1, 0, 0, 0, 0, 0)), (21, (.lconst 0, 1, 0, 0, 0, 0, 0)), (22, (.ldc2_w 206, 3, 0, 457, 0, 0, (3))), (25, (.invokestatic 137, 3, 121, 99, 1, 162, 0)), (28, (.ifCond .ne 17, 3, 45, 0, 0, 0, 0)), (31, (.iload_n 1, 1, 1, 0, 0, 0, 0))],
  [(32, (.i2l, 1, 0, 0, 0, 0, 0)), (33, (.ldc2_w 208, 3, 0, 458, 0, 0, (10))), (36, (.ldc2_w 210, 3, 0, 459, 0, 0, (12))), (39, (.invokestatic 137, 3, 121, 99, 1, 162, 0)), (42, (.ifCond .eq 7, 3, 49, 0, 0, 0, 0)), (45, (.iconst 1, 1, 0, 0, 0, 1, 0)), (46, (.goto 4, 3, 50, 0, 0, 0, 0)), (49, (.iconst 0, 1, 0, 0, 0, 0, 0)), (50, (.iconst 2, 1, 0, 0, 0, 2, 0)), (51, (.invokevirtual 183, 3, 128, 7219, 0, 449, 0)), (54, (.aload_n 0, 1, 0, 0, 0, 0, 0)), (55, (.iload_n 1, 1, 1, 0, 0, 0, 0)), (56, (.bipush 10, 2, 0, 0, 0, 10, 0)), (58, (.if_icmp .ne 12, 3, 70, 0, 0, 0, 0)), (61, (.aload_n 0, 1, 0, 0, 0, 0, 0)), (62, (.getfield 95, 3, 7, 9, 0, 137, 0))],
  [(65, (.bipush 8, 2, 0, 0, 0, 8, 0)), (67, (.if_icmp .ge 7, 3, 74, 0, 0, 0, 0)), (70, (.iconst 1, 1, 0, 0, 0, 1, 0)), (71, (.goto 4, 3, 75, 0, 0, 0, 0)), (74, (.iconst 0, 1, 0, 0, 0, 0, 0)), (75, (.iconst 5, 1, 0, 0, 0, 5, 0)), (76, (.invokevirtual 183, 3, 128, 7219, 0, 449, 0)), (79, (.aload_n 0, 1, 0, 0, 0, 0, 0)), (80, (.iload_n 1, 1, 1, 0, 0, 0, 0)), (81, (.bipush 11, 2, 0, 0, 0, 11, 0)), (83, (.if_icmp .ne 12, 3, 95, 0, 0, 0, 0)), (86, (.aload_n 0, 1, 0, 0, 0, 0, 0)), (87, (.getfield 99, 3, 7, 11, 0, 138, 0)), (90, (.bipush 12, 2, 0, 0, 0, 12, 0)), (92, (.if_icmp .ge 7, 3, 99, 0, 0, 0, 0)), (95, (.iconst 1, 1, 0, 0, 0, 1, 0))],
  [(96, (.goto 4, 3, 100, 0, 0, 0, 0)), (99, (.iconst 0, 1, 0, 0, 0, 0, 0)), (100, (.iconst 5, 1, 0, 0, 0, 5, 0)), (101, (.invokevirtual 183, 3, 128, 7219, 0, 449, 0)), (104, (.aload_n 0, 1, 0, 0, 0, 0, 0)), (105, (.iload_n 1, 1, 1, 0, 0, 0, 0)), (106, (.bipush 12, 2, 0, 0, 0, 12, 0)), (108, (.if_icmp .ne 11, 3, 119, 0, 0, 0, 0)), (111, (.aload_n 0, 1, 0, 0, 0, 0, 0)), (112, (.getfield 102, 3, 7, 14, 0, 139, 0)), (115, (.iconst 4, 1, 0, 0, 0, 4, 0)), (116, (.if_icmp .ge 7, 3, 123, 0, 0, 0, 0)), (119, (.iconst 1, 1, 0, 0, 0, 1, 0)), (120, (.goto 4, 3, 124, 0, 0, 0, 0)), (123, (.iconst 0, 1, 0, 0, 0, 0, 0)), (124, (.iconst 5, 1, 0, 0, 0, 5, 0)), (125, (.invokevirtual 183, 3, 128, 7219, 0, 449, 0))],
  [(128, (.aload_n 0, 1, 0, 0, 0, 0, 0)), (129, (.iload_n 1, 1, 1, 0, 0, 0, 0)), (130, (.i2l, 1, 0, 0, 0, 0, 0)), (131, (.lconst 0, 1, 0, 0, 0, 0, 0)), (132, (.ldc2_w 206, 3, 0, 457, 0, 0, (3))), (135, (.invokestatic 137, 3, 121, 99, 1, 162, 0)), (138, (.ifCond .eq 12, 3, 150, 0, 0, 0, 0)), (141, (.aload_n 0, 1, 0, 0, 0, 0, 0)), (142, (.getfield 105, 3, 7, 16, 0, 140, 0)), (145, (.bipush 6, 2, 0, 0, 0, 6, 0)), (147, (.if_icmp .ge 7, 3, 154, 0, 0, 0, 0)), (150, (.iconst 1, 1, 0, 0, 0, 1, 0)), (151, (.goto 4, 3, 155, 0, 0, 0, 0)), (154, (.iconst 0, 1, 0, 0, 0, 0, 0)), (155, (.iconst 5, 1, 0, 0, 0, 5, 0)), (156, (.invokevirtual 183, 3, 128, 7219, 0, 449, 0)), (159, (.aload_n 0, 1, 0, 0, 0, 0, 0))],
  [(160, (.invokevirtual 187, 3, 134, 7201, 0, 435, 0)), (163, (.aload_n 0, 1, 0, 0, 0, 0, 0)), (164, (.getfield 141, 3, 7, 25, 0, 431, 0)), (167, (.ifCond .le 4, 3, 171, 0, 0, 0, 0)), (170, (.return_, 1, 0, 0, 0, 0, 0)), (171, (.iload_n 1, 1, 1, 0, 0, 0, 0)), (172, (.bipush 10, 2, 0, 0, 0, 10, 0)), (174, (.if_icmp .ne 39, 3, 213, 0, 0, 0, 0)), (177, (.aload_n 0, 1, 0, 0, 0, 0, 0)), (178, (.iconst 0, 1, 0, 0, 0, 0, 0)), (179, (.invokevirtual 199, 3, 136, 7250, 1, 476, 0)), (182, (.istore_n 2, 1, 2, 0, 0, 0, 0)), (183, (.aload_n 0, 1, 0, 0, 0, 0, 0)), (184, (.getfield 141, 3, 7, 25, 0, 431, 0)), (187, (.ifCond .ne 23, 3, 210, 0, 0, 0, 0)), (190, (.aload_n 0, 1, 0, 0, 0, 0, 0)), (191, (.getfield 25, 3, 7, 10, 1, 112, 0))],
  [(194, (.aload_n 0, 1, 0, 0, 0, 0, 0)), (195, (.getfield 95, 3, 7, 9, 0, 137, 0)), (198, (.iload_n 2, 1, 2, 0, 0, 0, 0)), (199, (.iastore, 1, 0, 0, 0, 0, 0)), (200, (.aload_n 0, 1, 0, 0, 0, 0, 0)), (201, (.dup, 1, 0, 0, 0, 0, 0)), (202, (.getfield 95, 3, 7, 9, 0, 137, 0)), (205, (.iconst 1, 1, 0, 0, 0, 1, 0)), (206, (.iadd, 1, 0, 0, 0, 0, 0)), (207, (.putfield 95, 3, 7, 9, 0, 137, 0)), (210, (.goto 69, 3, 279, 0, 0, 0, 0)), (213, (.iload_n 1, 1, 1, 0, 0, 0, 0)), (214, (.bipush 11, 2, 0, 0, 0, 11, 0)), (216, (.if_icmp .ne 10, 3, 226, 0, 0, 0, 0)), (219, (.aload_n 0, 1, 0, 0, 0, 0, 0)), (220, (.invokevirtual 212, 3, 138, 7217, 0, 480, 0)), (223, (.goto 56, 3, 279, 0, 0, 0, 0))],
  [(226, (.iload_n 1, 1, 1, 0, 0, 0, 0)), (227, (.bipush 12, 2, 0, 0, 0, 12, 0)), (229, (.if_icmp .ne 45, 3, 274, 0, 0, 0, 0)), (232, (.aload_n 0, 1, 0, 0, 0, 0, 0)), (233, (.iconst 0, 1, 0, 0, 0, 0, 0)), (234, (.aload_n 0, 1, 0, 0, 0, 0, 0)), (235, (.getfield 99, 3, 7, 11, 0, 138, 0)), (238, (.iconst 1, 1, 0, 0, 0, 1, 0)), (239, (.isub, 1, 0, 0, 0, 0, 0)), (240, (.invokevirtual 202, 3, 135, 7235, 1, 484, 0)), (243, (.istore_n 2, 1, 2, 0, 0, 0, 0)), (244, (.aload_n 0, 1, 0, 0, 0, 0, 0)), (245, (.getfield 141, 3, 7, 25, 0, 431, 0)), (248, (.ifCond .ne 23, 3, 271, 0, 0, 0, 0)), (251, (.aload_n 0, 1, 0, 0, 0, 0, 0)), (252, (.getfield 34, 3, 7, 15, 1, 115, 0)), (255, (.aload_n 0, 1, 0, 0, 0, 0, 0))],
  [(256, (.getfield 102, 3, 7, 14, 0, 139, 0)), (259, (.iload_n 2, 1, 2, 0, 0, 0, 0)), (260, (.iastore, 1, 0, 0, 0, 0, 0)), (261, (.aload_n 0, 1, 0, 0, 0, 0, 0)), (262, (.dup, 1, 0, 0, 0, 0, 0)), (263, (.getfield 102, 3, 7, 14, 0, 139, 0)), (266, (.iconst 1, 1, 0, 0, 0, 1, 0)), (267, (.iadd, 1, 0, 0, 0, 0, 0)), (268, (.putfield 102, 3, 7, 14, 0, 139, 0)), (271, (.goto 8, 3, 279, 0, 0, 0, 0)), (274, (.aload_n 0, 1, 0, 0, 0, 0, 0)), (275, (.iload_n 1, 1, 1, 0, 0, 0, 0)), (276, (.invokevirtual 215, 3, 137, 7298, 0, 488, 0)), (279, (.aload_n 0, 1, 0, 0, 0, 0, 0)), (280, (.getfield 141, 3, 7, 25, 0, 431, 0)), (283, (.ifCond .ne 21, 3, 304, 0, 0, 0, 0)), (286, (.aload_n 0, 1, 0, 0, 0, 0, 0)), (287, (.aload_n 0, 1, 0, 0, 0, 0, 0))],
  [(288, (.getfield 169, 3, 7, 23, 0, 433, 0)), (291, (.iconst 3, 1, 0, 0, 0, 3, 0)), (292, (.if_icmp .ne 7, 3, 299, 0, 0, 0, 0)), (295, (.iconst 1, 1, 0, 0, 0, 1, 0)), (296, (.goto 4, 3, 300, 0, 0, 0, 0)), (299, (.iconst 0, 1, 0, 0, 0, 0, 0)), (300, (.iconst 2, 1, 0, 0, 0, 2, 0)), (301, (.invokevirtual 183, 3, 128, 7219, 0, 449, 0)), (304, (.aload_n 0, 1, 0, 0, 0, 0, 0)), (305, (.invokevirtual 187, 3, 134, 7201, 0, 435, 0)), (308, (.return_, 1, 0, 0, 0, 0, 0))]]
def tX7_text : List (List (Nat × E_)) := [[(0, (.iconst 0, 1, 0, 0, 0, 0, 0)), (1, (.istore_n 1, 1, 1, 0, 0, 0, 0)), (2, (.aload_n 0, 1, 0, 0, 0, 0, 0)), (3, (.iconst 0, 1, 0, 0, 0, 0, 0)), (4, (.putfield 141, 3, 7, 25, 0, 431, 0)), (7, (.aload_n 0, 1, 0, 0, 0, 0, 0)), (8, (.iconst 0, 1, 0, 0, 0, 0, 0)), (9, (.putfield 150, 3, 7, 21, 0, 432, 0)), (12, (.aload_n 0, 1, 0, 0, 0, 0, 0)), (13, (.invokevirtual 89, 3, 124, 7185, 0, 133, 0)), (16, (.aload_n 0, 1, 0, 0, 0, 0, 0)), (17, (.invokevirtual 187, 3, 134, 7201, 0, 435, 0)), (20, (.aload_n 0, 1, 0, 0, 0, 0, 0)), (21, (.getfield 141, 3, 7, 25, 0, 431, 0)), (24, (.ifCond .ne 20, 3, 44, 0, 0, 0, 0)), (27, (.aload_n 0, 1, 0, 0, 0, 0, 0)), (28, (.getfield 169, 3, 7, 23, 0, 433, 0)), (31, (.ifCond .eq 13, 3, 44, 0, 0, 0, 0))],
  [(34, (.aload_n 0, 1, 0, 0, 0, 0, 0)), (35, (.invokevirtual 219, 3, 139, 7217, 0, 453, 0)), (38, (.iinc 1 1, 3, 1, 0, 0, 1, 0)), (41, (.goto (-21), 3, 20, 0, 0, 0, 0)), (44, (.aload_n 0, 1, 0, 0, 0, 0, 0)), (45, (.iconst 0, 1, 0, 0, 0, 0, 0)), (46, (.putfield 132, 3, 7, 20, 0, 225, 0)), (49, (.aload_n 0, 1, 0, 0, 0, 0, 0)), (50, (.getfield 141, 3, 7, 25, 0, 431, 0)), (53, (.ifCond .le 11, 3, 64, 0, 0, 0, 0)), (56, (.bipush (-10), 2, 0, 0, 0, (-10), 0)), (58, (.aload_n 0, 1, 0, 0, 0, 0, 0)), (59, (.getfield 147, 3, 7, 26, 0, 434, 0)), (62, (.isub, 1, 0, 0, 0, 0, 0)), (63, (.ireturn, 1, 0, 0, 0, 0, 0))],
  [(64, (.aload_n 0, 1, 0, 0, 0, 0, 0)), (65, (.invokevirtual 92, 3, 125, 7217, 0, 141, 0)), (68, (.iload_n 1, 1, 1, 0, 0, 0, 0)), (69, (.ireturn, 1, 0, 0, 0, 0, 0))]]
def tX7_fault : List (List (Nat × E_)) := [[(0, (.aload_n 0, 1, 0, 0, 0, 0, 0)), (1, (.getfield 141, 3, 7, 25, 0, 431, 0)), (4, (.ireturn, 1, 0, 0, 0, 0, 0))]]
def tX7_isThing : List (List (Nat × E_)) := [[(0, (.iload_n 1, 1, 1, 0, 0, 0, 0)), (1, (.i2l, 1, 0, 0, 0, 0, 0)), (2, (.lconst 0, 1, 0, 0, 0, 0, 0)), (3, (.aload_n 0, 1, 0, 0, 0, 0, 0)), (4, (.getfield 108, 3, 7, 0, 0, 145, 0)), (7, (.iconst 1, 1, 0, 0, 0, 1, 0)), (8, (.isub, 1, 0, 0, 0, 0, 0)), (9, (.i2l, 1, 0, 0, 0, 0, 0)), (10, (.invokestatic 137, 3, 121, 99, 1, 162, 0)), (13, (.ireturn, 1, 0, 0, 1, 0, 0))]]
def tX7_isSound : List (List (Nat × E_)) := [[(0, (.iload_n 1, 1, 1, 0, 0, 0, 0)), (1, (.i2l, 1, 0, 0, 0, 0, 0)), (2, (.lconst 0, 1, 0, 0, 0, 0, 0)), (3, (.aload_n 0, 1, 0, 0, 0, 0, 0)), (4, (.getfield 114, 3, 7, 5, 0, 147, 0)), (7, (.iconst 1, 1, 0, 0, 0, 1, 0)), (8, (.isub, 1, 0, 0, 0, 0, 0)), (9, (.i2l, 1, 0, 0, 0, 0, 0)), (10, (.invokestatic 137, 3, 121, 99, 1, 162, 0)), (13, (.ireturn, 1, 0, 0, 1, 0, 0))]]
def tX7_isKind : List (List (Nat × E_)) := [[(0, (.iload_n 1, 1, 1, 0, 0, 0, 0)), (1, (.i2l, 1, 0, 0, 0, 0, 0)), (2, (.lconst 0, 1, 0, 0, 0, 0, 0)), (3, (.aload_n 0, 1, 0, 0, 0, 0, 0)), (4, (.getfield 117, 3, 7, 7, 0, 148, 0)), (7, (.iconst 1, 1, 0, 0, 0, 1, 0)), (8, (.isub, 1, 0, 0, 0, 0, 0)), (9, (.i2l, 1, 0, 0, 0, 0, 0)), (10, (.invokestatic 137, 3, 121, 99, 1, 162, 0)), (13, (.ireturn, 1, 0, 0, 1, 0, 0))]]
def tX7_areKinds : List (List (Nat × E_)) := [[(0, (.iload_n 1, 1, 1, 0, 0, 0, 0)), (1, (.i2l, 1, 0, 0, 0, 0, 0)), (2, (.lconst 0, 1, 0, 0, 0, 0, 0)), (3, (.iconst 1, 1, 0, 0, 0, 1, 0)), (4, (.aload_n 0, 1, 0, 0, 0, 0, 0)), (5, (.getfield 117, 3, 7, 7, 0, 148, 0)), (8, (.ishl, 1, 0, 0, 0, 0, 0)), (9, (.iconst 1, 1, 0, 0, 0, 1, 0)), (10, (.isub, 1, 0, 0, 0, 0, 0)), (11, (.i2l, 1, 0, 0, 0, 0, 0)), (12, (.invokestatic 137, 3, 121, 99, 1, 162, 0)), (15, (.ireturn, 1, 0, 0, 1, 0, 0))]]
def tX7_marksOf : List (List (Nat × E_)) := [[(0, (.aload_n 0, 1, 0, 0, 0, 0, 0)), (1, (.getfield 13, 3, 7, 3, 1, 108, 0)), (4, (.iload_n 1, 1, 1, 0, 0, 0, 0)), (5, (.iaload, 1, 0, 0, 0, 0, 0)), (6, (.invokestatic 222, 3, 123, 49, 1, 204, 0)), (9, (.aload_n 0, 1, 0, 0, 0, 0, 0)), (10, (.getfield 16, 3, 7, 4, 1, 109, 0)), (13, (.iload_n 1, 1, 1, 0, 0, 0, 0)), (14, (.iaload, 1, 0, 0, 0, 0, 0)), (15, (.invokestatic 222, 3, 123, 49, 1, 204, 0)), (18, (.iadd, 1, 0, 0, 0, 0, 0)), (19, (.ireturn, 1, 0, 0, 0, 0, 0))]]
def tX7_canThink : List (List (Nat × E_)) := [[(0, (.iconst 0, 1, 0, 0, 0, 0, 0)), (1, (.istore_n 2, 1, 2, 0, 0, 0, 0)), (2, (.iconst 0, 1, 0, 0, 0, 0, 0)), (3, (.istore_n 3, 1, 3, 0, 0, 0, 0)), (4, (.iload_n 3, 1, 3, 0, 0, 0, 0)), (5, (.aload_n 0, 1, 0, 0, 0, 0, 0)), (6, (.getfield 111, 3, 7, 2, 0, 146, 0)), (9, (.if_icmp .ge 48, 3, 57, 0, 0, 0, 0)), (12, (.iload_n 2, 1, 2, 0, 0, 0, 0)), (13, (.aload_n 0, 1, 0, 0, 0, 0, 0)), (14, (.getfield 13, 3, 7, 3, 1, 108, 0)), (17, (.iload_n 3, 1, 3, 0, 0, 0, 0)), (18, (.iaload, 1, 0, 0, 0, 0, 0)), (19, (.aload_n 0, 1, 0, 0, 0, 0, 0)), (20, (.getfield 16, 3, 7, 4, 1, 109, 0)), (23, (.iload_n 3, 1, 3, 0, 0, 0, 0)), (24, (.iaload, 1, 0, 0, 0, 0, 0)), (25, (.ior, 1, 0, 0, 0, 0, 0)), (26, (.aload_n 0, 1, 0, 0, 0, 0, 0)), (27, (.getfield 22, 3, 7, 8, 1, 111, 0)), (30, (.iconst 5, 1, 0, 0, 0, 5, 0)), (31, (.iload_n 1, 1, 1, 0, 0, 0, 0))],
  [(32, (.imul, 1, 0, 0, 0, 0, 0)), (33, (.iconst 1, 1, 0, 0, 0, 1, 0)), (34, (.iadd, 1, 0, 0, 0, 0, 0)), (35, (.iaload, 1, 0, 0, 0, 0, 0)), (36, (.iconst (-1), 1, 0, 0, 0, (-1), 0)), (37, (.ixor, 1, 0, 0, 0, 0, 0)), (38, (.iand, 1, 0, 0, 0, 0, 0)), (39, (.ifCond .ne 9, 3, 48, 0, 0, 0, 0)), (42, (.iconst 1, 1, 0, 0, 0, 1, 0)), (43, (.iload_n 3, 1, 3, 0, 0, 0, 0)), (44, (.ishl, 1, 0, 0, 0, 0, 0)), (45, (.goto 4, 3, 49, 0, 0, 0, 0)), (48, (.iconst 0, 1, 0, 0, 0, 0, 0)), (49, (.ior, 1, 0, 0, 0, 0, 0)), (50, (.istore_n 2, 1, 2, 0, 0, 0, 0)), (51, (.iinc 3 1, 3, 3, 0, 0, 1, 0)), (54, (.goto (-50), 3, 4, 0, 0, 0, 0)), (57, (.iload_n 2, 1, 2, 0, 0, 0, 0)), (58, (.ireturn, 1, 0, 0, 0, 0, 0))]]
def tX7_targetOf : List (List (Nat × E_)) := [[(0, (.aload_n 0, 1, 0, 0, 0, 0, 0)), (1, (.getfield 40, 3, 7, 18, 1, 117, 0)), (4, (.aload_n 0, 1, 0, 0, 0, 0, 0)), (5, (.getfield 19, 3, 7, 6, 1, 110, 0)), (8, (.iload_n 1, 1, 1, 0, 0, 0, 0)), (9, (.iaload, 1, 0, 0, 0, 0, 0)), (10, (.iaload, 1, 0, 0, 0, 0, 0)), (11, (.ireturn, 1, 0, 0, 0, 0, 0))]]
def tX7_thing : List (List (Nat × E_)) := [[(0, (.aload_n 0, 1, 0, 0, 0, 0, 0)), (1, (.iload_n 1, 1, 1, 0, 0, 0, 0)), (2, (.invokevirtual 225, 3, 142, 7202, 1, 516, 0)), (5, (.ifCond .eq 12, 3, 17, 0, 0, 0, 0)), (8, (.aload_n 0, 1, 0, 0, 0, 0, 0)), (9, (.getfield 7, 3, 7, 1, 1, 107, 0)), (12, (.iload_n 1, 1, 1, 0, 0, 0, 0)), (13, (.iaload, 1, 0, 0, 0, 0, 0)), (14, (.goto 4, 3, 18, 0, 0, 0, 0)), (17, (.iconst (-1), 1, 0, 0, 0, (-1), 0)), (18, (.ireturn, 1, 0, 0, 0, 0, 0))]]
def tX7_meaning : List (List (Nat × E_)) := [[(0, (.iload_n 1, 1, 1, 0, 0, 0, 0)), (1, (.i2l, 1, 0, 0, 0, 0, 0)), (2, (.lconst 0, 1, 0, 0, 0, 0, 0)), (3, (.aload_n 0, 1, 0, 0, 0, 0, 0)), (4, (.getfield 111, 3, 7, 2, 0, 146, 0)), (7, (.iconst 1, 1, 0, 0, 0, 1, 0)), (8, (.isub, 1, 0, 0, 0, 0, 0)), (9, (.i2l, 1, 0, 0, 0, 0, 0)), (10, (.invokestatic 137, 3, 121, 99, 1, 162, 0)), (13, (.ifCond .eq 15, 3, 28, 0, 0, 0, 0)), (16, (.iload_n 2, 1, 2, 0, 0, 0, 0)), (17, (.i2l, 1, 0, 0, 0, 0, 0)), (18, (.lconst 0, 1, 0, 0, 0, 0, 0)), (19, (.ldc2_w 229, 3, 0, 160, 0, 0, (4))), (22, (.invokestatic 137, 3, 121, 99, 1, 162, 0)), (25, (.ifCond .ne 5, 3, 30, 0, 0, 0, 0)), (28, (.iconst (-1), 1, 0, 0, 0, (-1), 0)), (29, (.ireturn, 1, 0, 0, 0, 0, 0)), (30, (.iconst 0, 1, 0, 0, 0, 0, 0)), (31, (.istore_n 3, 1, 3, 0, 0, 0, 0))],
  [(32, (.iconst 0, 1, 0, 0, 0, 0, 0)), (33, (.istore 4, 2, 4, 0, 0, 0, 0)), (35, (.iload 4, 2, 4, 0, 0, 0, 0)), (37, (.aload_n 0, 1, 0, 0, 0, 0, 0)), (38, (.getfield 117, 3, 7, 7, 0, 148, 0)), (41, (.if_icmp .ge 34, 3, 75, 0, 0, 0, 0)), (44, (.iload_n 3, 1, 3, 0, 0, 0, 0)), (45, (.aload_n 0, 1, 0, 0, 0, 0, 0)), (46, (.iload 4, 2, 4, 0, 0, 0, 0)), (48, (.invokevirtual 231, 3, 147, 7234, 1, 185, 0)), (51, (.iload_n 1, 1, 1, 0, 0, 0, 0)), (52, (.ishr, 1, 0, 0, 0, 0, 0)), (53, (.iconst 1, 1, 0, 0, 0, 1, 0)), (54, (.iand, 1, 0, 0, 0, 0, 0)), (55, (.iconst 1, 1, 0, 0, 0, 1, 0)), (56, (.if_icmp .ne 10, 3, 66, 0, 0, 0, 0)), (59, (.iconst 1, 1, 0, 0, 0, 1, 0)), (60, (.iload 4, 2, 4, 0, 0, 0, 0)), (62, (.ishl, 1, 0, 0, 0, 0, 0)), (63, (.goto 4, 3, 67, 0, 0, 0, 0))],
  [(66, (.iconst 0, 1, 0, 0, 0, 0, 0)), (67, (.ior, 1, 0, 0, 0, 0, 0)), (68, (.istore_n 3, 1, 3, 0, 0, 0, 0)), (69, (.iinc 4 1, 3, 4, 0, 0, 1, 0)), (72, (.goto (-37), 3, 35, 0, 0, 0, 0)), (75, (.iload_n 2, 1, 2, 0, 0, 0, 0)), (76, (.ifCond .ne 12, 3, 88, 0, 0, 0, 0)), (79, (.aload_n 0, 1, 0, 0, 0, 0, 0)), (80, (.getfield 13, 3, 7, 3, 1, 108, 0)), (83, (.iload_n 1, 1, 1, 0, 0, 0, 0)), (84, (.iaload, 1, 0, 0, 0, 0, 0)), (85, (.goto 45, 3, 130, 0, 0, 0, 0)), (88, (.iload_n 2, 1, 2, 0, 0, 0, 0)), (89, (.iconst 1, 1, 0, 0, 0, 1, 0)), (90, (.if_icmp .ne 12, 3, 102, 0, 0, 0, 0)), (93, (.aload_n 0, 1, 0, 0, 0, 0, 0)), (94, (.getfield 16, 3, 7, 4, 1, 109, 0))],
  [(97, (.iload_n 1, 1, 1, 0, 0, 0, 0)), (98, (.iaload, 1, 0, 0, 0, 0, 0)), (99, (.goto 31, 3, 130, 0, 0, 0, 0)), (102, (.iload_n 2, 1, 2, 0, 0, 0, 0)), (103, (.iconst 2, 1, 0, 0, 0, 2, 0)), (104, (.if_icmp .ne 11, 3, 115, 0, 0, 0, 0)), (107, (.aload_n 0, 1, 0, 0, 0, 0, 0)), (108, (.iload_n 1, 1, 1, 0, 0, 0, 0)), (109, (.invokevirtual 234, 3, 146, 7202, 1, 200, 0)), (112, (.goto 18, 3, 130, 0, 0, 0, 0)), (115, (.iload_n 2, 1, 2, 0, 0, 0, 0)), (116, (.iconst 3, 1, 0, 0, 0, 3, 0)), (117, (.if_icmp .ne 12, 3, 129, 0, 0, 0, 0)), (120, (.aload_n 0, 1, 0, 0, 0, 0, 0)), (121, (.getfield 40, 3, 7, 18, 1, 117, 0)), (124, (.iload_n 1, 1, 1, 0, 0, 0, 0)), (125, (.iaload, 1, 0, 0, 0, 0, 0)), (126, (.goto 4, 3, 130, 0, 0, 0, 0))],
  [(129, (.iload_n 3, 1, 3, 0, 0, 0, 0)), (130, (.ireturn, 1, 0, 0, 0, 0, 0))]]
def tX7_word : List (List (Nat × E_)) := [[(0, (.aload_n 0, 1, 0, 0, 0, 0, 0)), (1, (.iload_n 1, 1, 1, 0, 0, 0, 0)), (2, (.invokevirtual 237, 3, 143, 7202, 1, 553, 0)), (5, (.ifCond .eq 12, 3, 17, 0, 0, 0, 0)), (8, (.aload_n 0, 1, 0, 0, 0, 0, 0)), (9, (.getfield 19, 3, 7, 6, 1, 110, 0)), (12, (.iload_n 1, 1, 1, 0, 0, 0, 0)), (13, (.iaload, 1, 0, 0, 0, 0, 0)), (14, (.goto 4, 3, 18, 0, 0, 0, 0)), (17, (.iconst (-1), 1, 0, 0, 0, (-1), 0)), (18, (.ireturn, 1, 0, 0, 0, 0, 0))]]
def tX7_kind : List (List (Nat × E_)) := [[(0, (.aload_n 0, 1, 0, 0, 0, 0, 0)), (1, (.iload_n 1, 1, 1, 0, 0, 0, 0)), (2, (.invokevirtual 240, 3, 144, 7202, 1, 576, 0)), (5, (.ifCond .eq 15, 3, 20, 0, 0, 0, 0)), (8, (.iload_n 2, 1, 2, 0, 0, 0, 0)), (9, (.i2l, 1, 0, 0, 0, 0, 0)), (10, (.lconst 0, 1, 0, 0, 0, 0, 0)), (11, (.ldc2_w 243, 3, 0, 575, 0, 0, (5))), (14, (.invokestatic 137, 3, 121, 99, 1, 162, 0)), (17, (.ifCond .ne 7, 3, 24, 0, 0, 0, 0)), (20, (.iconst (-1), 1, 0, 0, 0, (-1), 0)), (21, (.goto 26, 3, 47, 0, 0, 0, 0)), (24, (.iload_n 2, 1, 2, 0, 0, 0, 0)), (25, (.iconst 5, 1, 0, 0, 0, 5, 0)), (26, (.if_icmp .ne 11, 3, 37, 0, 0, 0, 0)), (29, (.aload_n 0, 1, 0, 0, 0, 0, 0)), (30, (.iload_n 1, 1, 1, 0, 0, 0, 0)), (31, (.invokevirtual 231, 3, 147, 7234, 1, 185, 0))],
  [(34, (.goto 13, 3, 47, 0, 0, 0, 0)), (37, (.aload_n 0, 1, 0, 0, 0, 0, 0)), (38, (.getfield 22, 3, 7, 8, 1, 111, 0)), (41, (.iconst 5, 1, 0, 0, 0, 5, 0)), (42, (.iload_n 1, 1, 1, 0, 0, 0, 0)), (43, (.imul, 1, 0, 0, 0, 0, 0)), (44, (.iload_n 2, 1, 2, 0, 0, 0, 0)), (45, (.iadd, 1, 0, 0, 0, 0, 0)), (46, (.iaload, 1, 0, 0, 0, 0, 0)), (47, (.ireturn, 1, 0, 0, 0, 0, 0))]]
def tX7_wakes : List (List (Nat × E_)) := [[(0, (.iconst 0, 1, 0, 0, 0, 0, 0)), (1, (.istore_n 2, 1, 2, 0, 0, 0, 0)), (2, (.iload_n 2, 1, 2, 0, 0, 0, 0)), (3, (.bipush 70, 2, 0, 0, 0, 70, 0)), (5, (.if_icmp .ge 48, 3, 53, 0, 0, 0, 0)), (8, (.iload_n 2, 1, 2, 0, 0, 0, 0)), (9, (.bipush 10, 2, 0, 0, 0, 10, 0)), (11, (.irem, 1, 0, 0, 0, 0, 0)), (12, (.istore_n 3, 1, 3, 0, 0, 0, 0)), (13, (.aload_n 0, 1, 0, 0, 0, 0, 0)), (14, (.getfield 46, 3, 7, 27, 1, 119, 0)), (17, (.iload_n 1, 1, 1, 0, 0, 0, 0)), (18, (.iload_n 2, 1, 2, 0, 0, 0, 0)), (19, (.iadd, 1, 0, 0, 0, 0, 0)), (20, (.iload_n 2, 1, 2, 0, 0, 0, 0)), (21, (.bipush 60, 2, 0, 0, 0, 60, 0)), (23, (.if_icmp .ge 22, 3, 45, 0, 0, 0, 0)), (26, (.iload_n 3, 1, 3, 0, 0, 0, 0)), (27, (.i2l, 1, 0, 0, 0, 0, 0)), (28, (.ldc2_w 229, 3, 0, 160, 0, 0, (4))), (31, (.ldc2_w 190, 3, 0, 161, 0, 0, (7)))],
  [(34, (.invokestatic 137, 3, 121, 99, 1, 162, 0)), (37, (.ifCond .ne 8, 3, 45, 0, 0, 0, 0)), (40, (.bipush (-4), 2, 0, 0, 0, (-4), 0)), (42, (.goto 4, 3, 46, 0, 0, 0, 0)), (45, (.iconst 0, 1, 0, 0, 0, 0, 0)), (46, (.iastore, 1, 0, 0, 0, 0, 0)), (47, (.iinc 2 1, 3, 2, 0, 0, 1, 0)), (50, (.goto (-48), 3, 2, 0, 0, 0, 0)), (53, (.return_, 1, 0, 0, 0, 0, 0))]]
def tX7_fitsIn : List (List (Nat × E_)) := [[(0, (.aload_n 0, 1, 0, 0, 0, 0, 0)), (1, (.getfield 46, 3, 7, 27, 1, 119, 0)), (4, (.iload_n 1, 1, 1, 0, 0, 0, 0)), (5, (.bipush 60, 2, 0, 0, 0, 60, 0)), (7, (.iadd, 1, 0, 0, 0, 0, 0)), (8, (.iload_n 2, 1, 2, 0, 0, 0, 0)), (9, (.iadd, 1, 0, 0, 0, 0, 0)), (10, (.iaload, 1, 0, 0, 0, 0, 0)), (11, (.aload_n 0, 1, 0, 0, 0, 0, 0)), (12, (.getfield 40, 3, 7, 18, 1, 117, 0)), (15, (.iload_n 3, 1, 3, 0, 0, 0, 0)), (16, (.iaload, 1, 0, 0, 0, 0, 0)), (17, (.iconst (-1), 1, 0, 0, 0, (-1), 0)), (18, (.ixor, 1, 0, 0, 0, 0, 0)), (19, (.iand, 1, 0, 0, 0, 0, 0)), (20, (.ifCond .ne 28, 3, 48, 0, 0, 0, 0)), (23, (.aload_n 0, 1, 0, 0, 0, 0, 0)), (24, (.getfield 46, 3, 7, 27, 1, 119, 0)), (27, (.iload_n 1, 1, 1, 0, 0, 0, 0)), (28, (.bipush 64, 2, 0, 0, 0, 64, 0)), (30, (.iadd, 1, 0, 0, 0, 0, 0)), (31, (.iload_n 2, 1, 2, 0, 0, 0, 0))],
  [(32, (.iadd, 1, 0, 0, 0, 0, 0)), (33, (.iaload, 1, 0, 0, 0, 0, 0)), (34, (.aload_n 0, 1, 0, 0, 0, 0, 0)), (35, (.getfield 40, 3, 7, 18, 1, 117, 0)), (38, (.iload_n 3, 1, 3, 0, 0, 0, 0)), (39, (.iaload, 1, 0, 0, 0, 0, 0)), (40, (.iand, 1, 0, 0, 0, 0, 0)), (41, (.ifCond .ne 7, 3, 48, 0, 0, 0, 0)), (44, (.iconst 1, 1, 0, 0, 0, 1, 0)), (45, (.goto 4, 3, 49, 0, 0, 0, 0)), (48, (.iconst 0, 1, 0, 0, 0, 0, 0)), (49, (.ireturn, 1, 0, 0, 1, 0, 0))]]
def tX7_allThatFit : List (List (Nat × E_)) := [[(0, (.iconst 0, 1, 0, 0, 0, 0, 0)), (1, (.istore_n 3, 1, 3, 0, 0, 0, 0)), (2, (.iconst 0, 1, 0, 0, 0, 0, 0)), (3, (.istore 4, 2, 4, 0, 0, 0, 0)), (5, (.iload 4, 2, 4, 0, 0, 0, 0)), (7, (.aload_n 0, 1, 0, 0, 0, 0, 0)), (8, (.getfield 111, 3, 7, 2, 0, 146, 0)), (11, (.if_icmp .ge 31, 3, 42, 0, 0, 0, 0)), (14, (.iload_n 3, 1, 3, 0, 0, 0, 0)), (15, (.aload_n 0, 1, 0, 0, 0, 0, 0)), (16, (.iload_n 1, 1, 1, 0, 0, 0, 0)), (17, (.iload_n 2, 1, 2, 0, 0, 0, 0)), (18, (.iload 4, 2, 4, 0, 0, 0, 0)), (20, (.invokevirtual 245, 3, 154, 7236, 1, 181, 0)), (23, (.ifCond .eq 10, 3, 33, 0, 0, 0, 0)), (26, (.iconst 1, 1, 0, 0, 0, 1, 0)), (27, (.iload 4, 2, 4, 0, 0, 0, 0)), (29, (.ishl, 1, 0, 0, 0, 0, 0)), (30, (.goto 4, 3, 34, 0, 0, 0, 0))],
  [(33, (.iconst 0, 1, 0, 0, 0, 0, 0)), (34, (.ior, 1, 0, 0, 0, 0, 0)), (35, (.istore_n 3, 1, 3, 0, 0, 0, 0)), (36, (.iinc 4 1, 3, 4, 0, 0, 1, 0)), (39, (.goto (-34), 3, 5, 0, 0, 0, 0)), (42, (.iload_n 3, 1, 3, 0, 0, 0, 0)), (43, (.ireturn, 1, 0, 0, 0, 0, 0))]]
def tX7_plainest : List (List (Nat × E_)) := [[(0, (.bipush (-4), 2, 0, 0, 0, (-4), 0)), (2, (.istore_n 2, 1, 2, 0, 0, 0, 0)), (3, (.iconst 0, 1, 0, 0, 0, 0, 0)), (4, (.istore_n 3, 1, 3, 0, 0, 0, 0)), (5, (.iload_n 3, 1, 3, 0, 0, 0, 0)), (6, (.aload_n 0, 1, 0, 0, 0, 0, 0)), (7, (.getfield 111, 3, 7, 2, 0, 146, 0)), (10, (.if_icmp .ge 43, 3, 53, 0, 0, 0, 0)), (13, (.iload_n 1, 1, 1, 0, 0, 0, 0)), (14, (.iload_n 3, 1, 3, 0, 0, 0, 0)), (15, (.ishr, 1, 0, 0, 0, 0, 0)), (16, (.iconst 1, 1, 0, 0, 0, 1, 0)), (17, (.iand, 1, 0, 0, 0, 0, 0)), (18, (.iconst 1, 1, 0, 0, 0, 1, 0)), (19, (.if_icmp .ne 26, 3, 45, 0, 0, 0, 0)), (22, (.iload_n 2, 1, 2, 0, 0, 0, 0)), (23, (.bipush (-4), 2, 0, 0, 0, (-4), 0)), (25, (.if_icmp .eq 16, 3, 41, 0, 0, 0, 0)), (28, (.aload_n 0, 1, 0, 0, 0, 0, 0)), (29, (.iload_n 3, 1, 3, 0, 0, 0, 0)), (30, (.invokevirtual 234, 3, 146, 7202, 1, 200, 0))],
  [(33, (.aload_n 0, 1, 0, 0, 0, 0, 0)), (34, (.iload_n 2, 1, 2, 0, 0, 0, 0)), (35, (.invokevirtual 234, 3, 146, 7202, 1, 200, 0)), (38, (.if_icmp .ge 7, 3, 45, 0, 0, 0, 0)), (41, (.iload_n 3, 1, 3, 0, 0, 0, 0)), (42, (.goto 4, 3, 46, 0, 0, 0, 0)), (45, (.iload_n 2, 1, 2, 0, 0, 0, 0)), (46, (.istore_n 2, 1, 2, 0, 0, 0, 0)), (47, (.iinc 3 1, 3, 3, 0, 0, 1, 0)), (50, (.goto (-45), 3, 5, 0, 0, 0, 0)), (53, (.iload_n 2, 1, 2, 0, 0, 0, 0)), (54, (.ireturn, 1, 0, 0, 0, 0, 0))]]
def tX7_areAllOne : List (List (Nat × E_)) := [[(0, (.aload_n 0, 1, 0, 0, 0, 0, 0)), (1, (.iload_n 1, 1, 1, 0, 0, 0, 0)), (2, (.invokevirtual 248, 3, 156, 7234, 1, 196, 0)), (5, (.istore_n 2, 1, 2, 0, 0, 0, 0)), (6, (.iconst 1, 1, 0, 0, 0, 1, 0)), (7, (.istore_n 3, 1, 3, 0, 0, 0, 0)), (8, (.iconst 0, 1, 0, 0, 0, 0, 0)), (9, (.istore 4, 2, 4, 0, 0, 0, 0)), (11, (.iload 4, 2, 4, 0, 0, 0, 0)), (13, (.aload_n 0, 1, 0, 0, 0, 0, 0)), (14, (.getfield 111, 3, 7, 2, 0, 146, 0)), (17, (.if_icmp .ge 44, 3, 61, 0, 0, 0, 0)), (20, (.iload_n 3, 1, 3, 0, 0, 0, 0)), (21, (.ifCond .eq 32, 3, 53, 0, 0, 0, 0)), (24, (.iload_n 1, 1, 1, 0, 0, 0, 0)), (25, (.iload 4, 2, 4, 0, 0, 0, 0)), (27, (.ishr, 1, 0, 0, 0, 0, 0)), (28, (.iconst 1, 1, 0, 0, 0, 1, 0)), (29, (.iand, 1, 0, 0, 0, 0, 0)), (30, (.ifCond .eq 19, 3, 49, 0, 0, 0, 0))],
  [(33, (.aload_n 0, 1, 0, 0, 0, 0, 0)), (34, (.getfield 40, 3, 7, 18, 1, 117, 0)), (37, (.iload 4, 2, 4, 0, 0, 0, 0)), (39, (.iaload, 1, 0, 0, 0, 0, 0)), (40, (.aload_n 0, 1, 0, 0, 0, 0, 0)), (41, (.getfield 40, 3, 7, 18, 1, 117, 0)), (44, (.iload_n 2, 1, 2, 0, 0, 0, 0)), (45, (.iaload, 1, 0, 0, 0, 0, 0)), (46, (.if_icmp .ne 7, 3, 53, 0, 0, 0, 0)), (49, (.iconst 1, 1, 0, 0, 0, 1, 0)), (50, (.goto 4, 3, 54, 0, 0, 0, 0)), (53, (.iconst 0, 1, 0, 0, 0, 0, 0)), (54, (.istore_n 3, 1, 3, 0, 0, 0, 0)), (55, (.iinc 4 1, 3, 4, 0, 0, 1, 0)), (58, (.goto (-47), 3, 11, 0, 0, 0, 0)), (61, (.iload_n 3, 1, 3, 0, 0, 0, 0)), (62, (.ireturn, 1, 0, 0, 1, 0, 0))]]
def tX7_proudLooks : List (List (Nat × E_)) := [[(0, (.aload_n 0, 1, 0, 0, 0, 0, 0)), (1, (.getfield 46, 3, 7, 27, 1, 119, 0)), (4, (.iload_n 1, 1, 1, 0, 0, 0, 0)), (5, (.iload_n 2, 1, 2, 0, 0, 0, 0)), (6, (.iadd, 1, 0, 0, 0, 0, 0)), (7, (.iaload, 1, 0, 0, 0, 0, 0)), (8, (.bipush (-4), 2, 0, 0, 0, (-4), 0)), (10, (.if_icmp .ne 7, 3, 17, 0, 0, 0, 0)), (13, (.iconst 1, 1, 0, 0, 0, 1, 0)), (14, (.goto 4, 3, 18, 0, 0, 0, 0)), (17, (.iconst 0, 1, 0, 0, 0, 0, 0)), (18, (.istore 5, 2, 5, 0, 0, 0, 0)), (20, (.iload 5, 2, 5, 0, 0, 0, 0)), (22, (.ifCond .ne 43, 3, 65, 0, 0, 0, 0)), (25, (.iload 4, 2, 4, 0, 0, 0, 0)), (27, (.ifCond .eq 38, 3, 65, 0, 0, 0, 0)), (30, (.aload_n 0, 1, 0, 0, 0, 0, 0)), (31, (.getfield 46, 3, 7, 27, 1, 119, 0))],
  [(34, (.iload_n 1, 1, 1, 0, 0, 0, 0)), (35, (.iconst 4, 1, 0, 0, 0, 4, 0)), (36, (.iadd, 1, 0, 0, 0, 0, 0)), (37, (.iload_n 2, 1, 2, 0, 0, 0, 0)), (38, (.iadd, 1, 0, 0, 0, 0, 0)), (39, (.dup2, 1, 0, 0, 0, 0, 0)), (40, (.iaload, 1, 0, 0, 0, 0, 0)), (41, (.iconst 1, 1, 0, 0, 0, 1, 0)), (42, (.iadd, 1, 0, 0, 0, 0, 0)), (43, (.iastore, 1, 0, 0, 0, 0, 0)), (44, (.aload_n 0, 1, 0, 0, 0, 0, 0)), (45, (.getfield 46, 3, 7, 27, 1, 119, 0)), (48, (.iload_n 1, 1, 1, 0, 0, 0, 0)), (49, (.iconst 4, 1, 0, 0, 0, 4, 0)), (50, (.iadd, 1, 0, 0, 0, 0, 0)), (51, (.iload_n 2, 1, 2, 0, 0, 0, 0)), (52, (.iadd, 1, 0, 0, 0, 0, 0)), (53, (.iaload, 1, 0, 0, 0, 0, 0)), (54, (.iconst 2, 1, 0, 0, 0, 2, 0)), (55, (.if_icmp .ne 7, 3, 62, 0, 0, 0, 0)), (58, (.iconst 1, 1, 0, 0, 0, 1, 0)), (59, (.goto 4, 3, 63, 0, 0, 0, 0)), (62, (.iconst 0, 1, 0, 0, 0, 0, 0)), (63, (.istore 5, 2, 5, 0, 0, 0, 0))],
  [(65, (.iload 5, 2, 5, 0, 0, 0, 0)), (67, (.ifCond .eq 27, 3, 94, 0, 0, 0, 0)), (70, (.aload_n 0, 1, 0, 0, 0, 0, 0)), (71, (.getfield 46, 3, 7, 27, 1, 119, 0)), (74, (.iload_n 1, 1, 1, 0, 0, 0, 0)), (75, (.iload_n 2, 1, 2, 0, 0, 0, 0)), (76, (.iadd, 1, 0, 0, 0, 0, 0)), (77, (.aload_n 0, 1, 0, 0, 0, 0, 0)), (78, (.iload_n 3, 1, 3, 0, 0, 0, 0)), (79, (.invokevirtual 248, 3, 156, 7234, 1, 196, 0)), (82, (.iastore, 1, 0, 0, 0, 0, 0)), (83, (.aload_n 0, 1, 0, 0, 0, 0, 0)), (84, (.getfield 46, 3, 7, 27, 1, 119, 0)), (87, (.iload_n 1, 1, 1, 0, 0, 0, 0)), (88, (.iconst 4, 1, 0, 0, 0, 4, 0)), (89, (.iadd, 1, 0, 0, 0, 0, 0)), (90, (.iload_n 2, 1, 2, 0, 0, 0, 0)), (91, (.iadd, 1, 0, 0, 0, 0, 0)), (92, (.iconst 0, 1, 0, 0, 0, 0, 0)), (93, (.iastore, 1, 0, 0, 0, 0, 0)), (94, (.return_, 1, 0, 0, 0, 0, 0))]]
def tX7_looks : List (List (Nat × E_)) := [[(0, (.iload_n 1, 1, 1, 0, 0, 0, 0)), (1, (.bipush 10, 2, 0, 0, 0, 10, 0)), (3, (.iload_n 2, 1, 2, 0, 0, 0, 0)), (4, (.imul, 1, 0, 0, 0, 0, 0)), (5, (.iadd, 1, 0, 0, 0, 0, 0)), (6, (.istore 6, 2, 6, 0, 0, 0, 0)), (8, (.aload_n 0, 1, 0, 0, 0, 0, 0)), (9, (.iload_n 1, 1, 1, 0, 0, 0, 0)), (10, (.iload_n 3, 1, 3, 0, 0, 0, 0)), (11, (.invokevirtual 251, 3, 155, 7251, 1, 177, 0)), (14, (.aload_n 0, 1, 0, 0, 0, 0, 0)), (15, (.iload_n 2, 1, 2, 0, 0, 0, 0)), (16, (.invokevirtual 231, 3, 147, 7234, 1, 185, 0)), (19, (.iand, 1, 0, 0, 0, 0, 0)), (20, (.istore 7, 2, 7, 0, 0, 0, 0)), (22, (.iconst 0, 1, 0, 0, 0, 0, 0)), (23, (.istore 8, 2, 8, 0, 0, 0, 0)), (25, (.iload 8, 2, 8, 0, 0, 0, 0)), (27, (.aload_n 0, 1, 0, 0, 0, 0, 0)), (28, (.getfield 114, 3, 7, 5, 0, 147, 0)), (31, (.if_icmp .ge 67, 3, 98, 0, 0, 0, 0))],
  [(34, (.iload 7, 2, 7, 0, 0, 0, 0)), (36, (.aload_n 0, 1, 0, 0, 0, 0, 0)), (37, (.getfield 22, 3, 7, 8, 1, 111, 0)), (40, (.iconst 5, 1, 0, 0, 0, 5, 0)), (41, (.iload_n 2, 1, 2, 0, 0, 0, 0)), (42, (.imul, 1, 0, 0, 0, 0, 0)), (43, (.iconst 3, 1, 0, 0, 0, 3, 0)), (44, (.iadd, 1, 0, 0, 0, 0, 0)), (45, (.iaload, 1, 0, 0, 0, 0, 0)), (46, (.iconst 1, 1, 0, 0, 0, 1, 0)), (47, (.if_icmp .ne 41, 3, 88, 0, 0, 0, 0)), (50, (.iload 8, 2, 8, 0, 0, 0, 0)), (52, (.iload_n 3, 1, 3, 0, 0, 0, 0)), (53, (.if_icmp .eq 35, 3, 88, 0, 0, 0, 0)), (56, (.aload_n 0, 1, 0, 0, 0, 0, 0)), (57, (.getfield 46, 3, 7, 27, 1, 119, 0)), (60, (.iload 6, 2, 6, 0, 0, 0, 0)), (62, (.iload 8, 2, 8, 0, 0, 0, 0))],
  [(64, (.iadd, 1, 0, 0, 0, 0, 0)), (65, (.iaload, 1, 0, 0, 0, 0, 0)), (66, (.bipush (-4), 2, 0, 0, 0, (-4), 0)), (68, (.if_icmp .eq 20, 3, 88, 0, 0, 0, 0)), (71, (.iconst 1, 1, 0, 0, 0, 1, 0)), (72, (.aload_n 0, 1, 0, 0, 0, 0, 0)), (73, (.getfield 46, 3, 7, 27, 1, 119, 0)), (76, (.iload 6, 2, 6, 0, 0, 0, 0)), (78, (.iload 8, 2, 8, 0, 0, 0, 0)), (80, (.iadd, 1, 0, 0, 0, 0, 0)), (81, (.iaload, 1, 0, 0, 0, 0, 0)), (82, (.ishl, 1, 0, 0, 0, 0, 0)), (83, (.iconst (-1), 1, 0, 0, 0, (-1), 0)), (84, (.ixor, 1, 0, 0, 0, 0, 0)), (85, (.goto 4, 3, 89, 0, 0, 0, 0)), (88, (.iconst (-1), 1, 0, 0, 0, (-1), 0)), (89, (.iand, 1, 0, 0, 0, 0, 0)), (90, (.istore 7, 2, 7, 0, 0, 0, 0)), (92, (.iinc 8 1, 3, 8, 0, 0, 1, 0)), (95, (.goto (-70), 3, 25, 0, 0, 0, 0))],
  [(98, (.aload_n 0, 1, 0, 0, 0, 0, 0)), (99, (.getfield 22, 3, 7, 8, 1, 111, 0)), (102, (.iconst 5, 1, 0, 0, 0, 5, 0)), (103, (.iload_n 2, 1, 2, 0, 0, 0, 0)), (104, (.imul, 1, 0, 0, 0, 0, 0)), (105, (.iaload, 1, 0, 0, 0, 0, 0)), (106, (.iconst 3, 1, 0, 0, 0, 3, 0)), (107, (.if_icmp .ne 61, 3, 168, 0, 0, 0, 0)), (110, (.aload_n 0, 1, 0, 0, 0, 0, 0)), (111, (.iload 6, 2, 6, 0, 0, 0, 0)), (113, (.iload_n 3, 1, 3, 0, 0, 0, 0)), (114, (.iload 7, 2, 7, 0, 0, 0, 0)), (116, (.aload_n 0, 1, 0, 0, 0, 0, 0)), (117, (.getfield 46, 3, 7, 27, 1, 119, 0)), (120, (.iload 6, 2, 6, 0, 0, 0, 0)), (122, (.iload_n 3, 1, 3, 0, 0, 0, 0)), (123, (.iadd, 1, 0, 0, 0, 0, 0)), (124, (.iaload, 1, 0, 0, 0, 0, 0)), (125, (.bipush (-4), 2, 0, 0, 0, (-4), 0)), (127, (.if_icmp .eq 34, 3, 161, 0, 0, 0, 0))],
  [(130, (.aload_n 0, 1, 0, 0, 0, 0, 0)), (131, (.getfield 40, 3, 7, 18, 1, 117, 0)), (134, (.aload_n 0, 1, 0, 0, 0, 0, 0)), (135, (.getfield 46, 3, 7, 27, 1, 119, 0)), (138, (.iload 6, 2, 6, 0, 0, 0, 0)), (140, (.iload_n 3, 1, 3, 0, 0, 0, 0)), (141, (.iadd, 1, 0, 0, 0, 0, 0)), (142, (.iaload, 1, 0, 0, 0, 0, 0)), (143, (.iaload, 1, 0, 0, 0, 0, 0)), (144, (.iload 4, 2, 4, 0, 0, 0, 0)), (146, (.ishr, 1, 0, 0, 0, 0, 0)), (147, (.iconst 1, 1, 0, 0, 0, 1, 0)), (148, (.iand, 1, 0, 0, 0, 0, 0)), (149, (.iload 5, 2, 5, 0, 0, 0, 0)), (151, (.invokestatic 254, 3, 122, 17, 1, 189, 0)), (154, (.if_icmp .eq 7, 3, 161, 0, 0, 0, 0)), (157, (.iconst 1, 1, 0, 0, 0, 1, 0)), (158, (.goto 4, 3, 162, 0, 0, 0, 0))],
  [(161, (.iconst 0, 1, 0, 0, 0, 0, 0)), (162, (.invokevirtual 258, 3, 158, 7269, 0, 192, 0)), (165, (.goto 109, 3, 274, 0, 0, 0, 0)), (168, (.aload_n 0, 1, 0, 0, 0, 0, 0)), (169, (.getfield 22, 3, 7, 8, 1, 111, 0)), (172, (.iconst 5, 1, 0, 0, 0, 5, 0)), (173, (.iload_n 2, 1, 2, 0, 0, 0, 0)), (174, (.imul, 1, 0, 0, 0, 0, 0)), (175, (.iaload, 1, 0, 0, 0, 0, 0)), (176, (.iconst 2, 1, 0, 0, 0, 2, 0)), (177, (.if_icmp .ne 35, 3, 212, 0, 0, 0, 0)), (180, (.aload_n 0, 1, 0, 0, 0, 0, 0)), (181, (.getfield 46, 3, 7, 27, 1, 119, 0)), (184, (.iload 6, 2, 6, 0, 0, 0, 0)), (186, (.iload_n 3, 1, 3, 0, 0, 0, 0)), (187, (.iadd, 1, 0, 0, 0, 0, 0)), (188, (.aload_n 0, 1, 0, 0, 0, 0, 0)), (189, (.iload 7, 2, 7, 0, 0, 0, 0)), (191, (.invokevirtual 262, 3, 157, 7250, 1, 207, 0))],
  [(194, (.ifCond .eq 12, 3, 206, 0, 0, 0, 0)), (197, (.aload_n 0, 1, 0, 0, 0, 0, 0)), (198, (.iload 7, 2, 7, 0, 0, 0, 0)), (200, (.invokevirtual 248, 3, 156, 7234, 1, 196, 0)), (203, (.goto 5, 3, 208, 0, 0, 0, 0)), (206, (.bipush (-4), 2, 0, 0, 0, (-4), 0)), (208, (.iastore, 1, 0, 0, 0, 0, 0)), (209, (.goto 65, 3, 274, 0, 0, 0, 0)), (212, (.aload_n 0, 1, 0, 0, 0, 0, 0)), (213, (.getfield 46, 3, 7, 27, 1, 119, 0)), (216, (.iload 6, 2, 6, 0, 0, 0, 0)), (218, (.bipush 8, 2, 0, 0, 0, 8, 0)), (220, (.iadd, 1, 0, 0, 0, 0, 0)), (221, (.iaload, 1, 0, 0, 0, 0, 0)), (222, (.istore 8, 2, 8, 0, 0, 0, 0))],
  [(224, (.aload_n 0, 1, 0, 0, 0, 0, 0)), (225, (.getfield 46, 3, 7, 27, 1, 119, 0)), (228, (.iload 6, 2, 6, 0, 0, 0, 0)), (230, (.iload_n 3, 1, 3, 0, 0, 0, 0)), (231, (.iadd, 1, 0, 0, 0, 0, 0)), (232, (.aload_n 0, 1, 0, 0, 0, 0, 0)), (233, (.getfield 22, 3, 7, 8, 1, 111, 0)), (236, (.iconst 5, 1, 0, 0, 0, 5, 0)), (237, (.iload_n 2, 1, 2, 0, 0, 0, 0)), (238, (.imul, 1, 0, 0, 0, 0, 0)), (239, (.iaload, 1, 0, 0, 0, 0, 0)), (240, (.iconst 1, 1, 0, 0, 0, 1, 0)), (241, (.if_icmp .ne 26, 3, 267, 0, 0, 0, 0)), (244, (.iload 8, 2, 8, 0, 0, 0, 0)), (246, (.bipush (-4), 2, 0, 0, 0, (-4), 0)), (248, (.if_icmp .eq 19, 3, 267, 0, 0, 0, 0)), (251, (.iload 7, 2, 7, 0, 0, 0, 0)), (253, (.iload 8, 2, 8, 0, 0, 0, 0)), (255, (.ishr, 1, 0, 0, 0, 0, 0))],
  [(256, (.iconst 1, 1, 0, 0, 0, 1, 0)), (257, (.iand, 1, 0, 0, 0, 0, 0)), (258, (.iconst 1, 1, 0, 0, 0, 1, 0)), (259, (.if_icmp .ne 8, 3, 267, 0, 0, 0, 0)), (262, (.iload 8, 2, 8, 0, 0, 0, 0)), (264, (.goto 9, 3, 273, 0, 0, 0, 0)), (267, (.aload_n 0, 1, 0, 0, 0, 0, 0)), (268, (.iload 7, 2, 7, 0, 0, 0, 0)), (270, (.invokevirtual 248, 3, 156, 7234, 1, 196, 0)), (273, (.iastore, 1, 0, 0, 0, 0, 0)), (274, (.aload_n 0, 1, 0, 0, 0, 0, 0)), (275, (.getfield 46, 3, 7, 27, 1, 119, 0)), (278, (.iload 6, 2, 6, 0, 0, 0, 0)), (280, (.bipush 8, 2, 0, 0, 0, 8, 0)), (282, (.iadd, 1, 0, 0, 0, 0, 0)), (283, (.aload_n 0, 1, 0, 0, 0, 0, 0)), (284, (.getfield 46, 3, 7, 27, 1, 119, 0)), (287, (.iload 6, 2, 6, 0, 0, 0, 0))],
  [(289, (.iload_n 3, 1, 3, 0, 0, 0, 0)), (290, (.iadd, 1, 0, 0, 0, 0, 0)), (291, (.iaload, 1, 0, 0, 0, 0, 0)), (292, (.bipush (-4), 2, 0, 0, 0, (-4), 0)), (294, (.if_icmp .ne 16, 3, 310, 0, 0, 0, 0)), (297, (.aload_n 0, 1, 0, 0, 0, 0, 0)), (298, (.getfield 46, 3, 7, 27, 1, 119, 0)), (301, (.iload 6, 2, 6, 0, 0, 0, 0)), (303, (.bipush 8, 2, 0, 0, 0, 8, 0)), (305, (.iadd, 1, 0, 0, 0, 0, 0)), (306, (.iaload, 1, 0, 0, 0, 0, 0)), (307, (.goto 12, 3, 319, 0, 0, 0, 0)), (310, (.aload_n 0, 1, 0, 0, 0, 0, 0)), (311, (.getfield 46, 3, 7, 27, 1, 119, 0)), (314, (.iload 6, 2, 6, 0, 0, 0, 0)), (316, (.iload_n 3, 1, 3, 0, 0, 0, 0)), (317, (.iadd, 1, 0, 0, 0, 0, 0)), (318, (.iaload, 1, 0, 0, 0, 0, 0)), (319, (.iastore, 1, 0, 0, 0, 0, 0))],
  [(320, (.return_, 1, 0, 0, 0, 0, 0))]]
def tX7_flees : List (List (Nat × E_)) := [[(0, (.aload_n 0, 1, 0, 0, 0, 0, 0)), (1, (.getfield 46, 3, 7, 27, 1, 119, 0)), (4, (.iload_n 1, 1, 1, 0, 0, 0, 0)), (5, (.bipush 9, 2, 0, 0, 0, 9, 0)), (7, (.iadd, 1, 0, 0, 0, 0, 0)), (8, (.iload_n 2, 1, 2, 0, 0, 0, 0)), (9, (.iastore, 1, 0, 0, 0, 0, 0)), (10, (.iconst 0, 1, 0, 0, 0, 0, 0)), (11, (.istore_n 3, 1, 3, 0, 0, 0, 0)), (12, (.iload_n 3, 1, 3, 0, 0, 0, 0)), (13, (.iconst 4, 1, 0, 0, 0, 4, 0)), (14, (.if_icmp .ge 30, 3, 44, 0, 0, 0, 0)), (17, (.aload_n 0, 1, 0, 0, 0, 0, 0)), (18, (.getfield 46, 3, 7, 27, 1, 119, 0)), (21, (.iload_n 1, 1, 1, 0, 0, 0, 0)), (22, (.iload_n 3, 1, 3, 0, 0, 0, 0)), (23, (.iadd, 1, 0, 0, 0, 0, 0)), (24, (.bipush (-4), 2, 0, 0, 0, (-4), 0)), (26, (.iastore, 1, 0, 0, 0, 0, 0)), (27, (.aload_n 0, 1, 0, 0, 0, 0, 0)), (28, (.getfield 46, 3, 7, 27, 1, 119, 0)), (31, (.iload_n 1, 1, 1, 0, 0, 0, 0))],
  [(32, (.iconst 4, 1, 0, 0, 0, 4, 0)), (33, (.iadd, 1, 0, 0, 0, 0, 0)), (34, (.iload_n 3, 1, 3, 0, 0, 0, 0)), (35, (.iadd, 1, 0, 0, 0, 0, 0)), (36, (.iconst 0, 1, 0, 0, 0, 0, 0)), (37, (.iastore, 1, 0, 0, 0, 0, 0)), (38, (.iinc 3 1, 3, 3, 0, 0, 1, 0)), (41, (.goto (-29), 3, 12, 0, 0, 0, 0)), (44, (.return_, 1, 0, 0, 0, 0, 0))]]
def tX7_sees : List (List (Nat × E_)) := [[(0, (.aload_n 0, 1, 0, 0, 0, 0, 0)), (1, (.getfield 46, 3, 7, 27, 1, 119, 0)), (4, (.iload_n 1, 1, 1, 0, 0, 0, 0)), (5, (.bipush 60, 2, 0, 0, 0, 60, 0)), (7, (.iadd, 1, 0, 0, 0, 0, 0)), (8, (.iload_n 3, 1, 3, 0, 0, 0, 0)), (9, (.iadd, 1, 0, 0, 0, 0, 0)), (10, (.dup2, 1, 0, 0, 0, 0, 0)), (11, (.iaload, 1, 0, 0, 0, 0, 0)), (12, (.iload 5, 2, 5, 0, 0, 0, 0)), (14, (.ifCond .eq 10, 3, 24, 0, 0, 0, 0)), (17, (.iconst 1, 1, 0, 0, 0, 1, 0)), (18, (.iload 4, 2, 4, 0, 0, 0, 0)), (20, (.ishl, 1, 0, 0, 0, 0, 0)), (21, (.goto 4, 3, 25, 0, 0, 0, 0)), (24, (.iconst 0, 1, 0, 0, 0, 0, 0)), (25, (.ior, 1, 0, 0, 0, 0, 0)), (26, (.iastore, 1, 0, 0, 0, 0, 0)), (27, (.aload_n 0, 1, 0, 0, 0, 0, 0)), (28, (.getfield 46, 3, 7, 27, 1, 119, 0)), (31, (.iload_n 1, 1, 1, 0, 0, 0, 0))],
  [(32, (.bipush 64, 2, 0, 0, 0, 64, 0)), (34, (.iadd, 1, 0, 0, 0, 0, 0)), (35, (.iload_n 3, 1, 3, 0, 0, 0, 0)), (36, (.iadd, 1, 0, 0, 0, 0, 0)), (37, (.dup2, 1, 0, 0, 0, 0, 0)), (38, (.iaload, 1, 0, 0, 0, 0, 0)), (39, (.iload 5, 2, 5, 0, 0, 0, 0)), (41, (.ifCond .eq 7, 3, 48, 0, 0, 0, 0)), (44, (.iconst 0, 1, 0, 0, 0, 0, 0)), (45, (.goto 7, 3, 52, 0, 0, 0, 0)), (48, (.iconst 1, 1, 0, 0, 0, 1, 0)), (49, (.iload 4, 2, 4, 0, 0, 0, 0)), (51, (.ishl, 1, 0, 0, 0, 0, 0)), (52, (.ior, 1, 0, 0, 0, 0, 0)), (53, (.iastore, 1, 0, 0, 0, 0, 0)), (54, (.iconst 0, 1, 0, 0, 0, 0, 0)), (55, (.istore 6, 2, 6, 0, 0, 0, 0)), (57, (.iload 6, 2, 6, 0, 0, 0, 0)), (59, (.aload_n 0, 1, 0, 0, 0, 0, 0)), (60, (.getfield 117, 3, 7, 7, 0, 148, 0)), (63, (.if_icmp .ge 71, 3, 134, 0, 0, 0, 0))],
  [(66, (.iload_n 1, 1, 1, 0, 0, 0, 0)), (67, (.bipush 10, 2, 0, 0, 0, 10, 0)), (69, (.iload 6, 2, 6, 0, 0, 0, 0)), (71, (.imul, 1, 0, 0, 0, 0, 0)), (72, (.iadd, 1, 0, 0, 0, 0, 0)), (73, (.istore 7, 2, 7, 0, 0, 0, 0)), (75, (.aload_n 0, 1, 0, 0, 0, 0, 0)), (76, (.getfield 46, 3, 7, 27, 1, 119, 0)), (79, (.iload 7, 2, 7, 0, 0, 0, 0)), (81, (.bipush 9, 2, 0, 0, 0, 9, 0)), (83, (.iadd, 1, 0, 0, 0, 0, 0)), (84, (.iaload, 1, 0, 0, 0, 0, 0)), (85, (.bipush (-4), 2, 0, 0, 0, (-4), 0)), (87, (.if_icmp .ne 41, 3, 128, 0, 0, 0, 0)), (90, (.aload_n 0, 1, 0, 0, 0, 0, 0)), (91, (.getfield 22, 3, 7, 8, 1, 111, 0)), (94, (.iconst 5, 1, 0, 0, 0, 5, 0)), (95, (.iload 6, 2, 6, 0, 0, 0, 0))],
  [(97, (.imul, 1, 0, 0, 0, 0, 0)), (98, (.iconst 2, 1, 0, 0, 0, 2, 0)), (99, (.iadd, 1, 0, 0, 0, 0, 0)), (100, (.iaload, 1, 0, 0, 0, 0, 0)), (101, (.iload 4, 2, 4, 0, 0, 0, 0)), (103, (.if_icmp .ne 13, 3, 116, 0, 0, 0, 0)), (106, (.aload_n 0, 1, 0, 0, 0, 0, 0)), (107, (.iload 7, 2, 7, 0, 0, 0, 0)), (109, (.iload_n 2, 1, 2, 0, 0, 0, 0)), (110, (.invokevirtual 265, 3, 160, 7235, 0, 169, 0)), (113, (.goto 15, 3, 128, 0, 0, 0, 0)), (116, (.aload_n 0, 1, 0, 0, 0, 0, 0)), (117, (.iload_n 1, 1, 1, 0, 0, 0, 0)), (118, (.iload 6, 2, 6, 0, 0, 0, 0)), (120, (.iload_n 3, 1, 3, 0, 0, 0, 0)), (121, (.iload 4, 2, 4, 0, 0, 0, 0)), (123, (.iload 5, 2, 5, 0, 0, 0, 0)), (125, (.invokevirtual 269, 3, 159, 7318, 0, 173, 0))],
  [(128, (.iinc 6 1, 3, 6, 0, 0, 1, 0)), (131, (.goto (-74), 3, 57, 0, 0, 0, 0)), (134, (.return_, 1, 0, 0, 0, 0, 0))]]
def tX7_replays : List (List (Nat × E_)) := [[(0, (.aload_n 0, 1, 0, 0, 0, 0, 0)), (1, (.iconst 0, 1, 0, 0, 0, 0, 0)), (2, (.invokevirtual 273, 3, 153, 7234, 0, 156, 0)), (5, (.iconst 0, 1, 0, 0, 0, 0, 0)), (6, (.istore_n 1, 1, 1, 0, 0, 0, 0)), (7, (.iload_n 1, 1, 1, 0, 0, 0, 0)), (8, (.aload_n 0, 1, 0, 0, 0, 0, 0)), (9, (.getfield 120, 3, 7, 28, 0, 149, 0)), (12, (.if_icmp .ge 52, 3, 64, 0, 0, 0, 0)), (15, (.aload_n 0, 1, 0, 0, 0, 0, 0)), (16, (.iconst 0, 1, 0, 0, 0, 0, 0)), (17, (.iload_n 1, 1, 1, 0, 0, 0, 0)), (18, (.aload_n 0, 1, 0, 0, 0, 0, 0)), (19, (.getfield 49, 3, 7, 29, 1, 120, 0)), (22, (.iconst 3, 1, 0, 0, 0, 3, 0)), (23, (.iload_n 1, 1, 1, 0, 0, 0, 0)), (24, (.imul, 1, 0, 0, 0, 0, 0)), (25, (.iaload, 1, 0, 0, 0, 0, 0)), (26, (.aload_n 0, 1, 0, 0, 0, 0, 0)), (27, (.getfield 49, 3, 7, 29, 1, 120, 0)), (30, (.iconst 3, 1, 0, 0, 0, 3, 0)), (31, (.iload_n 1, 1, 1, 0, 0, 0, 0))],
  [(32, (.imul, 1, 0, 0, 0, 0, 0)), (33, (.iconst 1, 1, 0, 0, 0, 1, 0)), (34, (.iadd, 1, 0, 0, 0, 0, 0)), (35, (.iaload, 1, 0, 0, 0, 0, 0)), (36, (.aload_n 0, 1, 0, 0, 0, 0, 0)), (37, (.getfield 49, 3, 7, 29, 1, 120, 0)), (40, (.iconst 3, 1, 0, 0, 0, 3, 0)), (41, (.iload_n 1, 1, 1, 0, 0, 0, 0)), (42, (.imul, 1, 0, 0, 0, 0, 0)), (43, (.iconst 2, 1, 0, 0, 0, 2, 0)), (44, (.iadd, 1, 0, 0, 0, 0, 0)), (45, (.iaload, 1, 0, 0, 0, 0, 0)), (46, (.iconst 1, 1, 0, 0, 0, 1, 0)), (47, (.if_icmp .ne 7, 3, 54, 0, 0, 0, 0)), (50, (.iconst 1, 1, 0, 0, 0, 1, 0)), (51, (.goto 4, 3, 55, 0, 0, 0, 0)), (54, (.iconst 0, 1, 0, 0, 0, 0, 0)), (55, (.invokevirtual 276, 3, 161, 7302, 0, 165, 0)), (58, (.iinc 1 1, 3, 1, 0, 0, 1, 0)), (61, (.goto (-54), 3, 7, 0, 0, 0, 0))],
  [(64, (.return_, 1, 0, 0, 0, 0, 0))]]
def tX7_adds : List (List (Nat × E_)) := [[(0, (.aload_n 0, 1, 0, 0, 0, 0, 0)), (1, (.getfield 120, 3, 7, 28, 0, 149, 0)), (4, (.bipush 24, 2, 0, 0, 0, 24, 0)), (6, (.if_icmp .ne 6, 3, 12, 0, 0, 0, 0)), (9, (.bipush (-3), 2, 0, 0, 0, (-3), 0)), (11, (.ireturn, 1, 0, 0, 0, 0, 0)), (12, (.aload_n 0, 1, 0, 0, 0, 0, 0)), (13, (.getfield 49, 3, 7, 29, 1, 120, 0)), (16, (.iconst 3, 1, 0, 0, 0, 3, 0)), (17, (.aload_n 0, 1, 0, 0, 0, 0, 0)), (18, (.getfield 120, 3, 7, 28, 0, 149, 0)), (21, (.imul, 1, 0, 0, 0, 0, 0)), (22, (.iload_n 1, 1, 1, 0, 0, 0, 0)), (23, (.iastore, 1, 0, 0, 0, 0, 0)), (24, (.aload_n 0, 1, 0, 0, 0, 0, 0)), (25, (.getfield 49, 3, 7, 29, 1, 120, 0)), (28, (.iconst 3, 1, 0, 0, 0, 3, 0)), (29, (.aload_n 0, 1, 0, 0, 0, 0, 0)), (30, (.getfield 120, 3, 7, 28, 0, 149, 0))],
  [(33, (.imul, 1, 0, 0, 0, 0, 0)), (34, (.iconst 1, 1, 0, 0, 0, 1, 0)), (35, (.iadd, 1, 0, 0, 0, 0, 0)), (36, (.iload_n 2, 1, 2, 0, 0, 0, 0)), (37, (.iastore, 1, 0, 0, 0, 0, 0)), (38, (.aload_n 0, 1, 0, 0, 0, 0, 0)), (39, (.getfield 49, 3, 7, 29, 1, 120, 0)), (42, (.iconst 3, 1, 0, 0, 0, 3, 0)), (43, (.aload_n 0, 1, 0, 0, 0, 0, 0)), (44, (.getfield 120, 3, 7, 28, 0, 149, 0)), (47, (.imul, 1, 0, 0, 0, 0, 0)), (48, (.iconst 2, 1, 0, 0, 0, 2, 0)), (49, (.iadd, 1, 0, 0, 0, 0, 0)), (50, (.iload_n 3, 1, 3, 0, 0, 0, 0)), (51, (.invokestatic 254, 3, 122, 17, 1, 189, 0)), (54, (.iastore, 1, 0, 0, 0, 0, 0)), (55, (.aload_n 0, 1, 0, 0, 0, 0, 0)), (56, (.iconst 0, 1, 0, 0, 0, 0, 0)), (57, (.aload_n 0, 1, 0, 0, 0, 0, 0)), (58, (.getfield 120, 3, 7, 28, 0, 149, 0)), (61, (.iload_n 1, 1, 1, 0, 0, 0, 0)), (62, (.iload_n 2, 1, 2, 0, 0, 0, 0)), (63, (.iload_n 3, 1, 3, 0, 0, 0, 0))],
  [(64, (.invokevirtual 276, 3, 161, 7302, 0, 165, 0)), (67, (.aload_n 0, 1, 0, 0, 0, 0, 0)), (68, (.dup, 1, 0, 0, 0, 0, 0)), (69, (.getfield 120, 3, 7, 28, 0, 149, 0)), (72, (.iconst 1, 1, 0, 0, 0, 1, 0)), (73, (.iadd, 1, 0, 0, 0, 0, 0)), (74, (.putfield 120, 3, 7, 28, 0, 149, 0)), (77, (.aload_n 0, 1, 0, 0, 0, 0, 0)), (78, (.getfield 120, 3, 7, 28, 0, 149, 0)), (81, (.ireturn, 1, 0, 0, 0, 0, 0))]]
def tX7_isTrue : List (List (Nat × E_)) := [[(0, (.aload_n 0, 1, 0, 0, 0, 0, 0)), (1, (.iload_n 1, 1, 1, 0, 0, 0, 0)), (2, (.invokevirtual 279, 3, 148, 7202, 1, 667, 0)), (5, (.iload_n 2, 1, 2, 0, 0, 0, 0)), (6, (.ishr, 1, 0, 0, 0, 0, 0)), (7, (.iconst 1, 1, 0, 0, 0, 1, 0)), (8, (.iand, 1, 0, 0, 0, 0, 0)), (9, (.iconst 1, 1, 0, 0, 0, 1, 0)), (10, (.if_icmp .ne 7, 3, 17, 0, 0, 0, 0)), (13, (.iconst 1, 1, 0, 0, 0, 1, 0)), (14, (.goto 4, 3, 18, 0, 0, 0, 0)), (17, (.iconst 0, 1, 0, 0, 0, 0, 0)), (18, (.ireturn, 1, 0, 0, 1, 0, 0))]]
def tX7_show : List (List (Nat × E_)) := [[(0, (.aload_n 0, 1, 0, 0, 0, 0, 0)), (1, (.iload_n 1, 1, 1, 0, 0, 0, 0)), (2, (.invokevirtual 237, 3, 143, 7202, 1, 553, 0)), (5, (.ifCond .eq 21, 3, 26, 0, 0, 0, 0)), (8, (.aload_n 0, 1, 0, 0, 0, 0, 0)), (9, (.iload_n 2, 1, 2, 0, 0, 0, 0)), (10, (.invokevirtual 225, 3, 142, 7202, 1, 516, 0)), (13, (.ifCond .eq 13, 3, 26, 0, 0, 0, 0)), (16, (.aload_n 0, 1, 0, 0, 0, 0, 0)), (17, (.iload_n 1, 1, 1, 0, 0, 0, 0)), (18, (.iload_n 2, 1, 2, 0, 0, 0, 0)), (19, (.iload_n 3, 1, 3, 0, 0, 0, 0)), (20, (.invokevirtual 282, 3, 163, 7236, 1, 640, 0)), (23, (.goto 4, 3, 27, 0, 0, 0, 0)), (26, (.iconst (-1), 1, 0, 0, 0, (-1), 0)), (27, (.ireturn, 1, 0, 0, 0, 0, 0))]]
def tX7_teach : List (List (Nat × E_)) := [[(0, (.aload_n 0, 1, 0, 0, 0, 0, 0)), (1, (.iload_n 1, 1, 1, 0, 0, 0, 0)), (2, (.invokevirtual 237, 3, 143, 7202, 1, 553, 0)), (5, (.ifCond .eq 26, 3, 31, 0, 0, 0, 0)), (8, (.aload_n 0, 1, 0, 0, 0, 0, 0)), (9, (.iload_n 2, 1, 2, 0, 0, 0, 0)), (10, (.invokevirtual 225, 3, 142, 7202, 1, 516, 0)), (13, (.ifCond .eq 18, 3, 31, 0, 0, 0, 0)), (16, (.aload_n 0, 1, 0, 0, 0, 0, 0)), (17, (.iload_n 1, 1, 1, 0, 0, 0, 0)), (18, (.iload_n 2, 1, 2, 0, 0, 0, 0)), (19, (.aload_n 0, 1, 0, 0, 0, 0, 0)), (20, (.iload_n 1, 1, 1, 0, 0, 0, 0)), (21, (.iload_n 2, 1, 2, 0, 0, 0, 0)), (22, (.invokevirtual 286, 3, 164, 7219, 1, 663, 0)), (25, (.invokevirtual 282, 3, 163, 7236, 1, 640, 0)), (28, (.goto 4, 3, 32, 0, 0, 0, 0)), (31, (.iconst (-1), 1, 0, 0, 0, (-1), 0))],
  [(32, (.ireturn, 1, 0, 0, 0, 0, 0))]]
def tX7_undo : List (List (Nat × E_)) := [[(0, (.aload_n 0, 1, 0, 0, 0, 0, 0)), (1, (.getfield 120, 3, 7, 28, 0, 149, 0)), (4, (.ifCond .ne 6, 3, 10, 0, 0, 0, 0)), (7, (.bipush (-4), 2, 0, 0, 0, (-4), 0)), (9, (.ireturn, 1, 0, 0, 0, 0, 0)), (10, (.aload_n 0, 1, 0, 0, 0, 0, 0)), (11, (.dup, 1, 0, 0, 0, 0, 0)), (12, (.getfield 120, 3, 7, 28, 0, 149, 0)), (15, (.iconst 1, 1, 0, 0, 0, 1, 0)), (16, (.isub, 1, 0, 0, 0, 0, 0)), (17, (.putfield 120, 3, 7, 28, 0, 149, 0)), (20, (.aload_n 0, 1, 0, 0, 0, 0, 0)), (21, (.invokevirtual 129, 3, 162, 7201, 0, 152, 0)), (24, (.aload_n 0, 1, 0, 0, 0, 0, 0)), (25, (.getfield 120, 3, 7, 28, 0, 149, 0)), (28, (.ireturn, 1, 0, 0, 0, 0, 0))]]
def tX7_clear : List (List (Nat × E_)) := [[(0, (.aload_n 0, 1, 0, 0, 0, 0, 0)), (1, (.getfield 120, 3, 7, 28, 0, 149, 0)), (4, (.istore_n 1, 1, 1, 0, 0, 0, 0)), (5, (.aload_n 0, 1, 0, 0, 0, 0, 0)), (6, (.iconst 0, 1, 0, 0, 0, 0, 0)), (7, (.putfield 120, 3, 7, 28, 0, 149, 0)), (10, (.aload_n 0, 1, 0, 0, 0, 0, 0)), (11, (.iconst 1, 1, 0, 0, 0, 1, 0)), (12, (.aload_n 0, 1, 0, 0, 0, 0, 0)), (13, (.getfield 117, 3, 7, 7, 0, 148, 0)), (16, (.ishl, 1, 0, 0, 0, 0, 0)), (17, (.iconst 1, 1, 0, 0, 0, 1, 0)), (18, (.isub, 1, 0, 0, 0, 0, 0)), (19, (.putfield 123, 3, 7, 33, 0, 150, 0)), (22, (.aload_n 0, 1, 0, 0, 0, 0, 0)), (23, (.invokevirtual 129, 3, 162, 7201, 0, 152, 0)), (26, (.iload_n 1, 1, 1, 0, 0, 0, 0)), (27, (.ireturn, 1, 0, 0, 0, 0, 0))]]
def tX7_shown : List (List (Nat × E_)) := [[(0, (.iload_n 1, 1, 1, 0, 0, 0, 0)), (1, (.i2l, 1, 0, 0, 0, 0, 0)), (2, (.lconst 0, 1, 0, 0, 0, 0, 0)), (3, (.aload_n 0, 1, 0, 0, 0, 0, 0)), (4, (.getfield 120, 3, 7, 28, 0, 149, 0)), (7, (.iconst 1, 1, 0, 0, 0, 1, 0)), (8, (.isub, 1, 0, 0, 0, 0, 0)), (9, (.i2l, 1, 0, 0, 0, 0, 0)), (10, (.invokestatic 137, 3, 121, 99, 1, 162, 0)), (13, (.ifCond .eq 28, 3, 41, 0, 0, 0, 0)), (16, (.iload_n 2, 1, 2, 0, 0, 0, 0)), (17, (.i2l, 1, 0, 0, 0, 0, 0)), (18, (.lconst 0, 1, 0, 0, 0, 0, 0)), (19, (.ldc2_w 290, 3, 0, 700, 0, 0, (2))), (22, (.invokestatic 137, 3, 121, 99, 1, 162, 0)), (25, (.ifCond .eq 16, 3, 41, 0, 0, 0, 0)), (28, (.aload_n 0, 1, 0, 0, 0, 0, 0)), (29, (.getfield 49, 3, 7, 29, 1, 120, 0))],
  [(32, (.iconst 3, 1, 0, 0, 0, 3, 0)), (33, (.iload_n 1, 1, 1, 0, 0, 0, 0)), (34, (.imul, 1, 0, 0, 0, 0, 0)), (35, (.iload_n 2, 1, 2, 0, 0, 0, 0)), (36, (.iadd, 1, 0, 0, 0, 0, 0)), (37, (.iaload, 1, 0, 0, 0, 0, 0)), (38, (.goto 4, 3, 42, 0, 0, 0, 0)), (41, (.iconst (-1), 1, 0, 0, 0, (-1), 0)), (42, (.ireturn, 1, 0, 0, 0, 0, 0))]]
def tX7_thinks : List (List (Nat × E_)) := [[(0, (.aload_n 0, 1, 0, 0, 0, 0, 0)), (1, (.iload_n 1, 1, 1, 0, 0, 0, 0)), (2, (.invokevirtual 240, 3, 144, 7202, 1, 576, 0)), (5, (.ifCond .eq 27, 3, 32, 0, 0, 0, 0)), (8, (.aload_n 0, 1, 0, 0, 0, 0, 0)), (9, (.iload_n 2, 1, 2, 0, 0, 0, 0)), (10, (.invokevirtual 237, 3, 143, 7202, 1, 553, 0)), (13, (.ifCond .eq 19, 3, 32, 0, 0, 0, 0)), (16, (.aload_n 0, 1, 0, 0, 0, 0, 0)), (17, (.getfield 46, 3, 7, 27, 1, 119, 0)), (20, (.iconst 0, 1, 0, 0, 0, 0, 0)), (21, (.bipush 10, 2, 0, 0, 0, 10, 0)), (23, (.iload_n 1, 1, 1, 0, 0, 0, 0)), (24, (.imul, 1, 0, 0, 0, 0, 0)), (25, (.iadd, 1, 0, 0, 0, 0, 0)), (26, (.iload_n 2, 1, 2, 0, 0, 0, 0)), (27, (.iadd, 1, 0, 0, 0, 0, 0)), (28, (.iaload, 1, 0, 0, 0, 0, 0)), (29, (.goto 4, 3, 33, 0, 0, 0, 0))],
  [(32, (.iconst (-1), 1, 0, 0, 0, (-1), 0)), (33, (.ireturn, 1, 0, 0, 0, 0, 0))]]
def tX7_fits : List (List (Nat × E_)) := [[(0, (.aload_n 0, 1, 0, 0, 0, 0, 0)), (1, (.iload_n 1, 1, 1, 0, 0, 0, 0)), (2, (.invokevirtual 240, 3, 144, 7202, 1, 576, 0)), (5, (.ifCond .eq 26, 3, 31, 0, 0, 0, 0)), (8, (.aload_n 0, 1, 0, 0, 0, 0, 0)), (9, (.iload_n 2, 1, 2, 0, 0, 0, 0)), (10, (.invokevirtual 237, 3, 143, 7202, 1, 553, 0)), (13, (.ifCond .eq 18, 3, 31, 0, 0, 0, 0)), (16, (.aload_n 0, 1, 0, 0, 0, 0, 0)), (17, (.iconst 0, 1, 0, 0, 0, 0, 0)), (18, (.iload_n 2, 1, 2, 0, 0, 0, 0)), (19, (.invokevirtual 251, 3, 155, 7251, 1, 177, 0)), (22, (.aload_n 0, 1, 0, 0, 0, 0, 0)), (23, (.iload_n 1, 1, 1, 0, 0, 0, 0)), (24, (.invokevirtual 231, 3, 147, 7234, 1, 185, 0)), (27, (.iand, 1, 0, 0, 0, 0, 0)), (28, (.goto 4, 3, 32, 0, 0, 0, 0)), (31, (.iconst (-1), 1, 0, 0, 0, (-1), 0))],
  [(32, (.ireturn, 1, 0, 0, 0, 0, 0))]]
def tX7_isSame : List (List (Nat × E_)) := [[(0, (.aload_n 0, 1, 0, 0, 0, 0, 0)), (1, (.getfield 46, 3, 7, 27, 1, 119, 0)), (4, (.iload_n 1, 1, 1, 0, 0, 0, 0)), (5, (.bipush 10, 2, 0, 0, 0, 10, 0)), (7, (.iload_n 2, 1, 2, 0, 0, 0, 0)), (8, (.imul, 1, 0, 0, 0, 0, 0)), (9, (.iadd, 1, 0, 0, 0, 0, 0)), (10, (.iload_n 3, 1, 3, 0, 0, 0, 0)), (11, (.iadd, 1, 0, 0, 0, 0, 0)), (12, (.iaload, 1, 0, 0, 0, 0, 0)), (13, (.istore 4, 2, 4, 0, 0, 0, 0)), (15, (.iload 4, 2, 4, 0, 0, 0, 0)), (17, (.bipush (-4), 2, 0, 0, 0, (-4), 0)), (19, (.if_icmp .eq 22, 3, 41, 0, 0, 0, 0)), (22, (.aload_n 0, 1, 0, 0, 0, 0, 0)), (23, (.getfield 40, 3, 7, 18, 1, 117, 0)), (26, (.iload 4, 2, 4, 0, 0, 0, 0)), (28, (.iaload, 1, 0, 0, 0, 0, 0)), (29, (.aload_n 0, 1, 0, 0, 0, 0, 0)), (30, (.iload_n 3, 1, 3, 0, 0, 0, 0)), (31, (.invokevirtual 279, 3, 148, 7202, 1, 667, 0))],
  [(34, (.if_icmp .ne 7, 3, 41, 0, 0, 0, 0)), (37, (.iconst 1, 1, 0, 0, 0, 1, 0)), (38, (.goto 4, 3, 42, 0, 0, 0, 0)), (41, (.iconst 0, 1, 0, 0, 0, 0, 0)), (42, (.ireturn, 1, 0, 0, 1, 0, 0))]]
def tX7_same : List (List (Nat × E_)) := [[(0, (.aload_n 0, 1, 0, 0, 0, 0, 0)), (1, (.iload_n 1, 1, 1, 0, 0, 0, 0)), (2, (.invokevirtual 240, 3, 144, 7202, 1, 576, 0)), (5, (.ifCond .eq 24, 3, 29, 0, 0, 0, 0)), (8, (.aload_n 0, 1, 0, 0, 0, 0, 0)), (9, (.iload_n 2, 1, 2, 0, 0, 0, 0)), (10, (.invokevirtual 237, 3, 143, 7202, 1, 553, 0)), (13, (.ifCond .eq 16, 3, 29, 0, 0, 0, 0)), (16, (.aload_n 0, 1, 0, 0, 0, 0, 0)), (17, (.iconst 0, 1, 0, 0, 0, 0, 0)), (18, (.iload_n 1, 1, 1, 0, 0, 0, 0)), (19, (.iload_n 2, 1, 2, 0, 0, 0, 0)), (20, (.invokevirtual 292, 3, 172, 7252, 1, 735, 0)), (23, (.invokestatic 254, 3, 122, 17, 1, 189, 0)), (26, (.goto 4, 3, 30, 0, 0, 0, 0)), (29, (.iconst (-1), 1, 0, 0, 0, (-1), 0)), (30, (.ireturn, 1, 0, 0, 0, 0, 0))]]
def tX7_fled : List (List (Nat × E_)) := [[(0, (.aload_n 0, 1, 0, 0, 0, 0, 0)), (1, (.iload_n 1, 1, 1, 0, 0, 0, 0)), (2, (.invokevirtual 240, 3, 144, 7202, 1, 576, 0)), (5, (.ifCond .eq 20, 3, 25, 0, 0, 0, 0)), (8, (.aload_n 0, 1, 0, 0, 0, 0, 0)), (9, (.getfield 46, 3, 7, 27, 1, 119, 0)), (12, (.iconst 0, 1, 0, 0, 0, 0, 0)), (13, (.bipush 10, 2, 0, 0, 0, 10, 0)), (15, (.iload_n 1, 1, 1, 0, 0, 0, 0)), (16, (.imul, 1, 0, 0, 0, 0, 0)), (17, (.iadd, 1, 0, 0, 0, 0, 0)), (18, (.bipush 9, 2, 0, 0, 0, 9, 0)), (20, (.iadd, 1, 0, 0, 0, 0, 0)), (21, (.iaload, 1, 0, 0, 0, 0, 0)), (22, (.goto 4, 3, 26, 0, 0, 0, 0)), (25, (.iconst (-1), 1, 0, 0, 0, (-1), 0)), (26, (.ireturn, 1, 0, 0, 0, 0, 0))]]
def tX7_against : List (List (Nat × E_)) := [[(0, (.aload_n 0, 1, 0, 0, 0, 0, 0)), (1, (.iload_n 1, 1, 1, 0, 0, 0, 0)), (2, (.invokevirtual 240, 3, 144, 7202, 1, 576, 0)), (5, (.ifCond .eq 29, 3, 34, 0, 0, 0, 0)), (8, (.aload_n 0, 1, 0, 0, 0, 0, 0)), (9, (.iload_n 2, 1, 2, 0, 0, 0, 0)), (10, (.invokevirtual 237, 3, 143, 7202, 1, 553, 0)), (13, (.ifCond .eq 21, 3, 34, 0, 0, 0, 0)), (16, (.aload_n 0, 1, 0, 0, 0, 0, 0)), (17, (.getfield 46, 3, 7, 27, 1, 119, 0)), (20, (.iconst 0, 1, 0, 0, 0, 0, 0)), (21, (.bipush 10, 2, 0, 0, 0, 10, 0)), (23, (.iload_n 1, 1, 1, 0, 0, 0, 0)), (24, (.imul, 1, 0, 0, 0, 0, 0)), (25, (.iadd, 1, 0, 0, 0, 0, 0)), (26, (.iconst 4, 1, 0, 0, 0, 4, 0)), (27, (.iadd, 1, 0, 0, 0, 0, 0)), (28, (.iload_n 2, 1, 2, 0, 0, 0, 0)), (29, (.iadd, 1, 0, 0, 0, 0, 0)), (30, (.iaload, 1, 0, 0, 0, 0, 0)), (31, (.goto 4, 3, 35, 0, 0, 0, 0))],
  [(34, (.iconst (-1), 1, 0, 0, 0, (-1), 0)), (35, (.ireturn, 1, 0, 0, 0, 0, 0))]]
def tX7_isSameForAll : List (List (Nat × E_)) := [[(0, (.iconst 1, 1, 0, 0, 0, 1, 0)), (1, (.istore 4, 2, 4, 0, 0, 0, 0)), (3, (.iconst 0, 1, 0, 0, 0, 0, 0)), (4, (.istore 5, 2, 5, 0, 0, 0, 0)), (6, (.iload 5, 2, 5, 0, 0, 0, 0)), (8, (.aload_n 0, 1, 0, 0, 0, 0, 0)), (9, (.getfield 117, 3, 7, 7, 0, 148, 0)), (12, (.if_icmp .ge 41, 3, 53, 0, 0, 0, 0)), (15, (.iload 4, 2, 4, 0, 0, 0, 0)), (17, (.ifCond .eq 27, 3, 44, 0, 0, 0, 0)), (20, (.iload_n 2, 1, 2, 0, 0, 0, 0)), (21, (.iload 5, 2, 5, 0, 0, 0, 0)), (23, (.ishr, 1, 0, 0, 0, 0, 0)), (24, (.iconst 1, 1, 0, 0, 0, 1, 0)), (25, (.iand, 1, 0, 0, 0, 0, 0)), (26, (.ifCond .eq 14, 3, 40, 0, 0, 0, 0)), (29, (.aload_n 0, 1, 0, 0, 0, 0, 0)), (30, (.iload_n 1, 1, 1, 0, 0, 0, 0)), (31, (.iload 5, 2, 5, 0, 0, 0, 0))],
  [(33, (.iload_n 3, 1, 3, 0, 0, 0, 0)), (34, (.invokevirtual 292, 3, 172, 7252, 1, 735, 0)), (37, (.ifCond .eq 7, 3, 44, 0, 0, 0, 0)), (40, (.iconst 1, 1, 0, 0, 0, 1, 0)), (41, (.goto 4, 3, 45, 0, 0, 0, 0)), (44, (.iconst 0, 1, 0, 0, 0, 0, 0)), (45, (.istore 4, 2, 4, 0, 0, 0, 0)), (47, (.iinc 5 1, 3, 5, 0, 0, 1, 0)), (50, (.goto (-44), 3, 6, 0, 0, 0, 0)), (53, (.iload 4, 2, 4, 0, 0, 0, 0)), (55, (.ireturn, 1, 0, 0, 1, 0, 0))]]
def tX7_common : List (List (Nat × E_)) := [[(0, (.aload_n 0, 1, 0, 0, 0, 0, 0)), (1, (.iload_n 1, 1, 1, 0, 0, 0, 0)), (2, (.invokevirtual 295, 3, 145, 7202, 1, 775, 0)), (5, (.ifCond .ne 5, 3, 10, 0, 0, 0, 0)), (8, (.iconst (-1), 1, 0, 0, 0, (-1), 0)), (9, (.ireturn, 1, 0, 0, 0, 0, 0)), (10, (.iconst 0, 1, 0, 0, 0, 0, 0)), (11, (.istore_n 2, 1, 2, 0, 0, 0, 0)), (12, (.iconst 0, 1, 0, 0, 0, 0, 0)), (13, (.istore_n 3, 1, 3, 0, 0, 0, 0)), (14, (.iload_n 3, 1, 3, 0, 0, 0, 0)), (15, (.aload_n 0, 1, 0, 0, 0, 0, 0)), (16, (.getfield 114, 3, 7, 5, 0, 147, 0)), (19, (.if_icmp .ge 29, 3, 48, 0, 0, 0, 0)), (22, (.iload_n 2, 1, 2, 0, 0, 0, 0)), (23, (.aload_n 0, 1, 0, 0, 0, 0, 0)), (24, (.iconst 0, 1, 0, 0, 0, 0, 0)), (25, (.iload_n 1, 1, 1, 0, 0, 0, 0)), (26, (.iload_n 3, 1, 3, 0, 0, 0, 0)), (27, (.invokevirtual 298, 3, 176, 7268, 1, 779, 0)), (30, (.ifCond .eq 9, 3, 39, 0, 0, 0, 0))],
  [(33, (.iconst 1, 1, 0, 0, 0, 1, 0)), (34, (.iload_n 3, 1, 3, 0, 0, 0, 0)), (35, (.ishl, 1, 0, 0, 0, 0, 0)), (36, (.goto 4, 3, 40, 0, 0, 0, 0)), (39, (.iconst 0, 1, 0, 0, 0, 0, 0)), (40, (.ior, 1, 0, 0, 0, 0, 0)), (41, (.istore_n 2, 1, 2, 0, 0, 0, 0)), (42, (.iinc 3 1, 3, 3, 0, 0, 1, 0)), (45, (.goto (-31), 3, 14, 0, 0, 0, 0)), (48, (.iload_n 2, 1, 2, 0, 0, 0, 0)), (49, (.ireturn, 1, 0, 0, 0, 0, 0))]]
def tX7_copies : List (List (Nat × E_)) := [[(0, (.iconst 0, 1, 0, 0, 0, 0, 0)), (1, (.istore_n 3, 1, 3, 0, 0, 0, 0)), (2, (.iload_n 3, 1, 3, 0, 0, 0, 0)), (3, (.bipush 70, 2, 0, 0, 0, 70, 0)), (5, (.if_icmp .ge 25, 3, 30, 0, 0, 0, 0)), (8, (.aload_n 0, 1, 0, 0, 0, 0, 0)), (9, (.getfield 46, 3, 7, 27, 1, 119, 0)), (12, (.iload_n 1, 1, 1, 0, 0, 0, 0)), (13, (.iload_n 3, 1, 3, 0, 0, 0, 0)), (14, (.iadd, 1, 0, 0, 0, 0, 0)), (15, (.aload_n 0, 1, 0, 0, 0, 0, 0)), (16, (.getfield 46, 3, 7, 27, 1, 119, 0)), (19, (.iload_n 2, 1, 2, 0, 0, 0, 0)), (20, (.iload_n 3, 1, 3, 0, 0, 0, 0)), (21, (.iadd, 1, 0, 0, 0, 0, 0)), (22, (.iaload, 1, 0, 0, 0, 0, 0)), (23, (.iastore, 1, 0, 0, 0, 0, 0)), (24, (.iinc 3 1, 3, 3, 0, 0, 1, 0)), (27, (.goto (-25), 3, 2, 0, 0, 0, 0)), (30, (.return_, 1, 0, 0, 0, 0, 0))]]
def tX7_hasFled : List (List (Nat × E_)) := [[(0, (.iconst 0, 1, 0, 0, 0, 0, 0)), (1, (.istore_n 3, 1, 3, 0, 0, 0, 0)), (2, (.iconst 0, 1, 0, 0, 0, 0, 0)), (3, (.istore 4, 2, 4, 0, 0, 0, 0)), (5, (.iload 4, 2, 4, 0, 0, 0, 0)), (7, (.aload_n 0, 1, 0, 0, 0, 0, 0)), (8, (.getfield 117, 3, 7, 7, 0, 148, 0)), (11, (.if_icmp .ge 49, 3, 60, 0, 0, 0, 0)), (14, (.iload_n 3, 1, 3, 0, 0, 0, 0)), (15, (.ifCond .ne 33, 3, 48, 0, 0, 0, 0)), (18, (.iload_n 2, 1, 2, 0, 0, 0, 0)), (19, (.iload 4, 2, 4, 0, 0, 0, 0)), (21, (.ishr, 1, 0, 0, 0, 0, 0)), (22, (.iconst 1, 1, 0, 0, 0, 1, 0)), (23, (.iand, 1, 0, 0, 0, 0, 0)), (24, (.iconst 1, 1, 0, 0, 0, 1, 0)), (25, (.if_icmp .ne 27, 3, 52, 0, 0, 0, 0)), (28, (.aload_n 0, 1, 0, 0, 0, 0, 0)), (29, (.getfield 46, 3, 7, 27, 1, 119, 0))],
  [(32, (.iload_n 1, 1, 1, 0, 0, 0, 0)), (33, (.bipush 10, 2, 0, 0, 0, 10, 0)), (35, (.iload 4, 2, 4, 0, 0, 0, 0)), (37, (.imul, 1, 0, 0, 0, 0, 0)), (38, (.iadd, 1, 0, 0, 0, 0, 0)), (39, (.bipush 9, 2, 0, 0, 0, 9, 0)), (41, (.iadd, 1, 0, 0, 0, 0, 0)), (42, (.iaload, 1, 0, 0, 0, 0, 0)), (43, (.bipush (-4), 2, 0, 0, 0, (-4), 0)), (45, (.if_icmp .eq 7, 3, 52, 0, 0, 0, 0)), (48, (.iconst 1, 1, 0, 0, 0, 1, 0)), (49, (.goto 4, 3, 53, 0, 0, 0, 0)), (52, (.iconst 0, 1, 0, 0, 0, 0, 0)), (53, (.istore_n 3, 1, 3, 0, 0, 0, 0)), (54, (.iinc 4 1, 3, 4, 0, 0, 1, 0)), (57, (.goto (-52), 3, 5, 0, 0, 0, 0)), (60, (.iload_n 3, 1, 3, 0, 0, 0, 0)), (61, (.ireturn, 1, 0, 0, 1, 0, 0))]]
def tX7_nextRow : List (List (Nat × E_)) := [[(0, (.iload_n 1, 1, 1, 0, 0, 0, 0)), (1, (.iconst 1, 1, 0, 0, 0, 1, 0)), (2, (.isub, 1, 0, 0, 0, 0, 0)), (3, (.istore_n 2, 1, 2, 0, 0, 0, 0)), (4, (.iload_n 2, 1, 2, 0, 0, 0, 0)), (5, (.ifCond .lt 31, 3, 36, 0, 0, 0, 0)), (8, (.aload_n 0, 1, 0, 0, 0, 0, 0)), (9, (.getfield 52, 3, 7, 30, 1, 121, 0)), (12, (.iload_n 2, 1, 2, 0, 0, 0, 0)), (13, (.iaload, 1, 0, 0, 0, 0, 0)), (14, (.aload_n 0, 1, 0, 0, 0, 0, 0)), (15, (.getfield 108, 3, 7, 0, 0, 145, 0)), (18, (.iconst 1, 1, 0, 0, 0, 1, 0)), (19, (.isub, 1, 0, 0, 0, 0, 0)), (20, (.if_icmp .ne 16, 3, 36, 0, 0, 0, 0)), (23, (.aload_n 0, 1, 0, 0, 0, 0, 0)), (24, (.getfield 52, 3, 7, 30, 1, 121, 0)), (27, (.iload_n 2, 1, 2, 0, 0, 0, 0)), (28, (.iconst 0, 1, 0, 0, 0, 0, 0)), (29, (.iastore, 1, 0, 0, 0, 0, 0)), (30, (.iinc 2 (-1), 3, 2, 0, 0, (-1), 0))],
  [(33, (.goto (-29), 3, 4, 0, 0, 0, 0)), (36, (.iload_n 2, 1, 2, 0, 0, 0, 0)), (37, (.ifCond .lt 13, 3, 50, 0, 0, 0, 0)), (40, (.aload_n 0, 1, 0, 0, 0, 0, 0)), (41, (.getfield 52, 3, 7, 30, 1, 121, 0)), (44, (.iload_n 2, 1, 2, 0, 0, 0, 0)), (45, (.dup2, 1, 0, 0, 0, 0, 0)), (46, (.iaload, 1, 0, 0, 0, 0, 0)), (47, (.iconst 1, 1, 0, 0, 0, 1, 0)), (48, (.iadd, 1, 0, 0, 0, 0, 0)), (49, (.iastore, 1, 0, 0, 0, 0, 0)), (50, (.iload_n 2, 1, 2, 0, 0, 0, 0)), (51, (.ifCond .lt 7, 3, 58, 0, 0, 0, 0)), (54, (.iconst 1, 1, 0, 0, 0, 1, 0)), (55, (.goto 4, 3, 59, 0, 0, 0, 0)), (58, (.iconst 0, 1, 0, 0, 0, 0, 0)), (59, (.ireturn, 1, 0, 0, 1, 0, 0))]]
def tX7_teaches : List (List (Nat × E_)) := [[(0, (.aload_n 0, 1, 0, 0, 0, 0, 0)), (1, (.bipush 70, 2, 0, 0, 0, 70, 0)), (3, (.sipush 140, 3, 0, 0, 0, 140, 0)), (6, (.invokevirtual 301, 3, 178, 7235, 0, 832, 0)), (9, (.iconst 0, 1, 0, 0, 0, 0, 0)), (10, (.istore 4, 2, 4, 0, 0, 0, 0)), (12, (.iload 4, 2, 4, 0, 0, 0, 0)), (14, (.iload_n 3, 1, 3, 0, 0, 0, 0)), (15, (.if_icmp .ge 36, 3, 51, 0, 0, 0, 0)), (18, (.aload_n 0, 1, 0, 0, 0, 0, 0)), (19, (.bipush 70, 2, 0, 0, 0, 70, 0)), (21, (.iconst 0, 1, 0, 0, 0, 0, 0)), (22, (.iload_n 2, 1, 2, 0, 0, 0, 0)), (23, (.aload_n 0, 1, 0, 0, 0, 0, 0)), (24, (.getfield 52, 3, 7, 30, 1, 121, 0)), (27, (.iload 4, 2, 4, 0, 0, 0, 0)), (29, (.iaload, 1, 0, 0, 0, 0, 0)), (30, (.aload_n 0, 1, 0, 0, 0, 0, 0)), (31, (.iload_n 2, 1, 2, 0, 0, 0, 0))],
  [(32, (.aload_n 0, 1, 0, 0, 0, 0, 0)), (33, (.getfield 52, 3, 7, 30, 1, 121, 0)), (36, (.iload 4, 2, 4, 0, 0, 0, 0)), (38, (.iaload, 1, 0, 0, 0, 0, 0)), (39, (.invokevirtual 286, 3, 164, 7219, 1, 663, 0)), (42, (.invokevirtual 276, 3, 161, 7302, 0, 165, 0)), (45, (.iinc 4 1, 3, 4, 0, 0, 1, 0)), (48, (.goto (-36), 3, 12, 0, 0, 0, 0)), (51, (.aload_n 0, 1, 0, 0, 0, 0, 0)), (52, (.bipush 70, 2, 0, 0, 0, 70, 0)), (54, (.iload_n 1, 1, 1, 0, 0, 0, 0)), (55, (.invokevirtual 304, 3, 179, 7251, 1, 844, 0)), (58, (.ifCond .ne 18, 3, 76, 0, 0, 0, 0)), (61, (.aload_n 0, 1, 0, 0, 0, 0, 0)), (62, (.bipush 70, 2, 0, 0, 0, 70, 0))],
  [(64, (.iload_n 1, 1, 1, 0, 0, 0, 0)), (65, (.iload_n 2, 1, 2, 0, 0, 0, 0)), (66, (.invokevirtual 298, 3, 176, 7268, 1, 779, 0)), (69, (.ifCond .eq 7, 3, 76, 0, 0, 0, 0)), (72, (.iconst 1, 1, 0, 0, 0, 1, 0)), (73, (.goto 4, 3, 77, 0, 0, 0, 0)), (76, (.iconst 0, 1, 0, 0, 0, 0, 0)), (77, (.ireturn, 1, 0, 0, 1, 0, 0))]]
def tX7_fewest : List (List (Nat × E_)) := [[(0, (.iconst 0, 1, 0, 0, 0, 0, 0)), (1, (.istore 4, 2, 4, 0, 0, 0, 0)), (3, (.iload 4, 2, 4, 0, 0, 0, 0)), (5, (.iload_n 3, 1, 3, 0, 0, 0, 0)), (6, (.if_icmp .gt 81, 3, 87, 0, 0, 0, 0)), (9, (.iconst 0, 1, 0, 0, 0, 0, 0)), (10, (.istore 5, 2, 5, 0, 0, 0, 0)), (12, (.iload 5, 2, 5, 0, 0, 0, 0)), (14, (.iconst 5, 1, 0, 0, 0, 5, 0)), (15, (.if_icmp .ge 17, 3, 32, 0, 0, 0, 0)), (18, (.aload_n 0, 1, 0, 0, 0, 0, 0)), (19, (.getfield 52, 3, 7, 30, 1, 121, 0)), (22, (.iload 5, 2, 5, 0, 0, 0, 0)), (24, (.iconst 0, 1, 0, 0, 0, 0, 0)), (25, (.iastore, 1, 0, 0, 0, 0, 0)), (26, (.iinc 5 1, 3, 5, 0, 0, 1, 0)), (29, (.goto (-17), 3, 12, 0, 0, 0, 0))],
  [(32, (.iload 4, 2, 4, 0, 0, 0, 0)), (34, (.ifCond .eq 10, 3, 44, 0, 0, 0, 0)), (37, (.aload_n 0, 1, 0, 0, 0, 0, 0)), (38, (.getfield 108, 3, 7, 0, 0, 145, 0)), (41, (.ifCond .le 7, 3, 48, 0, 0, 0, 0)), (44, (.iconst 1, 1, 0, 0, 0, 1, 0)), (45, (.goto 4, 3, 49, 0, 0, 0, 0)), (48, (.iconst 0, 1, 0, 0, 0, 0, 0)), (49, (.istore 5, 2, 5, 0, 0, 0, 0)), (51, (.iload 5, 2, 5, 0, 0, 0, 0)), (53, (.ifCond .eq 28, 3, 81, 0, 0, 0, 0)), (56, (.aload_n 0, 1, 0, 0, 0, 0, 0)), (57, (.iload_n 1, 1, 1, 0, 0, 0, 0)), (58, (.iload_n 2, 1, 2, 0, 0, 0, 0)), (59, (.iload 4, 2, 4, 0, 0, 0, 0)), (61, (.invokevirtual 307, 3, 181, 7252, 1, 840, 0))],
  [(64, (.ifCond .eq 6, 3, 70, 0, 0, 0, 0)), (67, (.iload 4, 2, 4, 0, 0, 0, 0)), (69, (.ireturn, 1, 0, 0, 0, 0, 0)), (70, (.aload_n 0, 1, 0, 0, 0, 0, 0)), (71, (.iload 4, 2, 4, 0, 0, 0, 0)), (73, (.invokevirtual 310, 3, 180, 7218, 1, 848, 0)), (76, (.istore 5, 2, 5, 0, 0, 0, 0)), (78, (.goto (-27), 3, 51, 0, 0, 0, 0)), (81, (.iinc 4 1, 3, 4, 0, 0, 1, 0)), (84, (.goto (-81), 3, 3, 0, 0, 0, 0)), (87, (.bipush (-4), 2, 0, 0, 0, (-4), 0)), (89, (.ireturn, 1, 0, 0, 0, 0, 0))]]
def tX7_teaching : List (List (Nat × E_)) := [[(0, (.aload_n 0, 1, 0, 0, 0, 0, 0)), (1, (.iload_n 1, 1, 1, 0, 0, 0, 0)), (2, (.invokevirtual 295, 3, 145, 7202, 1, 775, 0)), (5, (.ifCond .eq 29, 3, 34, 0, 0, 0, 0)), (8, (.aload_n 0, 1, 0, 0, 0, 0, 0)), (9, (.iload_n 2, 1, 2, 0, 0, 0, 0)), (10, (.invokevirtual 237, 3, 143, 7202, 1, 553, 0)), (13, (.ifCond .eq 21, 3, 34, 0, 0, 0, 0)), (16, (.iload_n 3, 1, 3, 0, 0, 0, 0)), (17, (.ifCond .eq 19, 3, 36, 0, 0, 0, 0)), (20, (.iload_n 3, 1, 3, 0, 0, 0, 0)), (21, (.i2l, 1, 0, 0, 0, 0, 0)), (22, (.ldc2_w 208, 3, 0, 458, 0, 0, (10))), (25, (.ldc2_w 195, 3, 0, 492, 0, 0, (14))), (28, (.invokestatic 137, 3, 121, 99, 1, 162, 0)), (31, (.ifCond .ne 5, 3, 36, 0, 0, 0, 0))],
  [(34, (.iconst (-1), 1, 0, 0, 0, (-1), 0)), (35, (.ireturn, 1, 0, 0, 0, 0, 0)), (36, (.aload_n 0, 1, 0, 0, 0, 0, 0)), (37, (.sipush 140, 3, 0, 0, 0, 140, 0)), (40, (.iconst 0, 1, 0, 0, 0, 0, 0)), (41, (.invokevirtual 301, 3, 178, 7235, 0, 832, 0)), (44, (.aload_n 0, 1, 0, 0, 0, 0, 0)), (45, (.iload_n 1, 1, 1, 0, 0, 0, 0)), (46, (.iload_n 2, 1, 2, 0, 0, 0, 0)), (47, (.iconst 5, 1, 0, 0, 0, 5, 0)), (48, (.invokevirtual 313, 3, 182, 7268, 1, 836, 0)), (51, (.istore 4, 2, 4, 0, 0, 0, 0)), (53, (.iload_n 3, 1, 3, 0, 0, 0, 0)), (54, (.ifCond .ne 8, 3, 62, 0, 0, 0, 0)), (57, (.iload 4, 2, 4, 0, 0, 0, 0)), (59, (.goto 25, 3, 84, 0, 0, 0, 0)), (62, (.iload_n 3, 1, 3, 0, 0, 0, 0)), (63, (.bipush 10, 2, 0, 0, 0, 10, 0))],
  [(65, (.isub, 1, 0, 0, 0, 0, 0)), (66, (.iload 4, 2, 4, 0, 0, 0, 0)), (68, (.if_icmp .ge 15, 3, 83, 0, 0, 0, 0)), (71, (.aload_n 0, 1, 0, 0, 0, 0, 0)), (72, (.getfield 52, 3, 7, 30, 1, 121, 0)), (75, (.iload_n 3, 1, 3, 0, 0, 0, 0)), (76, (.bipush 10, 2, 0, 0, 0, 10, 0)), (78, (.isub, 1, 0, 0, 0, 0, 0)), (79, (.iaload, 1, 0, 0, 0, 0, 0)), (80, (.goto 4, 3, 84, 0, 0, 0, 0)), (83, (.iconst (-1), 1, 0, 0, 0, (-1), 0)), (84, (.ireturn, 1, 0, 0, 0, 0, 0))]]
def tX7_never : List (List (Nat × E_)) := [[(0, (.aload_n 0, 1, 0, 0, 0, 0, 0)), (1, (.iload_n 1, 1, 1, 0, 0, 0, 0)), (2, (.invokevirtual 240, 3, 144, 7202, 1, 576, 0)), (5, (.ifCond .eq 11, 3, 16, 0, 0, 0, 0)), (8, (.aload_n 0, 1, 0, 0, 0, 0, 0)), (9, (.iload_n 2, 1, 2, 0, 0, 0, 0)), (10, (.invokevirtual 237, 3, 143, 7202, 1, 553, 0)), (13, (.ifCond .ne 5, 3, 18, 0, 0, 0, 0)), (16, (.iconst (-1), 1, 0, 0, 0, (-1), 0)), (17, (.ireturn, 1, 0, 0, 0, 0, 0)), (18, (.iconst 1, 1, 0, 0, 0, 1, 0)), (19, (.istore_n 3, 1, 3, 0, 0, 0, 0)), (20, (.iconst 0, 1, 0, 0, 0, 0, 0)), (21, (.istore 4, 2, 4, 0, 0, 0, 0)), (23, (.iload 4, 2, 4, 0, 0, 0, 0)), (25, (.aload_n 0, 1, 0, 0, 0, 0, 0)), (26, (.getfield 111, 3, 7, 2, 0, 146, 0)), (29, (.if_icmp .ge 48, 3, 77, 0, 0, 0, 0))],
  [(32, (.iload_n 3, 1, 3, 0, 0, 0, 0)), (33, (.ifCond .eq 36, 3, 69, 0, 0, 0, 0)), (36, (.aload_n 0, 1, 0, 0, 0, 0, 0)), (37, (.iload_n 1, 1, 1, 0, 0, 0, 0)), (38, (.invokevirtual 231, 3, 147, 7234, 1, 185, 0)), (41, (.iload 4, 2, 4, 0, 0, 0, 0)), (43, (.ishr, 1, 0, 0, 0, 0, 0)), (44, (.iconst 1, 1, 0, 0, 0, 1, 0)), (45, (.iand, 1, 0, 0, 0, 0, 0)), (46, (.iconst 1, 1, 0, 0, 0, 1, 0)), (47, (.if_icmp .ne 18, 3, 65, 0, 0, 0, 0)), (50, (.aload_n 0, 1, 0, 0, 0, 0, 0)), (51, (.getfield 40, 3, 7, 18, 1, 117, 0)), (54, (.iload 4, 2, 4, 0, 0, 0, 0)), (56, (.iaload, 1, 0, 0, 0, 0, 0)), (57, (.aload_n 0, 1, 0, 0, 0, 0, 0)), (58, (.iload_n 2, 1, 2, 0, 0, 0, 0)), (59, (.invokevirtual 279, 3, 148, 7202, 1, 667, 0)), (62, (.if_icmp .eq 7, 3, 69, 0, 0, 0, 0))],
  [(65, (.iconst 1, 1, 0, 0, 0, 1, 0)), (66, (.goto 4, 3, 70, 0, 0, 0, 0)), (69, (.iconst 0, 1, 0, 0, 0, 0, 0)), (70, (.istore_n 3, 1, 3, 0, 0, 0, 0)), (71, (.iinc 4 1, 3, 4, 0, 0, 1, 0)), (74, (.goto (-51), 3, 23, 0, 0, 0, 0)), (77, (.iload_n 3, 1, 3, 0, 0, 0, 0)), (78, (.invokestatic 254, 3, 122, 17, 1, 189, 0)), (81, (.ireturn, 1, 0, 0, 0, 0, 0))]]
def tX7_taken : List (List (Nat × E_)) := [[(0, (.iconst 0, 1, 0, 0, 0, 0, 0)), (1, (.istore_n 2, 1, 2, 0, 0, 0, 0)), (2, (.aload_n 0, 1, 0, 0, 0, 0, 0)), (3, (.sipush 140, 3, 0, 0, 0, 140, 0)), (6, (.invokevirtual 273, 3, 153, 7234, 0, 156, 0)), (9, (.iconst 0, 1, 0, 0, 0, 0, 0)), (10, (.istore_n 3, 1, 3, 0, 0, 0, 0)), (11, (.iload_n 3, 1, 3, 0, 0, 0, 0)), (12, (.aload_n 0, 1, 0, 0, 0, 0, 0)), (13, (.getfield 114, 3, 7, 5, 0, 147, 0)), (16, (.if_icmp .ge 47, 3, 63, 0, 0, 0, 0)), (19, (.aload_n 0, 1, 0, 0, 0, 0, 0)), (20, (.iload_n 1, 1, 1, 0, 0, 0, 0)), (21, (.aload_n 0, 1, 0, 0, 0, 0, 0)), (22, (.getfield 55, 3, 7, 31, 1, 122, 0)), (25, (.iload_n 3, 1, 3, 0, 0, 0, 0)), (26, (.iaload, 1, 0, 0, 0, 0, 0)), (27, (.iconst 3, 1, 0, 0, 0, 3, 0)), (28, (.invokevirtual 313, 3, 182, 7268, 1, 836, 0)), (31, (.istore 4, 2, 4, 0, 0, 0, 0))],
  [(33, (.iload 4, 2, 4, 0, 0, 0, 0)), (35, (.bipush (-4), 2, 0, 0, 0, (-4), 0)), (37, (.if_icmp .ne 6, 3, 43, 0, 0, 0, 0)), (40, (.bipush (-4), 2, 0, 0, 0, (-4), 0)), (42, (.ireturn, 1, 0, 0, 0, 0, 0)), (43, (.iload_n 2, 1, 2, 0, 0, 0, 0)), (44, (.iload 4, 2, 4, 0, 0, 0, 0)), (46, (.iadd, 1, 0, 0, 0, 0, 0)), (47, (.istore_n 2, 1, 2, 0, 0, 0, 0)), (48, (.aload_n 0, 1, 0, 0, 0, 0, 0)), (49, (.sipush 140, 3, 0, 0, 0, 140, 0)), (52, (.bipush 70, 2, 0, 0, 0, 70, 0)), (54, (.invokevirtual 301, 3, 178, 7235, 0, 832, 0)), (57, (.iinc 3 1, 3, 3, 0, 0, 1, 0)), (60, (.goto (-49), 3, 11, 0, 0, 0, 0)), (63, (.iload_n 2, 1, 2, 0, 0, 0, 0))],
  [(64, (.ireturn, 1, 0, 0, 0, 0, 0))]]
def tX7_areUnlike : List (List (Nat × E_)) := [[(0, (.iconst 0, 1, 0, 0, 0, 0, 0)), (1, (.istore_n 1, 1, 1, 0, 0, 0, 0)), (2, (.iconst 0, 1, 0, 0, 0, 0, 0)), (3, (.istore_n 2, 1, 2, 0, 0, 0, 0)), (4, (.iload_n 2, 1, 2, 0, 0, 0, 0)), (5, (.aload_n 0, 1, 0, 0, 0, 0, 0)), (6, (.getfield 114, 3, 7, 5, 0, 147, 0)), (9, (.if_icmp .ge 20, 3, 29, 0, 0, 0, 0)), (12, (.iload_n 1, 1, 1, 0, 0, 0, 0)), (13, (.iconst 1, 1, 0, 0, 0, 1, 0)), (14, (.aload_n 0, 1, 0, 0, 0, 0, 0)), (15, (.getfield 55, 3, 7, 31, 1, 122, 0)), (18, (.iload_n 2, 1, 2, 0, 0, 0, 0)), (19, (.iaload, 1, 0, 0, 0, 0, 0)), (20, (.ishl, 1, 0, 0, 0, 0, 0)), (21, (.ior, 1, 0, 0, 0, 0, 0)), (22, (.istore_n 1, 1, 1, 0, 0, 0, 0)), (23, (.iinc 2 1, 3, 2, 0, 0, 1, 0)), (26, (.goto (-22), 3, 4, 0, 0, 0, 0)), (29, (.iload_n 1, 1, 1, 0, 0, 0, 0)), (30, (.invokestatic 222, 3, 123, 49, 1, 204, 0))],
  [(33, (.aload_n 0, 1, 0, 0, 0, 0, 0)), (34, (.getfield 114, 3, 7, 5, 0, 147, 0)), (37, (.if_icmp .ne 7, 3, 44, 0, 0, 0, 0)), (40, (.iconst 1, 1, 0, 0, 0, 1, 0)), (41, (.goto 4, 3, 45, 0, 0, 0, 0)), (44, (.iconst 0, 1, 0, 0, 0, 0, 0)), (45, (.ireturn, 1, 0, 0, 1, 0, 0))]]
def tX7_order : List (List (Nat × E_)) := [[(0, (.aload_n 0, 1, 0, 0, 0, 0, 0)), (1, (.iload_n 1, 1, 1, 0, 0, 0, 0)), (2, (.invokevirtual 295, 3, 145, 7202, 1, 775, 0)), (5, (.ifCond .eq 26, 3, 31, 0, 0, 0, 0)), (8, (.iload_n 2, 1, 2, 0, 0, 0, 0)), (9, (.ifCond .eq 24, 3, 33, 0, 0, 0, 0)), (12, (.iload_n 2, 1, 2, 0, 0, 0, 0)), (13, (.i2l, 1, 0, 0, 0, 0, 0)), (14, (.ldc2_w 208, 3, 0, 458, 0, 0, (10))), (17, (.bipush 9, 2, 0, 0, 0, 9, 0)), (19, (.aload_n 0, 1, 0, 0, 0, 0, 0)), (20, (.getfield 114, 3, 7, 5, 0, 147, 0)), (23, (.iadd, 1, 0, 0, 0, 0, 0)), (24, (.i2l, 1, 0, 0, 0, 0, 0)), (25, (.invokestatic 137, 3, 121, 99, 1, 162, 0)), (28, (.ifCond .ne 5, 3, 33, 0, 0, 0, 0)), (31, (.iconst (-1), 1, 0, 0, 0, (-1), 0))],
  [(32, (.ireturn, 1, 0, 0, 0, 0, 0)), (33, (.iconst 1, 1, 0, 0, 0, 1, 0)), (34, (.istore_n 3, 1, 3, 0, 0, 0, 0)), (35, (.iconst 0, 1, 0, 0, 0, 0, 0)), (36, (.istore 4, 2, 4, 0, 0, 0, 0)), (38, (.iload 4, 2, 4, 0, 0, 0, 0)), (40, (.aload_n 0, 1, 0, 0, 0, 0, 0)), (41, (.getfield 114, 3, 7, 5, 0, 147, 0)), (44, (.if_icmp .ge 16, 3, 60, 0, 0, 0, 0)), (47, (.iload_n 3, 1, 3, 0, 0, 0, 0)), (48, (.aload_n 0, 1, 0, 0, 0, 0, 0)), (49, (.getfield 114, 3, 7, 5, 0, 147, 0)), (52, (.imul, 1, 0, 0, 0, 0, 0)), (53, (.istore_n 3, 1, 3, 0, 0, 0, 0)), (54, (.iinc 4 1, 3, 4, 0, 0, 1, 0)), (57, (.goto (-19), 3, 38, 0, 0, 0, 0)), (60, (.bipush (-4), 2, 0, 0, 0, (-4), 0)), (62, (.istore 4, 2, 4, 0, 0, 0, 0))],
  [(64, (.iconst 0, 1, 0, 0, 0, 0, 0)), (65, (.istore 5, 2, 5, 0, 0, 0, 0)), (67, (.iload 5, 2, 5, 0, 0, 0, 0)), (69, (.iload_n 3, 1, 3, 0, 0, 0, 0)), (70, (.if_icmp .ge 131, 3, 201, 0, 0, 0, 0)), (73, (.iload 5, 2, 5, 0, 0, 0, 0)), (75, (.istore 6, 2, 6, 0, 0, 0, 0)), (77, (.aload_n 0, 1, 0, 0, 0, 0, 0)), (78, (.getfield 114, 3, 7, 5, 0, 147, 0)), (81, (.iconst 1, 1, 0, 0, 0, 1, 0)), (82, (.isub, 1, 0, 0, 0, 0, 0)), (83, (.istore 7, 2, 7, 0, 0, 0, 0)), (85, (.iload 7, 2, 7, 0, 0, 0, 0)), (87, (.ifCond .lt 32, 3, 119, 0, 0, 0, 0)), (90, (.aload_n 0, 1, 0, 0, 0, 0, 0)), (91, (.getfield 55, 3, 7, 31, 1, 122, 0)), (94, (.iload 7, 2, 7, 0, 0, 0, 0))],
  [(96, (.iload 6, 2, 6, 0, 0, 0, 0)), (98, (.aload_n 0, 1, 0, 0, 0, 0, 0)), (99, (.getfield 114, 3, 7, 5, 0, 147, 0)), (102, (.irem, 1, 0, 0, 0, 0, 0)), (103, (.iastore, 1, 0, 0, 0, 0, 0)), (104, (.iload 6, 2, 6, 0, 0, 0, 0)), (106, (.aload_n 0, 1, 0, 0, 0, 0, 0)), (107, (.getfield 114, 3, 7, 5, 0, 147, 0)), (110, (.idiv, 1, 0, 0, 0, 0, 0)), (111, (.istore 6, 2, 6, 0, 0, 0, 0)), (113, (.iinc 7 (-1), 3, 7, 0, 0, (-1), 0)), (116, (.goto (-31), 3, 85, 0, 0, 0, 0)), (119, (.aload_n 0, 1, 0, 0, 0, 0, 0)), (120, (.invokevirtual 317, 3, 186, 7217, 1, 887, 0)), (123, (.ifCond .eq 11, 3, 134, 0, 0, 0, 0)), (126, (.aload_n 0, 1, 0, 0, 0, 0, 0)), (127, (.iload_n 1, 1, 1, 0, 0, 0, 0))],
  [(128, (.invokevirtual 321, 3, 185, 7250, 1, 891, 0)), (131, (.goto 5, 3, 136, 0, 0, 0, 0)), (134, (.bipush (-4), 2, 0, 0, 0, (-4), 0)), (136, (.istore 7, 2, 7, 0, 0, 0, 0)), (138, (.iload 7, 2, 7, 0, 0, 0, 0)), (140, (.bipush (-4), 2, 0, 0, 0, (-4), 0)), (142, (.if_icmp .eq 53, 3, 195, 0, 0, 0, 0)), (145, (.iload 4, 2, 4, 0, 0, 0, 0)), (147, (.bipush (-4), 2, 0, 0, 0, (-4), 0)), (149, (.if_icmp .eq 10, 3, 159, 0, 0, 0, 0)), (152, (.iload 7, 2, 7, 0, 0, 0, 0)), (154, (.iload 4, 2, 4, 0, 0, 0, 0)), (156, (.if_icmp .ge 39, 3, 195, 0, 0, 0, 0)), (159, (.iload 7, 2, 7, 0, 0, 0, 0))],
  [(161, (.istore 4, 2, 4, 0, 0, 0, 0)), (163, (.iconst 0, 1, 0, 0, 0, 0, 0)), (164, (.istore 8, 2, 8, 0, 0, 0, 0)), (166, (.iload 8, 2, 8, 0, 0, 0, 0)), (168, (.aload_n 0, 1, 0, 0, 0, 0, 0)), (169, (.getfield 114, 3, 7, 5, 0, 147, 0)), (172, (.if_icmp .ge 23, 3, 195, 0, 0, 0, 0)), (175, (.aload_n 0, 1, 0, 0, 0, 0, 0)), (176, (.getfield 58, 3, 7, 32, 1, 123, 0)), (179, (.iload 8, 2, 8, 0, 0, 0, 0)), (181, (.aload_n 0, 1, 0, 0, 0, 0, 0)), (182, (.getfield 55, 3, 7, 31, 1, 122, 0)), (185, (.iload 8, 2, 8, 0, 0, 0, 0)), (187, (.iaload, 1, 0, 0, 0, 0, 0)), (188, (.iastore, 1, 0, 0, 0, 0, 0)), (189, (.iinc 8 1, 3, 8, 0, 0, 1, 0))],
  [(192, (.goto (-26), 3, 166, 0, 0, 0, 0)), (195, (.iinc 5 1, 3, 5, 0, 0, 1, 0)), (198, (.goto (-131), 3, 67, 0, 0, 0, 0)), (201, (.iload_n 2, 1, 2, 0, 0, 0, 0)), (202, (.ifCond .eq 10, 3, 212, 0, 0, 0, 0)), (205, (.iload 4, 2, 4, 0, 0, 0, 0)), (207, (.bipush (-4), 2, 0, 0, 0, (-4), 0)), (209, (.if_icmp .ne 8, 3, 217, 0, 0, 0, 0)), (212, (.iload 4, 2, 4, 0, 0, 0, 0)), (214, (.goto 12, 3, 226, 0, 0, 0, 0)), (217, (.aload_n 0, 1, 0, 0, 0, 0, 0)), (218, (.getfield 58, 3, 7, 32, 1, 123, 0)), (221, (.iload_n 2, 1, 2, 0, 0, 0, 0)), (222, (.bipush 10, 2, 0, 0, 0, 10, 0))],
  [(224, (.isub, 1, 0, 0, 0, 0, 0)), (225, (.iaload, 1, 0, 0, 0, 0, 0)), (226, (.ireturn, 1, 0, 0, 0, 0, 0))]]
def tX7_chanceOf : List (List (Nat × E_)) := [[(0, (.iconst 0, 1, 0, 0, 0, 0, 0)), (1, (.istore_n 2, 1, 2, 0, 0, 0, 0)), (2, (.iconst 0, 1, 0, 0, 0, 0, 0)), (3, (.istore_n 3, 1, 3, 0, 0, 0, 0)), (4, (.iload_n 3, 1, 3, 0, 0, 0, 0)), (5, (.aload_n 0, 1, 0, 0, 0, 0, 0)), (6, (.getfield 117, 3, 7, 7, 0, 148, 0)), (9, (.if_icmp .ge 35, 3, 44, 0, 0, 0, 0)), (12, (.iload_n 2, 1, 2, 0, 0, 0, 0)), (13, (.iload_n 1, 1, 1, 0, 0, 0, 0)), (14, (.iload_n 3, 1, 3, 0, 0, 0, 0)), (15, (.ishr, 1, 0, 0, 0, 0, 0)), (16, (.iconst 1, 1, 0, 0, 0, 1, 0)), (17, (.iand, 1, 0, 0, 0, 0, 0)), (18, (.iconst 1, 1, 0, 0, 0, 1, 0)), (19, (.if_icmp .ne 16, 3, 35, 0, 0, 0, 0)), (22, (.aload_n 0, 1, 0, 0, 0, 0, 0)), (23, (.getfield 22, 3, 7, 8, 1, 111, 0)), (26, (.iconst 5, 1, 0, 0, 0, 5, 0)), (27, (.iload_n 3, 1, 3, 0, 0, 0, 0)), (28, (.imul, 1, 0, 0, 0, 0, 0)), (29, (.iconst 4, 1, 0, 0, 0, 4, 0)), (30, (.iadd, 1, 0, 0, 0, 0, 0)), (31, (.iaload, 1, 0, 0, 0, 0, 0))],
  [(32, (.goto 4, 3, 36, 0, 0, 0, 0)), (35, (.iconst 0, 1, 0, 0, 0, 0, 0)), (36, (.iadd, 1, 0, 0, 0, 0, 0)), (37, (.istore_n 2, 1, 2, 0, 0, 0, 0)), (38, (.iinc 3 1, 3, 3, 0, 0, 1, 0)), (41, (.goto (-37), 3, 4, 0, 0, 0, 0)), (44, (.iload_n 2, 1, 2, 0, 0, 0, 0)), (45, (.ireturn, 1, 0, 0, 0, 0, 0))]]
def tX7_allChances : List (List (Nat × E_)) := [[(0, (.aload_n 0, 1, 0, 0, 0, 0, 0)), (1, (.iconst 1, 1, 0, 0, 0, 1, 0)), (2, (.aload_n 0, 1, 0, 0, 0, 0, 0)), (3, (.getfield 117, 3, 7, 7, 0, 148, 0)), (6, (.ishl, 1, 0, 0, 0, 0, 0)), (7, (.iconst 1, 1, 0, 0, 0, 1, 0)), (8, (.isub, 1, 0, 0, 0, 0, 0)), (9, (.invokevirtual 324, 3, 188, 7234, 1, 930, 0)), (12, (.ireturn, 1, 0, 0, 0, 0, 0))]]
def tX7_feared : List (List (Nat × E_)) := [[(0, (.iconst 0, 1, 0, 0, 0, 0, 0)), (1, (.istore_n 2, 1, 2, 0, 0, 0, 0)), (2, (.iconst 0, 1, 0, 0, 0, 0, 0)), (3, (.istore_n 3, 1, 3, 0, 0, 0, 0)), (4, (.iload_n 3, 1, 3, 0, 0, 0, 0)), (5, (.aload_n 0, 1, 0, 0, 0, 0, 0)), (6, (.getfield 117, 3, 7, 7, 0, 148, 0)), (9, (.if_icmp .ge 56, 3, 65, 0, 0, 0, 0)), (12, (.aload_n 0, 1, 0, 0, 0, 0, 0)), (13, (.getfield 22, 3, 7, 8, 1, 111, 0)), (16, (.iconst 5, 1, 0, 0, 0, 5, 0)), (17, (.iload_n 3, 1, 3, 0, 0, 0, 0)), (18, (.imul, 1, 0, 0, 0, 0, 0)), (19, (.iconst 2, 1, 0, 0, 0, 2, 0)), (20, (.iadd, 1, 0, 0, 0, 0, 0)), (21, (.iaload, 1, 0, 0, 0, 0, 0)), (22, (.istore 4, 2, 4, 0, 0, 0, 0)), (24, (.iload_n 2, 1, 2, 0, 0, 0, 0)), (25, (.iload 4, 2, 4, 0, 0, 0, 0)), (27, (.bipush (-4), 2, 0, 0, 0, (-4), 0)), (29, (.if_icmp .eq 27, 3, 56, 0, 0, 0, 0))],
  [(32, (.iload_n 1, 1, 1, 0, 0, 0, 0)), (33, (.ifCond .eq 16, 3, 49, 0, 0, 0, 0)), (36, (.aload_n 0, 1, 0, 0, 0, 0, 0)), (37, (.getfield 22, 3, 7, 8, 1, 111, 0)), (40, (.iconst 5, 1, 0, 0, 0, 5, 0)), (41, (.iload_n 3, 1, 3, 0, 0, 0, 0)), (42, (.imul, 1, 0, 0, 0, 0, 0)), (43, (.iconst 4, 1, 0, 0, 0, 4, 0)), (44, (.iadd, 1, 0, 0, 0, 0, 0)), (45, (.iaload, 1, 0, 0, 0, 0, 0)), (46, (.ifCond .le 10, 3, 56, 0, 0, 0, 0)), (49, (.iconst 1, 1, 0, 0, 0, 1, 0)), (50, (.iload 4, 2, 4, 0, 0, 0, 0)), (52, (.ishl, 1, 0, 0, 0, 0, 0)), (53, (.goto 4, 3, 57, 0, 0, 0, 0)), (56, (.iconst 0, 1, 0, 0, 0, 0, 0)), (57, (.ior, 1, 0, 0, 0, 0, 0)), (58, (.istore_n 2, 1, 2, 0, 0, 0, 0)), (59, (.iinc 3 1, 3, 3, 0, 0, 1, 0)), (62, (.goto (-58), 3, 4, 0, 0, 0, 0))],
  [(65, (.iload_n 2, 1, 2, 0, 0, 0, 0)), (66, (.ireturn, 1, 0, 0, 0, 0, 0))]]
def tX7_lowest : List (List (Nat × E_)) := [[(0, (.iload_n 1, 1, 1, 0, 0, 0, 0)), (1, (.istore_n 3, 1, 3, 0, 0, 0, 0)), (2, (.iload_n 0, 1, 0, 0, 0, 0, 0)), (3, (.istore 4, 2, 4, 0, 0, 0, 0)), (5, (.iload 4, 2, 4, 0, 0, 0, 0)), (7, (.ifCond .eq 19, 3, 26, 0, 0, 0, 0)), (10, (.iload_n 3, 1, 3, 0, 0, 0, 0)), (11, (.iload 4, 2, 4, 0, 0, 0, 0)), (13, (.irem, 1, 0, 0, 0, 0, 0)), (14, (.istore 5, 2, 5, 0, 0, 0, 0)), (16, (.iload 4, 2, 4, 0, 0, 0, 0)), (18, (.istore_n 3, 1, 3, 0, 0, 0, 0)), (19, (.iload 5, 2, 5, 0, 0, 0, 0)), (21, (.istore 4, 2, 4, 0, 0, 0, 0)), (23, (.goto (-18), 3, 5, 0, 0, 0, 0)), (26, (.iload_n 2, 1, 2, 0, 0, 0, 0)), (27, (.ifCond .ne 9, 3, 36, 0, 0, 0, 0)), (30, (.iload_n 0, 1, 0, 0, 0, 0, 0)), (31, (.iload_n 3, 1, 3, 0, 0, 0, 0))],
  [(32, (.idiv, 1, 0, 0, 0, 0, 0)), (33, (.goto 6, 3, 39, 0, 0, 0, 0)), (36, (.iload_n 1, 1, 1, 0, 0, 0, 0)), (37, (.iload_n 3, 1, 3, 0, 0, 0, 0)), (38, (.idiv, 1, 0, 0, 0, 0, 0)), (39, (.ireturn, 1, 0, 0, 0, 0, 0))]]
def tX7_first : List (List (Nat × E_)) := [[(0, (.aload_n 0, 1, 0, 0, 0, 0, 0)), (1, (.iload_n 1, 1, 1, 0, 0, 0, 0)), (2, (.invokevirtual 237, 3, 143, 7202, 1, 553, 0)), (5, (.ifCond .eq 15, 3, 20, 0, 0, 0, 0)), (8, (.iload_n 2, 1, 2, 0, 0, 0, 0)), (9, (.i2l, 1, 0, 0, 0, 0, 0)), (10, (.lconst 0, 1, 0, 0, 0, 0, 0)), (11, (.ldc2_w 290, 3, 0, 700, 0, 0, (2))), (14, (.invokestatic 137, 3, 121, 99, 1, 162, 0)), (17, (.ifCond .ne 5, 3, 22, 0, 0, 0, 0)), (20, (.iconst (-1), 1, 0, 0, 0, (-1), 0)), (21, (.ireturn, 1, 0, 0, 0, 0, 0)), (22, (.bipush (-4), 2, 0, 0, 0, (-4), 0)), (24, (.istore_n 3, 1, 3, 0, 0, 0, 0)), (25, (.iconst 0, 1, 0, 0, 0, 0, 0)), (26, (.istore 4, 2, 4, 0, 0, 0, 0)), (28, (.iconst 0, 1, 0, 0, 0, 0, 0)), (29, (.istore 5, 2, 5, 0, 0, 0, 0)), (31, (.iload 5, 2, 5, 0, 0, 0, 0))],
  [(33, (.aload_n 0, 1, 0, 0, 0, 0, 0)), (34, (.getfield 108, 3, 7, 0, 0, 145, 0)), (37, (.if_icmp .ge 151, 3, 188, 0, 0, 0, 0)), (40, (.aload_n 0, 1, 0, 0, 0, 0, 0)), (41, (.invokevirtual 327, 3, 189, 7185, 1, 926, 0)), (44, (.ifCond .le 144, 3, 188, 0, 0, 0, 0)), (47, (.aload_n 0, 1, 0, 0, 0, 0, 0)), (48, (.iconst 1, 1, 0, 0, 0, 1, 0)), (49, (.invokevirtual 330, 3, 190, 7250, 1, 934, 0)), (52, (.iload 5, 2, 5, 0, 0, 0, 0)), (54, (.ishr, 1, 0, 0, 0, 0, 0)), (55, (.iconst 1, 1, 0, 0, 0, 1, 0)), (56, (.iand, 1, 0, 0, 0, 0, 0)), (57, (.ifCond .ne 125, 3, 182, 0, 0, 0, 0)), (60, (.aload_n 0, 1, 0, 0, 0, 0, 0)), (61, (.bipush 70, 2, 0, 0, 0, 70, 0)), (63, (.invokevirtual 273, 3, 153, 7234, 0, 156, 0))],
  [(66, (.aload_n 0, 1, 0, 0, 0, 0, 0)), (67, (.bipush 70, 2, 0, 0, 0, 70, 0)), (69, (.iconst 0, 1, 0, 0, 0, 0, 0)), (70, (.iload_n 1, 1, 1, 0, 0, 0, 0)), (71, (.iload 5, 2, 5, 0, 0, 0, 0)), (73, (.aload_n 0, 1, 0, 0, 0, 0, 0)), (74, (.iload_n 1, 1, 1, 0, 0, 0, 0)), (75, (.iload 5, 2, 5, 0, 0, 0, 0)), (77, (.invokevirtual 286, 3, 164, 7219, 1, 663, 0)), (80, (.invokevirtual 276, 3, 161, 7302, 0, 165, 0)), (83, (.iconst 0, 1, 0, 0, 0, 0, 0)), (84, (.istore 6, 2, 6, 0, 0, 0, 0)), (86, (.iconst 0, 1, 0, 0, 0, 0, 0)), (87, (.istore 7, 2, 7, 0, 0, 0, 0)), (89, (.iload 7, 2, 7, 0, 0, 0, 0)), (91, (.aload_n 0, 1, 0, 0, 0, 0, 0)), (92, (.getfield 117, 3, 7, 7, 0, 148, 0)), (95, (.if_icmp .ge 41, 3, 136, 0, 0, 0, 0))],
  [(98, (.iload 6, 2, 6, 0, 0, 0, 0)), (100, (.aload_n 0, 1, 0, 0, 0, 0, 0)), (101, (.bipush 70, 2, 0, 0, 0, 70, 0)), (103, (.iload 7, 2, 7, 0, 0, 0, 0)), (105, (.iload_n 1, 1, 1, 0, 0, 0, 0)), (106, (.invokevirtual 292, 3, 172, 7252, 1, 735, 0)), (109, (.ifCond .eq 17, 3, 126, 0, 0, 0, 0)), (112, (.aload_n 0, 1, 0, 0, 0, 0, 0)), (113, (.getfield 22, 3, 7, 8, 1, 111, 0)), (116, (.iconst 5, 1, 0, 0, 0, 5, 0)), (117, (.iload 7, 2, 7, 0, 0, 0, 0)), (119, (.imul, 1, 0, 0, 0, 0, 0)), (120, (.iconst 4, 1, 0, 0, 0, 4, 0)), (121, (.iadd, 1, 0, 0, 0, 0, 0)), (122, (.iaload, 1, 0, 0, 0, 0, 0)), (123, (.goto 4, 3, 127, 0, 0, 0, 0)), (126, (.iconst 0, 1, 0, 0, 0, 0, 0)), (127, (.iadd, 1, 0, 0, 0, 0, 0))],
  [(128, (.istore 6, 2, 6, 0, 0, 0, 0)), (130, (.iinc 7 1, 3, 7, 0, 0, 1, 0)), (133, (.goto (-44), 3, 89, 0, 0, 0, 0)), (136, (.iload_n 3, 1, 3, 0, 0, 0, 0)), (137, (.bipush (-4), 2, 0, 0, 0, (-4), 0)), (139, (.if_icmp .eq 10, 3, 149, 0, 0, 0, 0)), (142, (.iload 6, 2, 6, 0, 0, 0, 0)), (144, (.iload 4, 2, 4, 0, 0, 0, 0)), (146, (.if_icmp .le 7, 3, 153, 0, 0, 0, 0)), (149, (.iconst 1, 1, 0, 0, 0, 1, 0)), (150, (.goto 4, 3, 154, 0, 0, 0, 0)), (153, (.iconst 0, 1, 0, 0, 0, 0, 0)), (154, (.istore 7, 2, 7, 0, 0, 0, 0)), (156, (.iload 7, 2, 7, 0, 0, 0, 0)), (158, (.ifCond .eq 8, 3, 166, 0, 0, 0, 0))],
  [(161, (.iload 5, 2, 5, 0, 0, 0, 0)), (163, (.goto 4, 3, 167, 0, 0, 0, 0)), (166, (.iload_n 3, 1, 3, 0, 0, 0, 0)), (167, (.istore_n 3, 1, 3, 0, 0, 0, 0)), (168, (.iload 7, 2, 7, 0, 0, 0, 0)), (170, (.ifCond .eq 8, 3, 178, 0, 0, 0, 0)), (173, (.iload 6, 2, 6, 0, 0, 0, 0)), (175, (.goto 5, 3, 180, 0, 0, 0, 0)), (178, (.iload 4, 2, 4, 0, 0, 0, 0)), (180, (.istore 4, 2, 4, 0, 0, 0, 0)), (182, (.iinc 5 1, 3, 5, 0, 0, 1, 0)), (185, (.goto (-154), 3, 31, 0, 0, 0, 0)), (188, (.iload_n 3, 1, 3, 0, 0, 0, 0)), (189, (.bipush (-4), 2, 0, 0, 0, (-4), 0)), (191, (.if_icmp .ne 8, 3, 199, 0, 0, 0, 0))],
  [(194, (.bipush (-4), 2, 0, 0, 0, (-4), 0)), (196, (.goto 23, 3, 219, 0, 0, 0, 0)), (199, (.iload_n 2, 1, 2, 0, 0, 0, 0)), (200, (.ifCond .ne 7, 3, 207, 0, 0, 0, 0)), (203, (.iload_n 3, 1, 3, 0, 0, 0, 0)), (204, (.goto 15, 3, 219, 0, 0, 0, 0)), (207, (.iload 4, 2, 4, 0, 0, 0, 0)), (209, (.aload_n 0, 1, 0, 0, 0, 0, 0)), (210, (.invokevirtual 327, 3, 189, 7185, 1, 926, 0)), (213, (.iload_n 2, 1, 2, 0, 0, 0, 0)), (214, (.iconst 1, 1, 0, 0, 0, 1, 0)), (215, (.isub, 1, 0, 0, 0, 0, 0)), (216, (.invokestatic 333, 3, 191, 99, 1, 938, 0)), (219, (.ireturn, 1, 0, 0, 0, 0, 0))]]
def tX7_fears : List (List (Nat × E_)) := [[(0, (.iload_n 1, 1, 1, 0, 0, 0, 0)), (1, (.ifCond .ne 11, 3, 12, 0, 0, 0, 0)), (4, (.aload_n 0, 1, 0, 0, 0, 0, 0)), (5, (.iconst 1, 1, 0, 0, 0, 1, 0)), (6, (.invokevirtual 330, 3, 190, 7250, 1, 934, 0)), (9, (.goto 28, 3, 37, 0, 0, 0, 0)), (12, (.iload_n 1, 1, 1, 0, 0, 0, 0)), (13, (.iconst 1, 1, 0, 0, 0, 1, 0)), (14, (.if_icmp .ne 22, 3, 36, 0, 0, 0, 0)), (17, (.iconst 1, 1, 0, 0, 0, 1, 0)), (18, (.aload_n 0, 1, 0, 0, 0, 0, 0)), (19, (.getfield 108, 3, 7, 0, 0, 145, 0)), (22, (.ishl, 1, 0, 0, 0, 0, 0)), (23, (.iconst 1, 1, 0, 0, 0, 1, 0)), (24, (.isub, 1, 0, 0, 0, 0, 0)), (25, (.aload_n 0, 1, 0, 0, 0, 0, 0)), (26, (.iconst 0, 1, 0, 0, 0, 0, 0)), (27, (.invokevirtual 330, 3, 190, 7250, 1, 934, 0)), (30, (.iconst (-1), 1, 0, 0, 0, (-1), 0)), (31, (.ixor, 1, 0, 0, 0, 0, 0))],
  [(32, (.iand, 1, 0, 0, 0, 0, 0)), (33, (.goto 4, 3, 37, 0, 0, 0, 0)), (36, (.iconst (-1), 1, 0, 0, 0, (-1), 0)), (37, (.ireturn, 1, 0, 0, 0, 0, 0))]]
def tX7_answerOf : List (List (Nat × E_)) := [[(0, (.aload_n 0, 1, 0, 0, 0, 0, 0)), (1, (.getfield 46, 3, 7, 27, 1, 119, 0)), (4, (.iconst 0, 1, 0, 0, 0, 0, 0)), (5, (.bipush 10, 2, 0, 0, 0, 10, 0)), (7, (.iload_n 1, 1, 1, 0, 0, 0, 0)), (8, (.imul, 1, 0, 0, 0, 0, 0)), (9, (.iadd, 1, 0, 0, 0, 0, 0)), (10, (.iload_n 2, 1, 2, 0, 0, 0, 0)), (11, (.iadd, 1, 0, 0, 0, 0, 0)), (12, (.iaload, 1, 0, 0, 0, 0, 0)), (13, (.istore 4, 2, 4, 0, 0, 0, 0)), (15, (.iload 4, 2, 4, 0, 0, 0, 0)), (17, (.bipush (-4), 2, 0, 0, 0, (-4), 0)), (19, (.if_icmp .ne 8, 3, 27, 0, 0, 0, 0)), (22, (.bipush (-4), 2, 0, 0, 0, (-4), 0)), (24, (.goto 14, 3, 38, 0, 0, 0, 0)), (27, (.aload_n 0, 1, 0, 0, 0, 0, 0)), (28, (.getfield 40, 3, 7, 18, 1, 117, 0)), (31, (.iload 4, 2, 4, 0, 0, 0, 0))],
  [(33, (.iaload, 1, 0, 0, 0, 0, 0)), (34, (.iload_n 3, 1, 3, 0, 0, 0, 0)), (35, (.ishr, 1, 0, 0, 0, 0, 0)), (36, (.iconst 1, 1, 0, 0, 0, 1, 0)), (37, (.iand, 1, 0, 0, 0, 0, 0)), (38, (.ireturn, 1, 0, 0, 0, 0, 0))]]
def tX7_answer : List (List (Nat × E_)) := [[(0, (.aload_n 0, 1, 0, 0, 0, 0, 0)), (1, (.iload_n 1, 1, 1, 0, 0, 0, 0)), (2, (.invokevirtual 240, 3, 144, 7202, 1, 576, 0)), (5, (.ifCond .eq 29, 3, 34, 0, 0, 0, 0)), (8, (.aload_n 0, 1, 0, 0, 0, 0, 0)), (9, (.iload_n 2, 1, 2, 0, 0, 0, 0)), (10, (.invokevirtual 237, 3, 143, 7202, 1, 553, 0)), (13, (.ifCond .eq 21, 3, 34, 0, 0, 0, 0)), (16, (.aload_n 0, 1, 0, 0, 0, 0, 0)), (17, (.iload_n 3, 1, 3, 0, 0, 0, 0)), (18, (.invokevirtual 225, 3, 142, 7202, 1, 516, 0)), (21, (.ifCond .eq 13, 3, 34, 0, 0, 0, 0)), (24, (.aload_n 0, 1, 0, 0, 0, 0, 0)), (25, (.iload_n 1, 1, 1, 0, 0, 0, 0)), (26, (.iload_n 2, 1, 2, 0, 0, 0, 0)), (27, (.iload_n 3, 1, 3, 0, 0, 0, 0)), (28, (.invokevirtual 336, 3, 194, 7252, 1, 967, 0)), (31, (.goto 4, 3, 35, 0, 0, 0, 0))],
  [(34, (.iconst (-1), 1, 0, 0, 0, (-1), 0)), (35, (.ireturn, 1, 0, 0, 0, 0, 0))]]
def tX7_whoSay : List (List (Nat × E_)) := [[(0, (.iconst 0, 1, 0, 0, 0, 0, 0)), (1, (.istore 4, 2, 4, 0, 0, 0, 0)), (3, (.iconst 0, 1, 0, 0, 0, 0, 0)), (4, (.istore 5, 2, 5, 0, 0, 0, 0)), (6, (.iload 5, 2, 5, 0, 0, 0, 0)), (8, (.aload_n 0, 1, 0, 0, 0, 0, 0)), (9, (.getfield 117, 3, 7, 7, 0, 148, 0)), (12, (.if_icmp .ge 34, 3, 46, 0, 0, 0, 0)), (15, (.iload 4, 2, 4, 0, 0, 0, 0)), (17, (.aload_n 0, 1, 0, 0, 0, 0, 0)), (18, (.iload 5, 2, 5, 0, 0, 0, 0)), (20, (.iload_n 1, 1, 1, 0, 0, 0, 0)), (21, (.iload_n 2, 1, 2, 0, 0, 0, 0)), (22, (.invokevirtual 336, 3, 194, 7252, 1, 967, 0)), (25, (.iload_n 3, 1, 3, 0, 0, 0, 0)), (26, (.if_icmp .ne 10, 3, 36, 0, 0, 0, 0)), (29, (.iconst 1, 1, 0, 0, 0, 1, 0)), (30, (.iload 5, 2, 5, 0, 0, 0, 0))],
  [(32, (.ishl, 1, 0, 0, 0, 0, 0)), (33, (.goto 4, 3, 37, 0, 0, 0, 0)), (36, (.iconst 0, 1, 0, 0, 0, 0, 0)), (37, (.ior, 1, 0, 0, 0, 0, 0)), (38, (.istore 4, 2, 4, 0, 0, 0, 0)), (40, (.iinc 5 1, 3, 5, 0, 0, 1, 0)), (43, (.goto (-37), 3, 6, 0, 0, 0, 0)), (46, (.iload 4, 2, 4, 0, 0, 0, 0)), (48, (.ireturn, 1, 0, 0, 0, 0, 0))]]
def tX7_heard : List (List (Nat × E_)) := [[(0, (.aload_n 0, 1, 0, 0, 0, 0, 0)), (1, (.iload_n 1, 1, 1, 0, 0, 0, 0)), (2, (.invokevirtual 237, 3, 143, 7202, 1, 553, 0)), (5, (.ifCond .eq 27, 3, 32, 0, 0, 0, 0)), (8, (.aload_n 0, 1, 0, 0, 0, 0, 0)), (9, (.iload_n 2, 1, 2, 0, 0, 0, 0)), (10, (.invokevirtual 225, 3, 142, 7202, 1, 516, 0)), (13, (.ifCond .eq 19, 3, 32, 0, 0, 0, 0)), (16, (.iload_n 3, 1, 3, 0, 0, 0, 0)), (17, (.bipush (-4), 2, 0, 0, 0, (-4), 0)), (19, (.if_icmp .eq 15, 3, 34, 0, 0, 0, 0)), (22, (.iload_n 3, 1, 3, 0, 0, 0, 0)), (23, (.i2l, 1, 0, 0, 0, 0, 0)), (24, (.lconst 0, 1, 0, 0, 0, 0, 0)), (25, (.lconst 1, 1, 0, 0, 0, 0, 1)), (26, (.invokestatic 137, 3, 121, 99, 1, 162, 0)), (29, (.ifCond .ne 5, 3, 34, 0, 0, 0, 0))],
  [(32, (.iconst (-1), 1, 0, 0, 0, (-1), 0)), (33, (.ireturn, 1, 0, 0, 0, 0, 0)), (34, (.aload_n 0, 1, 0, 0, 0, 0, 0)), (35, (.dup, 1, 0, 0, 0, 0, 0)), (36, (.getfield 123, 3, 7, 33, 0, 150, 0)), (39, (.aload_n 0, 1, 0, 0, 0, 0, 0)), (40, (.iload_n 1, 1, 1, 0, 0, 0, 0)), (41, (.iload_n 2, 1, 2, 0, 0, 0, 0)), (42, (.iload_n 3, 1, 3, 0, 0, 0, 0)), (43, (.invokevirtual 339, 3, 196, 7268, 1, 984, 0)), (46, (.iand, 1, 0, 0, 0, 0, 0)), (47, (.putfield 123, 3, 7, 33, 0, 150, 0)), (50, (.aload_n 0, 1, 0, 0, 0, 0, 0)), (51, (.getfield 123, 3, 7, 33, 0, 150, 0)), (54, (.ireturn, 1, 0, 0, 0, 0, 0))]]
def tX7_left : List (List (Nat × E_)) := [[(0, (.iload_n 1, 1, 1, 0, 0, 0, 0)), (1, (.ifCond .ne 10, 3, 11, 0, 0, 0, 0)), (4, (.aload_n 0, 1, 0, 0, 0, 0, 0)), (5, (.getfield 123, 3, 7, 33, 0, 150, 0)), (8, (.goto 32, 3, 40, 0, 0, 0, 0)), (11, (.iload_n 1, 1, 1, 0, 0, 0, 0)), (12, (.iconst 1, 1, 0, 0, 0, 1, 0)), (13, (.if_icmp .ne 14, 3, 27, 0, 0, 0, 0)), (16, (.aload_n 0, 1, 0, 0, 0, 0, 0)), (17, (.aload_n 0, 1, 0, 0, 0, 0, 0)), (18, (.getfield 123, 3, 7, 33, 0, 150, 0)), (21, (.invokevirtual 324, 3, 188, 7234, 1, 930, 0)), (24, (.goto 16, 3, 40, 0, 0, 0, 0)), (27, (.iload_n 1, 1, 1, 0, 0, 0, 0)), (28, (.iconst 2, 1, 0, 0, 0, 2, 0)), (29, (.if_icmp .ne 10, 3, 39, 0, 0, 0, 0))],
  [(32, (.aload_n 0, 1, 0, 0, 0, 0, 0)), (33, (.invokevirtual 327, 3, 189, 7185, 1, 926, 0)), (36, (.goto 4, 3, 40, 0, 0, 0, 0)), (39, (.iconst (-1), 1, 0, 0, 0, (-1), 0)), (40, (.ireturn, 1, 0, 0, 0, 0, 0))]]
def tX7_ask : List (List (Nat × E_)) := [[(0, (.iload_n 1, 1, 1, 0, 0, 0, 0)), (1, (.i2l, 1, 0, 0, 0, 0, 0)), (2, (.lconst 0, 1, 0, 0, 0, 0, 0)), (3, (.ldc2_w 290, 3, 0, 700, 0, 0, (2))), (6, (.invokestatic 137, 3, 121, 99, 1, 162, 0)), (9, (.ifCond .ne 5, 3, 14, 0, 0, 0, 0)), (12, (.iconst (-1), 1, 0, 0, 0, (-1), 0)), (13, (.ireturn, 1, 0, 0, 0, 0, 0)), (14, (.bipush (-4), 2, 0, 0, 0, (-4), 0)), (16, (.istore_n 2, 1, 2, 0, 0, 0, 0)), (17, (.iconst 0, 1, 0, 0, 0, 0, 0)), (18, (.istore_n 3, 1, 3, 0, 0, 0, 0)), (19, (.iconst 0, 1, 0, 0, 0, 0, 0)), (20, (.istore 4, 2, 4, 0, 0, 0, 0)), (22, (.iload 4, 2, 4, 0, 0, 0, 0)), (24, (.aload_n 0, 1, 0, 0, 0, 0, 0)), (25, (.getfield 114, 3, 7, 5, 0, 147, 0)), (28, (.if_icmp .ge 149, 3, 177, 0, 0, 0, 0)), (31, (.aload_n 0, 1, 0, 0, 0, 0, 0))],
  [(32, (.getfield 123, 3, 7, 33, 0, 150, 0)), (35, (.ifCond .eq 142, 3, 177, 0, 0, 0, 0)), (38, (.iconst 0, 1, 0, 0, 0, 0, 0)), (39, (.istore 5, 2, 5, 0, 0, 0, 0)), (41, (.iload 5, 2, 5, 0, 0, 0, 0)), (43, (.aload_n 0, 1, 0, 0, 0, 0, 0)), (44, (.getfield 108, 3, 7, 0, 0, 145, 0)), (47, (.if_icmp .ge 124, 3, 171, 0, 0, 0, 0)), (50, (.iconst 0, 1, 0, 0, 0, 0, 0)), (51, (.istore 6, 2, 6, 0, 0, 0, 0)), (53, (.iconst 0, 1, 0, 0, 0, 0, 0)), (54, (.istore 7, 2, 7, 0, 0, 0, 0)), (56, (.iload 7, 2, 7, 0, 0, 0, 0)), (58, (.iconst 3, 1, 0, 0, 0, 3, 0)), (59, (.if_icmp .ge 57, 3, 116, 0, 0, 0, 0)), (62, (.aload_n 0, 1, 0, 0, 0, 0, 0)), (63, (.aload_n 0, 1, 0, 0, 0, 0, 0))],
  [(64, (.getfield 123, 3, 7, 33, 0, 150, 0)), (67, (.aload_n 0, 1, 0, 0, 0, 0, 0)), (68, (.iload 4, 2, 4, 0, 0, 0, 0)), (70, (.iload 5, 2, 5, 0, 0, 0, 0)), (72, (.iload 7, 2, 7, 0, 0, 0, 0)), (74, (.iconst 2, 1, 0, 0, 0, 2, 0)), (75, (.if_icmp .ne 8, 3, 83, 0, 0, 0, 0)), (78, (.bipush (-4), 2, 0, 0, 0, (-4), 0)), (80, (.goto 5, 3, 85, 0, 0, 0, 0)), (83, (.iload 7, 2, 7, 0, 0, 0, 0)), (85, (.invokevirtual 339, 3, 196, 7268, 1, 984, 0)), (88, (.iand, 1, 0, 0, 0, 0, 0)), (89, (.invokevirtual 324, 3, 188, 7234, 1, 930, 0)), (92, (.istore 8, 2, 8, 0, 0, 0, 0)), (94, (.iload 8, 2, 8, 0, 0, 0, 0))],
  [(96, (.iload 6, 2, 6, 0, 0, 0, 0)), (98, (.if_icmp .le 8, 3, 106, 0, 0, 0, 0)), (101, (.iload 8, 2, 8, 0, 0, 0, 0)), (103, (.goto 5, 3, 108, 0, 0, 0, 0)), (106, (.iload 6, 2, 6, 0, 0, 0, 0)), (108, (.istore 6, 2, 6, 0, 0, 0, 0)), (110, (.iinc 7 1, 3, 7, 0, 0, 1, 0)), (113, (.goto (-57), 3, 56, 0, 0, 0, 0)), (116, (.iload_n 2, 1, 2, 0, 0, 0, 0)), (117, (.bipush (-4), 2, 0, 0, 0, (-4), 0)), (119, (.if_icmp .eq 9, 3, 128, 0, 0, 0, 0)), (122, (.iload 6, 2, 6, 0, 0, 0, 0)), (124, (.iload_n 3, 1, 3, 0, 0, 0, 0)), (125, (.if_icmp .ge 7, 3, 132, 0, 0, 0, 0))],
  [(128, (.iconst 1, 1, 0, 0, 0, 1, 0)), (129, (.goto 4, 3, 133, 0, 0, 0, 0)), (132, (.iconst 0, 1, 0, 0, 0, 0, 0)), (133, (.istore 7, 2, 7, 0, 0, 0, 0)), (135, (.iload 7, 2, 7, 0, 0, 0, 0)), (137, (.ifCond .eq 14, 3, 151, 0, 0, 0, 0)), (140, (.bipush 8, 2, 0, 0, 0, 8, 0)), (142, (.iload 4, 2, 4, 0, 0, 0, 0)), (144, (.imul, 1, 0, 0, 0, 0, 0)), (145, (.iload 5, 2, 5, 0, 0, 0, 0)), (147, (.iadd, 1, 0, 0, 0, 0, 0)), (148, (.goto 4, 3, 152, 0, 0, 0, 0)), (151, (.iload_n 2, 1, 2, 0, 0, 0, 0)), (152, (.istore_n 2, 1, 2, 0, 0, 0, 0)), (153, (.iload 7, 2, 7, 0, 0, 0, 0)), (155, (.ifCond .eq 8, 3, 163, 0, 0, 0, 0)), (158, (.iload 6, 2, 6, 0, 0, 0, 0))],
  [(160, (.goto 4, 3, 164, 0, 0, 0, 0)), (163, (.iload_n 3, 1, 3, 0, 0, 0, 0)), (164, (.istore_n 3, 1, 3, 0, 0, 0, 0)), (165, (.iinc 5 1, 3, 5, 0, 0, 1, 0)), (168, (.goto (-127), 3, 41, 0, 0, 0, 0)), (171, (.iinc 4 1, 3, 4, 0, 0, 1, 0)), (174, (.goto (-152), 3, 22, 0, 0, 0, 0)), (177, (.iload_n 2, 1, 2, 0, 0, 0, 0)), (178, (.bipush (-4), 2, 0, 0, 0, (-4), 0)), (180, (.if_icmp .ne 8, 3, 188, 0, 0, 0, 0)), (183, (.bipush (-4), 2, 0, 0, 0, (-4), 0)), (185, (.goto 27, 3, 212, 0, 0, 0, 0)), (188, (.iload_n 1, 1, 1, 0, 0, 0, 0)), (189, (.ifCond .ne 10, 3, 199, 0, 0, 0, 0))],
  [(192, (.iload_n 2, 1, 2, 0, 0, 0, 0)), (193, (.bipush 8, 2, 0, 0, 0, 8, 0)), (195, (.idiv, 1, 0, 0, 0, 0, 0)), (196, (.goto 16, 3, 212, 0, 0, 0, 0)), (199, (.iload_n 1, 1, 1, 0, 0, 0, 0)), (200, (.iconst 1, 1, 0, 0, 0, 1, 0)), (201, (.if_icmp .ne 10, 3, 211, 0, 0, 0, 0)), (204, (.iload_n 2, 1, 2, 0, 0, 0, 0)), (205, (.bipush 8, 2, 0, 0, 0, 8, 0)), (207, (.irem, 1, 0, 0, 0, 0, 0)), (208, (.goto 4, 3, 212, 0, 0, 0, 0)), (211, (.iload_n 3, 1, 3, 0, 0, 0, 0)), (212, (.ireturn, 1, 0, 0, 0, 0, 0))]]
def tX7_sure : List (List (Nat × E_)) := [[(0, (.aload_n 0, 1, 0, 0, 0, 0, 0)), (1, (.iload_n 1, 1, 1, 0, 0, 0, 0)), (2, (.invokevirtual 237, 3, 143, 7202, 1, 553, 0)), (5, (.ifCond .eq 13, 3, 18, 0, 0, 0, 0)), (8, (.iload_n 2, 1, 2, 0, 0, 0, 0)), (9, (.i2l, 1, 0, 0, 0, 0, 0)), (10, (.lconst 0, 1, 0, 0, 0, 0, 0)), (11, (.lconst 1, 1, 0, 0, 0, 0, 1)), (12, (.invokestatic 137, 3, 121, 99, 1, 162, 0)), (15, (.ifCond .ne 5, 3, 20, 0, 0, 0, 0)), (18, (.iconst (-1), 1, 0, 0, 0, (-1), 0)), (19, (.ireturn, 1, 0, 0, 0, 0, 0)), (20, (.iconst 0, 1, 0, 0, 0, 0, 0)), (21, (.istore_n 3, 1, 3, 0, 0, 0, 0)), (22, (.iconst 0, 1, 0, 0, 0, 0, 0)), (23, (.istore 4, 2, 4, 0, 0, 0, 0)), (25, (.iload 4, 2, 4, 0, 0, 0, 0)), (27, (.aload_n 0, 1, 0, 0, 0, 0, 0)), (28, (.getfield 117, 3, 7, 7, 0, 148, 0)), (31, (.if_icmp .ge 18, 3, 49, 0, 0, 0, 0))],
  [(34, (.iload_n 3, 1, 3, 0, 0, 0, 0)), (35, (.aload_n 0, 1, 0, 0, 0, 0, 0)), (36, (.iload 4, 2, 4, 0, 0, 0, 0)), (38, (.invokevirtual 231, 3, 147, 7234, 1, 185, 0)), (41, (.ior, 1, 0, 0, 0, 0, 0)), (42, (.istore_n 3, 1, 3, 0, 0, 0, 0)), (43, (.iinc 4 1, 3, 4, 0, 0, 1, 0)), (46, (.goto (-21), 3, 25, 0, 0, 0, 0)), (49, (.bipush (-4), 2, 0, 0, 0, (-4), 0)), (51, (.istore 4, 2, 4, 0, 0, 0, 0)), (53, (.iconst 0, 1, 0, 0, 0, 0, 0)), (54, (.istore 5, 2, 5, 0, 0, 0, 0)), (56, (.iload 5, 2, 5, 0, 0, 0, 0)), (58, (.iconst 1, 1, 0, 0, 0, 1, 0)), (59, (.aload_n 0, 1, 0, 0, 0, 0, 0)), (60, (.getfield 108, 3, 7, 0, 0, 145, 0)), (63, (.ishl, 1, 0, 0, 0, 0, 0))],
  [(64, (.if_icmp .ge 117, 3, 181, 0, 0, 0, 0)), (67, (.iload 4, 2, 4, 0, 0, 0, 0)), (69, (.bipush (-4), 2, 0, 0, 0, (-4), 0)), (71, (.if_icmp .eq 16, 3, 87, 0, 0, 0, 0)), (74, (.iload 5, 2, 5, 0, 0, 0, 0)), (76, (.invokestatic 222, 3, 123, 49, 1, 204, 0)), (79, (.iload 4, 2, 4, 0, 0, 0, 0)), (81, (.invokestatic 222, 3, 123, 49, 1, 204, 0)), (84, (.if_icmp .ge 7, 3, 91, 0, 0, 0, 0)), (87, (.iconst 1, 1, 0, 0, 0, 1, 0)), (88, (.goto 4, 3, 92, 0, 0, 0, 0)), (91, (.iconst 0, 1, 0, 0, 0, 0, 0)), (92, (.istore 6, 2, 6, 0, 0, 0, 0)), (94, (.iconst 0, 1, 0, 0, 0, 0, 0)), (95, (.istore 7, 2, 7, 0, 0, 0, 0))],
  [(97, (.iload 7, 2, 7, 0, 0, 0, 0)), (99, (.aload_n 0, 1, 0, 0, 0, 0, 0)), (100, (.getfield 111, 3, 7, 2, 0, 146, 0)), (103, (.if_icmp .ge 58, 3, 161, 0, 0, 0, 0)), (106, (.iload 6, 2, 6, 0, 0, 0, 0)), (108, (.ifCond .eq 53, 3, 161, 0, 0, 0, 0)), (111, (.aload_n 0, 1, 0, 0, 0, 0, 0)), (112, (.getfield 40, 3, 7, 18, 1, 117, 0)), (115, (.iload 7, 2, 7, 0, 0, 0, 0)), (117, (.iaload, 1, 0, 0, 0, 0, 0)), (118, (.aload_n 0, 1, 0, 0, 0, 0, 0)), (119, (.iload_n 1, 1, 1, 0, 0, 0, 0)), (120, (.invokevirtual 279, 3, 148, 7202, 1, 667, 0)), (123, (.ixor, 1, 0, 0, 0, 0, 0)), (124, (.istore 8, 2, 8, 0, 0, 0, 0)), (126, (.iload_n 3, 1, 3, 0, 0, 0, 0)), (127, (.iload 7, 2, 7, 0, 0, 0, 0))],
  [(129, (.ishr, 1, 0, 0, 0, 0, 0)), (130, (.iconst 1, 1, 0, 0, 0, 1, 0)), (131, (.iand, 1, 0, 0, 0, 0, 0)), (132, (.ifCond .eq 16, 3, 148, 0, 0, 0, 0)), (135, (.iload 8, 2, 8, 0, 0, 0, 0)), (137, (.ifCond .eq 11, 3, 148, 0, 0, 0, 0)), (140, (.iload 8, 2, 8, 0, 0, 0, 0)), (142, (.iload 5, 2, 5, 0, 0, 0, 0)), (144, (.iand, 1, 0, 0, 0, 0, 0)), (145, (.ifCond .eq 7, 3, 152, 0, 0, 0, 0)), (148, (.iconst 1, 1, 0, 0, 0, 1, 0)), (149, (.goto 4, 3, 153, 0, 0, 0, 0)), (152, (.iconst 0, 1, 0, 0, 0, 0, 0)), (153, (.istore 6, 2, 6, 0, 0, 0, 0)), (155, (.iinc 7 1, 3, 7, 0, 0, 1, 0)), (158, (.goto (-61), 3, 97, 0, 0, 0, 0))],
  [(161, (.iload 6, 2, 6, 0, 0, 0, 0)), (163, (.ifCond .eq 8, 3, 171, 0, 0, 0, 0)), (166, (.iload 5, 2, 5, 0, 0, 0, 0)), (168, (.goto 5, 3, 173, 0, 0, 0, 0)), (171, (.iload 4, 2, 4, 0, 0, 0, 0)), (173, (.istore 4, 2, 4, 0, 0, 0, 0)), (175, (.iinc 5 1, 3, 5, 0, 0, 1, 0)), (178, (.goto (-122), 3, 56, 0, 0, 0, 0)), (181, (.iload_n 2, 1, 2, 0, 0, 0, 0)), (182, (.ifCond .ne 11, 3, 193, 0, 0, 0, 0)), (185, (.iload 4, 2, 4, 0, 0, 0, 0)), (187, (.invokestatic 222, 3, 123, 49, 1, 204, 0)), (190, (.goto 5, 3, 195, 0, 0, 0, 0))],
  [(193, (.iload 4, 2, 4, 0, 0, 0, 0)), (195, (.ireturn, 1, 0, 0, 0, 0, 0))]]
def tX7_likely : List (List (Nat × E_)) := [[(0, (.aload_n 0, 1, 0, 0, 0, 0, 0)), (1, (.iload_n 1, 1, 1, 0, 0, 0, 0)), (2, (.invokevirtual 237, 3, 143, 7202, 1, 553, 0)), (5, (.ifCond .eq 13, 3, 18, 0, 0, 0, 0)), (8, (.iload_n 2, 1, 2, 0, 0, 0, 0)), (9, (.i2l, 1, 0, 0, 0, 0, 0)), (10, (.lconst 0, 1, 0, 0, 0, 0, 0)), (11, (.lconst 1, 1, 0, 0, 0, 0, 1)), (12, (.invokestatic 137, 3, 121, 99, 1, 162, 0)), (15, (.ifCond .ne 5, 3, 20, 0, 0, 0, 0)), (18, (.iconst (-1), 1, 0, 0, 0, (-1), 0)), (19, (.ireturn, 1, 0, 0, 0, 0, 0)), (20, (.iconst 0, 1, 0, 0, 0, 0, 0)), (21, (.istore_n 3, 1, 3, 0, 0, 0, 0)), (22, (.iconst 0, 1, 0, 0, 0, 0, 0)), (23, (.istore 4, 2, 4, 0, 0, 0, 0)), (25, (.iload 4, 2, 4, 0, 0, 0, 0)), (27, (.aload_n 0, 1, 0, 0, 0, 0, 0)), (28, (.getfield 117, 3, 7, 7, 0, 148, 0)), (31, (.if_icmp .ge 38, 3, 69, 0, 0, 0, 0))],
  [(34, (.iload_n 3, 1, 3, 0, 0, 0, 0)), (35, (.aload_n 0, 1, 0, 0, 0, 0, 0)), (36, (.iconst 0, 1, 0, 0, 0, 0, 0)), (37, (.iload 4, 2, 4, 0, 0, 0, 0)), (39, (.iload_n 1, 1, 1, 0, 0, 0, 0)), (40, (.invokevirtual 292, 3, 172, 7252, 1, 735, 0)), (43, (.ifCond .eq 17, 3, 60, 0, 0, 0, 0)), (46, (.aload_n 0, 1, 0, 0, 0, 0, 0)), (47, (.getfield 22, 3, 7, 8, 1, 111, 0)), (50, (.iconst 5, 1, 0, 0, 0, 5, 0)), (51, (.iload 4, 2, 4, 0, 0, 0, 0)), (53, (.imul, 1, 0, 0, 0, 0, 0)), (54, (.iconst 4, 1, 0, 0, 0, 4, 0)), (55, (.iadd, 1, 0, 0, 0, 0, 0)), (56, (.iaload, 1, 0, 0, 0, 0, 0)), (57, (.goto 4, 3, 61, 0, 0, 0, 0)), (60, (.iconst 0, 1, 0, 0, 0, 0, 0)), (61, (.iadd, 1, 0, 0, 0, 0, 0)), (62, (.istore_n 3, 1, 3, 0, 0, 0, 0)), (63, (.iinc 4 1, 3, 4, 0, 0, 1, 0))],
  [(66, (.goto (-41), 3, 25, 0, 0, 0, 0)), (69, (.aload_n 0, 1, 0, 0, 0, 0, 0)), (70, (.invokevirtual 327, 3, 189, 7185, 1, 926, 0)), (73, (.ifCond .ne 8, 3, 81, 0, 0, 0, 0)), (76, (.bipush (-4), 2, 0, 0, 0, (-4), 0)), (78, (.goto 12, 3, 90, 0, 0, 0, 0)), (81, (.iload_n 3, 1, 3, 0, 0, 0, 0)), (82, (.aload_n 0, 1, 0, 0, 0, 0, 0)), (83, (.invokevirtual 327, 3, 189, 7185, 1, 926, 0)), (86, (.iload_n 2, 1, 2, 0, 0, 0, 0)), (87, (.invokestatic 333, 3, 191, 99, 1, 938, 0)), (90, (.ireturn, 1, 0, 0, 0, 0, 0))]]
def tX7_theirs : List (List (Nat × E_)) := [[(0, (.aload_n 0, 1, 0, 0, 0, 0, 0)), (1, (.iload_n 1, 1, 1, 0, 0, 0, 0)), (2, (.invokevirtual 225, 3, 142, 7202, 1, 516, 0)), (5, (.ifCond .ne 5, 3, 10, 0, 0, 0, 0)), (8, (.iconst (-1), 1, 0, 0, 0, (-1), 0)), (9, (.ireturn, 1, 0, 0, 0, 0, 0)), (10, (.aload_n 0, 1, 0, 0, 0, 0, 0)), (11, (.getfield 126, 3, 7, 34, 0, 151, 0)), (14, (.bipush 12, 2, 0, 0, 0, 12, 0)), (16, (.if_icmp .ne 6, 3, 22, 0, 0, 0, 0)), (19, (.bipush (-3), 2, 0, 0, 0, (-3), 0)), (21, (.ireturn, 1, 0, 0, 0, 0, 0)), (22, (.aload_n 0, 1, 0, 0, 0, 0, 0)), (23, (.getfield 61, 3, 7, 35, 1, 124, 0)), (26, (.aload_n 0, 1, 0, 0, 0, 0, 0)), (27, (.getfield 126, 3, 7, 34, 0, 151, 0)), (30, (.iload_n 1, 1, 1, 0, 0, 0, 0)), (31, (.iastore, 1, 0, 0, 0, 0, 0))],
  [(32, (.aload_n 0, 1, 0, 0, 0, 0, 0)), (33, (.getfield 64, 3, 7, 36, 1, 125, 0)), (36, (.aload_n 0, 1, 0, 0, 0, 0, 0)), (37, (.getfield 126, 3, 7, 34, 0, 151, 0)), (40, (.iload_n 2, 1, 2, 0, 0, 0, 0)), (41, (.bastore, 1, 0, 0, 0, 0, 0)), (42, (.aload_n 0, 1, 0, 0, 0, 0, 0)), (43, (.dup, 1, 0, 0, 0, 0, 0)), (44, (.getfield 126, 3, 7, 34, 0, 151, 0)), (47, (.iconst 1, 1, 0, 0, 0, 1, 0)), (48, (.iadd, 1, 0, 0, 0, 0, 0)), (49, (.putfield 126, 3, 7, 34, 0, 151, 0)), (52, (.aload_n 0, 1, 0, 0, 0, 0, 0)), (53, (.getfield 126, 3, 7, 34, 0, 151, 0)), (56, (.ireturn, 1, 0, 0, 0, 0, 0))]]
def tX7_hush : List (List (Nat × E_)) := [[(0, (.aload_n 0, 1, 0, 0, 0, 0, 0)), (1, (.getfield 126, 3, 7, 34, 0, 151, 0)), (4, (.istore_n 1, 1, 1, 0, 0, 0, 0)), (5, (.aload_n 0, 1, 0, 0, 0, 0, 0)), (6, (.iconst 0, 1, 0, 0, 0, 0, 0)), (7, (.putfield 126, 3, 7, 34, 0, 151, 0)), (10, (.iload_n 1, 1, 1, 0, 0, 0, 0)), (11, (.ireturn, 1, 0, 0, 0, 0, 0))]]
def tX7_fitsTheirs : List (List (Nat × E_)) := [[(0, (.iconst 0, 1, 0, 0, 0, 0, 0)), (1, (.istore_n 1, 1, 1, 0, 0, 0, 0)), (2, (.iconst 0, 1, 0, 0, 0, 0, 0)), (3, (.istore_n 2, 1, 2, 0, 0, 0, 0)), (4, (.iload_n 2, 1, 2, 0, 0, 0, 0)), (5, (.aload_n 0, 1, 0, 0, 0, 0, 0)), (6, (.getfield 111, 3, 7, 2, 0, 146, 0)), (9, (.if_icmp .ge 82, 3, 91, 0, 0, 0, 0)), (12, (.iconst 1, 1, 0, 0, 0, 1, 0)), (13, (.istore_n 3, 1, 3, 0, 0, 0, 0)), (14, (.iconst 0, 1, 0, 0, 0, 0, 0)), (15, (.istore 4, 2, 4, 0, 0, 0, 0)), (17, (.iload 4, 2, 4, 0, 0, 0, 0)), (19, (.aload_n 0, 1, 0, 0, 0, 0, 0)), (20, (.getfield 126, 3, 7, 34, 0, 151, 0)), (23, (.if_icmp .ge 48, 3, 71, 0, 0, 0, 0)), (26, (.iload_n 3, 1, 3, 0, 0, 0, 0)), (27, (.ifCond .eq 36, 3, 63, 0, 0, 0, 0)), (30, (.aload_n 0, 1, 0, 0, 0, 0, 0)), (31, (.getfield 40, 3, 7, 18, 1, 117, 0))],
  [(34, (.iload_n 2, 1, 2, 0, 0, 0, 0)), (35, (.iaload, 1, 0, 0, 0, 0, 0)), (36, (.aload_n 0, 1, 0, 0, 0, 0, 0)), (37, (.getfield 61, 3, 7, 35, 1, 124, 0)), (40, (.iload 4, 2, 4, 0, 0, 0, 0)), (42, (.iaload, 1, 0, 0, 0, 0, 0)), (43, (.ishr, 1, 0, 0, 0, 0, 0)), (44, (.iconst 1, 1, 0, 0, 0, 1, 0)), (45, (.iand, 1, 0, 0, 0, 0, 0)), (46, (.aload_n 0, 1, 0, 0, 0, 0, 0)), (47, (.getfield 64, 3, 7, 36, 1, 125, 0)), (50, (.iload 4, 2, 4, 0, 0, 0, 0)), (52, (.baload, 1, 0, 0, 0, 0, 0)), (53, (.invokestatic 254, 3, 122, 17, 1, 189, 0)), (56, (.if_icmp .ne 7, 3, 63, 0, 0, 0, 0)), (59, (.iconst 1, 1, 0, 0, 0, 1, 0)), (60, (.goto 4, 3, 64, 0, 0, 0, 0)), (63, (.iconst 0, 1, 0, 0, 0, 0, 0))],
  [(64, (.istore_n 3, 1, 3, 0, 0, 0, 0)), (65, (.iinc 4 1, 3, 4, 0, 0, 1, 0)), (68, (.goto (-51), 3, 17, 0, 0, 0, 0)), (71, (.iload_n 1, 1, 1, 0, 0, 0, 0)), (72, (.iload_n 3, 1, 3, 0, 0, 0, 0)), (73, (.ifCond .eq 9, 3, 82, 0, 0, 0, 0)), (76, (.iconst 1, 1, 0, 0, 0, 1, 0)), (77, (.iload_n 2, 1, 2, 0, 0, 0, 0)), (78, (.ishl, 1, 0, 0, 0, 0, 0)), (79, (.goto 4, 3, 83, 0, 0, 0, 0)), (82, (.iconst 0, 1, 0, 0, 0, 0, 0)), (83, (.ior, 1, 0, 0, 0, 0, 0)), (84, (.istore_n 1, 1, 1, 0, 0, 0, 0)), (85, (.iinc 2 1, 3, 2, 0, 0, 1, 0)), (88, (.goto (-84), 3, 4, 0, 0, 0, 0)), (91, (.iload_n 1, 1, 1, 0, 0, 0, 0)), (92, (.ireturn, 1, 0, 0, 0, 0, 0))]]
def tX7_toAsk : List (List (Nat × E_)) := [[(0, (.bipush (-4), 2, 0, 0, 0, (-4), 0)), (2, (.istore_n 2, 1, 2, 0, 0, 0, 0)), (3, (.iconst (-1), 1, 0, 0, 0, (-1), 0)), (4, (.istore_n 3, 1, 3, 0, 0, 0, 0)), (5, (.iconst 0, 1, 0, 0, 0, 0, 0)), (6, (.istore 4, 2, 4, 0, 0, 0, 0)), (8, (.iload 4, 2, 4, 0, 0, 0, 0)), (10, (.aload_n 0, 1, 0, 0, 0, 0, 0)), (11, (.getfield 108, 3, 7, 0, 0, 145, 0)), (14, (.if_icmp .ge 117, 3, 131, 0, 0, 0, 0)), (17, (.iload_n 1, 1, 1, 0, 0, 0, 0)), (18, (.ifCond .eq 113, 3, 131, 0, 0, 0, 0)), (21, (.iconst 0, 1, 0, 0, 0, 0, 0)), (22, (.istore 5, 2, 5, 0, 0, 0, 0)), (24, (.iconst 0, 1, 0, 0, 0, 0, 0)), (25, (.istore 6, 2, 6, 0, 0, 0, 0)), (27, (.iload 6, 2, 6, 0, 0, 0, 0)), (29, (.aload_n 0, 1, 0, 0, 0, 0, 0)), (30, (.getfield 111, 3, 7, 2, 0, 146, 0))],
  [(33, (.if_icmp .ge 40, 3, 73, 0, 0, 0, 0)), (36, (.iload 5, 2, 5, 0, 0, 0, 0)), (38, (.iload_n 1, 1, 1, 0, 0, 0, 0)), (39, (.iload 6, 2, 6, 0, 0, 0, 0)), (41, (.ishr, 1, 0, 0, 0, 0, 0)), (42, (.iconst 1, 1, 0, 0, 0, 1, 0)), (43, (.iand, 1, 0, 0, 0, 0, 0)), (44, (.iconst 1, 1, 0, 0, 0, 1, 0)), (45, (.if_icmp .ne 18, 3, 63, 0, 0, 0, 0)), (48, (.aload_n 0, 1, 0, 0, 0, 0, 0)), (49, (.getfield 40, 3, 7, 18, 1, 117, 0)), (52, (.iload 6, 2, 6, 0, 0, 0, 0)), (54, (.iaload, 1, 0, 0, 0, 0, 0)), (55, (.iload 4, 2, 4, 0, 0, 0, 0)), (57, (.ishr, 1, 0, 0, 0, 0, 0)), (58, (.iconst 1, 1, 0, 0, 0, 1, 0)), (59, (.iand, 1, 0, 0, 0, 0, 0)), (60, (.goto 4, 3, 64, 0, 0, 0, 0)), (63, (.iconst 0, 1, 0, 0, 0, 0, 0))],
  [(64, (.iadd, 1, 0, 0, 0, 0, 0)), (65, (.istore 5, 2, 5, 0, 0, 0, 0)), (67, (.iinc 6 1, 3, 6, 0, 0, 1, 0)), (70, (.goto (-43), 3, 27, 0, 0, 0, 0)), (73, (.iload 5, 2, 5, 0, 0, 0, 0)), (75, (.iload_n 1, 1, 1, 0, 0, 0, 0)), (76, (.invokestatic 222, 3, 123, 49, 1, 204, 0)), (79, (.iload 5, 2, 5, 0, 0, 0, 0)), (81, (.isub, 1, 0, 0, 0, 0, 0)), (82, (.if_icmp .ge 8, 3, 90, 0, 0, 0, 0)), (85, (.iload 5, 2, 5, 0, 0, 0, 0)), (87, (.goto 10, 3, 97, 0, 0, 0, 0)), (90, (.iload_n 1, 1, 1, 0, 0, 0, 0)), (91, (.invokestatic 222, 3, 123, 49, 1, 204, 0)), (94, (.iload 5, 2, 5, 0, 0, 0, 0))],
  [(96, (.isub, 1, 0, 0, 0, 0, 0)), (97, (.istore 6, 2, 6, 0, 0, 0, 0)), (99, (.iload 6, 2, 6, 0, 0, 0, 0)), (101, (.iload_n 3, 1, 3, 0, 0, 0, 0)), (102, (.if_icmp .le 8, 3, 110, 0, 0, 0, 0)), (105, (.iload 4, 2, 4, 0, 0, 0, 0)), (107, (.goto 4, 3, 111, 0, 0, 0, 0)), (110, (.iload_n 2, 1, 2, 0, 0, 0, 0)), (111, (.istore_n 2, 1, 2, 0, 0, 0, 0)), (112, (.iload 6, 2, 6, 0, 0, 0, 0)), (114, (.iload_n 3, 1, 3, 0, 0, 0, 0)), (115, (.if_icmp .le 8, 3, 123, 0, 0, 0, 0)), (118, (.iload 6, 2, 6, 0, 0, 0, 0)), (120, (.goto 4, 3, 124, 0, 0, 0, 0)), (123, (.iload_n 3, 1, 3, 0, 0, 0, 0)), (124, (.istore_n 3, 1, 3, 0, 0, 0, 0)), (125, (.iinc 4 1, 3, 4, 0, 0, 1, 0))],
  [(128, (.goto (-120), 3, 8, 0, 0, 0, 0)), (131, (.iload_n 2, 1, 2, 0, 0, 0, 0)), (132, (.ireturn, 1, 0, 0, 0, 0, 0))]]
def tX7_meant : List (List (Nat × E_)) := [[(0, (.aload_n 0, 1, 0, 0, 0, 0, 0)), (1, (.invokevirtual 342, 3, 204, 7249, 1, 1077, 0)), (4, (.istore_n 2, 1, 2, 0, 0, 0, 0)), (5, (.iload_n 1, 1, 1, 0, 0, 0, 0)), (6, (.tableswitch 49 0 3 #[30, 35, 41, 43], 30, 8, 0, 0, 0, 0))],
  [(36, (.iload_n 2, 1, 2, 0, 0, 0, 0)), (37, (.invokestatic 222, 3, 123, 49, 1, 204, 0)), (40, (.ireturn, 1, 0, 0, 0, 0, 0)), (41, (.aload_n 0, 1, 0, 0, 0, 0, 0)), (42, (.iload_n 2, 1, 2, 0, 0, 0, 0)), (43, (.invokevirtual 248, 3, 156, 7234, 1, 196, 0)), (46, (.ireturn, 1, 0, 0, 0, 0, 0)), (47, (.iload_n 2, 1, 2, 0, 0, 0, 0)), (48, (.ireturn, 1, 0, 0, 0, 0, 0)), (49, (.aload_n 0, 1, 0, 0, 0, 0, 0)), (50, (.iload_n 2, 1, 2, 0, 0, 0, 0)), (51, (.invokevirtual 345, 3, 205, 7282, 1, 1081, 0)), (54, (.ireturn, 1, 0, 0, 0, 0, 0)), (55, (.iconst (-1), 1, 0, 0, 0, (-1), 0)), (56, (.ireturn, 1, 0, 0, 0, 0, 0))]]
def tX7_build : List (List (Nat × E_)) := [[(0, (.iload_n 1, 1, 1, 0, 0, 0, 0)), (1, (.i2l, 1, 0, 0, 0, 0, 0)), (2, (.lconst 0, 1, 0, 0, 0, 0, 0)), (3, (.aload_n 0, 1, 0, 0, 0, 0, 0)), (4, (.getfield 111, 3, 7, 2, 0, 146, 0)), (7, (.iconst 1, 1, 0, 0, 0, 1, 0)), (8, (.isub, 1, 0, 0, 0, 0, 0)), (9, (.i2l, 1, 0, 0, 0, 0, 0)), (10, (.invokestatic 137, 3, 121, 99, 1, 162, 0)), (13, (.ifCond .eq 15, 3, 28, 0, 0, 0, 0)), (16, (.iload_n 2, 1, 2, 0, 0, 0, 0)), (17, (.i2l, 1, 0, 0, 0, 0, 0)), (18, (.lconst 0, 1, 0, 0, 0, 0, 0)), (19, (.ldc2_w 290, 3, 0, 700, 0, 0, (2))), (22, (.invokestatic 137, 3, 121, 99, 1, 162, 0)), (25, (.ifCond .ne 5, 3, 30, 0, 0, 0, 0)), (28, (.iconst (-1), 1, 0, 0, 0, (-1), 0)), (29, (.ireturn, 1, 0, 0, 0, 0, 0)), (30, (.iconst 1, 1, 0, 0, 0, 1, 0)), (31, (.aload_n 0, 1, 0, 0, 0, 0, 0))],
  [(32, (.getfield 108, 3, 7, 0, 0, 145, 0)), (35, (.ishl, 1, 0, 0, 0, 0, 0)), (36, (.iconst 1, 1, 0, 0, 0, 1, 0)), (37, (.isub, 1, 0, 0, 0, 0, 0)), (38, (.istore_n 3, 1, 3, 0, 0, 0, 0)), (39, (.iconst 1, 1, 0, 0, 0, 1, 0)), (40, (.istore 4, 2, 4, 0, 0, 0, 0)), (42, (.iload 4, 2, 4, 0, 0, 0, 0)), (44, (.iconst 4, 1, 0, 0, 0, 4, 0)), (45, (.if_icmp .ge 168, 3, 213, 0, 0, 0, 0)), (48, (.iconst 0, 1, 0, 0, 0, 0, 0)), (49, (.istore 5, 2, 5, 0, 0, 0, 0)), (51, (.iload 5, 2, 5, 0, 0, 0, 0)), (53, (.aload_n 0, 1, 0, 0, 0, 0, 0)), (54, (.getfield 114, 3, 7, 5, 0, 147, 0)), (57, (.if_icmp .ge 150, 3, 207, 0, 0, 0, 0)), (60, (.iconst 0, 1, 0, 0, 0, 0, 0)), (61, (.istore 6, 2, 6, 0, 0, 0, 0)), (63, (.iload 6, 2, 6, 0, 0, 0, 0))],
  [(65, (.iload 4, 2, 4, 0, 0, 0, 0)), (67, (.iconst 1, 1, 0, 0, 0, 1, 0)), (68, (.if_icmp .ne 7, 3, 75, 0, 0, 0, 0)), (71, (.iconst 1, 1, 0, 0, 0, 1, 0)), (72, (.goto 7, 3, 79, 0, 0, 0, 0)), (75, (.aload_n 0, 1, 0, 0, 0, 0, 0)), (76, (.getfield 114, 3, 7, 5, 0, 147, 0)), (79, (.if_icmp .ge 122, 3, 201, 0, 0, 0, 0)), (82, (.iload 4, 2, 4, 0, 0, 0, 0)), (84, (.iconst 1, 1, 0, 0, 0, 1, 0)), (85, (.if_icmp .ne 12, 3, 97, 0, 0, 0, 0)), (88, (.aload_n 0, 1, 0, 0, 0, 0, 0)), (89, (.iload 5, 2, 5, 0, 0, 0, 0)), (91, (.invokevirtual 279, 3, 148, 7202, 1, 667, 0)), (94, (.goto 42, 3, 136, 0, 0, 0, 0))],
  [(97, (.iload 4, 2, 4, 0, 0, 0, 0)), (99, (.iconst 2, 1, 0, 0, 0, 2, 0)), (100, (.if_icmp .ne 19, 3, 119, 0, 0, 0, 0)), (103, (.aload_n 0, 1, 0, 0, 0, 0, 0)), (104, (.iload 5, 2, 5, 0, 0, 0, 0)), (106, (.invokevirtual 279, 3, 148, 7202, 1, 667, 0)), (109, (.aload_n 0, 1, 0, 0, 0, 0, 0)), (110, (.iload 6, 2, 6, 0, 0, 0, 0)), (112, (.invokevirtual 279, 3, 148, 7202, 1, 667, 0)), (115, (.iand, 1, 0, 0, 0, 0, 0)), (116, (.goto 20, 3, 136, 0, 0, 0, 0)), (119, (.aload_n 0, 1, 0, 0, 0, 0, 0)), (120, (.iload 5, 2, 5, 0, 0, 0, 0)), (122, (.invokevirtual 279, 3, 148, 7202, 1, 667, 0)), (125, (.aload_n 0, 1, 0, 0, 0, 0, 0)), (126, (.iload 6, 2, 6, 0, 0, 0, 0))],
  [(128, (.invokevirtual 279, 3, 148, 7202, 1, 667, 0)), (131, (.iconst (-1), 1, 0, 0, 0, (-1), 0)), (132, (.ixor, 1, 0, 0, 0, 0, 0)), (133, (.iand, 1, 0, 0, 0, 0, 0)), (134, (.iload_n 3, 1, 3, 0, 0, 0, 0)), (135, (.iand, 1, 0, 0, 0, 0, 0)), (136, (.istore 7, 2, 7, 0, 0, 0, 0)), (138, (.iload 4, 2, 4, 0, 0, 0, 0)), (140, (.iconst 1, 1, 0, 0, 0, 1, 0)), (141, (.if_icmp .eq 10, 3, 151, 0, 0, 0, 0)), (144, (.iload 5, 2, 5, 0, 0, 0, 0)), (146, (.iload 6, 2, 6, 0, 0, 0, 0)), (148, (.if_icmp .eq 47, 3, 195, 0, 0, 0, 0)), (151, (.iload 7, 2, 7, 0, 0, 0, 0)), (153, (.aload_n 0, 1, 0, 0, 0, 0, 0)), (154, (.getfield 40, 3, 7, 18, 1, 117, 0)), (157, (.iload_n 1, 1, 1, 0, 0, 0, 0)), (158, (.iaload, 1, 0, 0, 0, 0, 0)), (159, (.if_icmp .ne 36, 3, 195, 0, 0, 0, 0))],
  [(162, (.iload_n 2, 1, 2, 0, 0, 0, 0)), (163, (.ifCond .ne 8, 3, 171, 0, 0, 0, 0)), (166, (.iload 4, 2, 4, 0, 0, 0, 0)), (168, (.goto 26, 3, 194, 0, 0, 0, 0)), (171, (.iload_n 2, 1, 2, 0, 0, 0, 0)), (172, (.iconst 1, 1, 0, 0, 0, 1, 0)), (173, (.if_icmp .ne 8, 3, 181, 0, 0, 0, 0)), (176, (.iload 5, 2, 5, 0, 0, 0, 0)), (178, (.goto 16, 3, 194, 0, 0, 0, 0)), (181, (.iload 4, 2, 4, 0, 0, 0, 0)), (183, (.iconst 1, 1, 0, 0, 0, 1, 0)), (184, (.if_icmp .ne 8, 3, 192, 0, 0, 0, 0)), (187, (.bipush (-4), 2, 0, 0, 0, (-4), 0)), (189, (.goto 5, 3, 194, 0, 0, 0, 0))],
  [(192, (.iload 6, 2, 6, 0, 0, 0, 0)), (194, (.ireturn, 1, 0, 0, 0, 0, 0)), (195, (.iinc 6 1, 3, 6, 0, 0, 1, 0)), (198, (.goto (-135), 3, 63, 0, 0, 0, 0)), (201, (.iinc 5 1, 3, 5, 0, 0, 1, 0)), (204, (.goto (-153), 3, 51, 0, 0, 0, 0)), (207, (.iinc 4 1, 3, 4, 0, 0, 1, 0)), (210, (.goto (-168), 3, 42, 0, 0, 0, 0)), (213, (.bipush (-4), 2, 0, 0, 0, (-4), 0)), (215, (.ireturn, 1, 0, 0, 0, 0, 0))]]
def tX7_draw : List (List (Nat × E_)) := [[(0, (.aload_n 0, 1, 0, 0, 0, 0, 0)), (1, (.invokevirtual 327, 3, 189, 7185, 1, 926, 0)), (4, (.ifCond .ne 6, 3, 10, 0, 0, 0, 0)), (7, (.bipush (-4), 2, 0, 0, 0, (-4), 0)), (9, (.ireturn, 1, 0, 0, 0, 0, 0)), (10, (.iload_n 1, 1, 1, 0, 0, 0, 0)), (11, (.ldc_w 348, 3, 0, 1107, 0, (1103515245), 0)), (14, (.imul, 1, 0, 0, 0, 0, 0)), (15, (.sipush 12345, 3, 0, 0, 0, 12345, 0)), (18, (.iadd, 1, 0, 0, 0, 0, 0)), (19, (.bipush 16, 2, 0, 0, 0, 16, 0)), (21, (.ishr, 1, 0, 0, 0, 0, 0)), (22, (.sipush 32767, 3, 0, 0, 0, 32767, 0)), (25, (.iand, 1, 0, 0, 0, 0, 0)), (26, (.aload_n 0, 1, 0, 0, 0, 0, 0)), (27, (.invokevirtual 327, 3, 189, 7185, 1, 926, 0)), (30, (.irem, 1, 0, 0, 0, 0, 0)), (31, (.istore_n 2, 1, 2, 0, 0, 0, 0))],
  [(32, (.iconst 0, 1, 0, 0, 0, 0, 0)), (33, (.istore_n 3, 1, 3, 0, 0, 0, 0)), (34, (.iload_n 2, 1, 2, 0, 0, 0, 0)), (35, (.aload_n 0, 1, 0, 0, 0, 0, 0)), (36, (.getfield 22, 3, 7, 8, 1, 111, 0)), (39, (.iconst 5, 1, 0, 0, 0, 5, 0)), (40, (.iload_n 3, 1, 3, 0, 0, 0, 0)), (41, (.imul, 1, 0, 0, 0, 0, 0)), (42, (.iconst 4, 1, 0, 0, 0, 4, 0)), (43, (.iadd, 1, 0, 0, 0, 0, 0)), (44, (.iaload, 1, 0, 0, 0, 0, 0)), (45, (.if_icmp .lt 22, 3, 67, 0, 0, 0, 0)), (48, (.iload_n 2, 1, 2, 0, 0, 0, 0)), (49, (.aload_n 0, 1, 0, 0, 0, 0, 0)), (50, (.getfield 22, 3, 7, 8, 1, 111, 0)), (53, (.iconst 5, 1, 0, 0, 0, 5, 0)), (54, (.iload_n 3, 1, 3, 0, 0, 0, 0)), (55, (.imul, 1, 0, 0, 0, 0, 0)), (56, (.iconst 4, 1, 0, 0, 0, 4, 0)), (57, (.iadd, 1, 0, 0, 0, 0, 0)), (58, (.iaload, 1, 0, 0, 0, 0, 0)), (59, (.isub, 1, 0, 0, 0, 0, 0)), (60, (.istore_n 2, 1, 2, 0, 0, 0, 0)), (61, (.iinc 3 1, 3, 3, 0, 0, 1, 0))],
  [(64, (.goto (-30), 3, 34, 0, 0, 0, 0)), (67, (.iload_n 3, 1, 3, 0, 0, 0, 0)), (68, (.ireturn, 1, 0, 0, 0, 0, 0))]]
def tX7_keep : List (List (Nat × E_)) := [[(0, (.iload_n 1, 1, 1, 0, 0, 0, 0)), (1, (.i2l, 1, 0, 0, 0, 0, 0)), (2, (.lconst 0, 1, 0, 0, 0, 0, 0)), (3, (.lconst 1, 1, 0, 0, 0, 0, 1)), (4, (.invokestatic 137, 3, 121, 99, 1, 162, 0)), (7, (.ifCond .ne 5, 3, 12, 0, 0, 0, 0)), (10, (.iconst (-1), 1, 0, 0, 0, (-1), 0)), (11, (.ireturn, 1, 0, 0, 0, 0, 0)), (12, (.aload_n 0, 1, 0, 0, 0, 0, 0)), (13, (.getfield 68, 3, 7, 37, 1, 126, 0)), (16, (.iload_n 1, 1, 1, 0, 0, 0, 0)), (17, (.baload, 1, 0, 0, 0, 0, 0)), (18, (.invokestatic 254, 3, 122, 17, 1, 189, 0)), (21, (.istore_n 2, 1, 2, 0, 0, 0, 0)), (22, (.aload_n 0, 1, 0, 0, 0, 0, 0)), (23, (.getfield 68, 3, 7, 37, 1, 126, 0)), (26, (.iload_n 1, 1, 1, 0, 0, 0, 0)), (27, (.iconst 1, 1, 0, 0, 0, 1, 0)), (28, (.bastore, 1, 0, 0, 0, 0, 0)), (29, (.aload_n 0, 1, 0, 0, 0, 0, 0)), (30, (.getfield 71, 3, 7, 38, 1, 127, 0))],
  [(33, (.iconst 3, 1, 0, 0, 0, 3, 0)), (34, (.iload_n 1, 1, 1, 0, 0, 0, 0)), (35, (.imul, 1, 0, 0, 0, 0, 0)), (36, (.aload_n 0, 1, 0, 0, 0, 0, 0)), (37, (.getfield 120, 3, 7, 28, 0, 149, 0)), (40, (.iastore, 1, 0, 0, 0, 0, 0)), (41, (.aload_n 0, 1, 0, 0, 0, 0, 0)), (42, (.getfield 71, 3, 7, 38, 1, 127, 0)), (45, (.iconst 3, 1, 0, 0, 0, 3, 0)), (46, (.iload_n 1, 1, 1, 0, 0, 0, 0)), (47, (.imul, 1, 0, 0, 0, 0, 0)), (48, (.iconst 1, 1, 0, 0, 0, 1, 0)), (49, (.iadd, 1, 0, 0, 0, 0, 0)), (50, (.aload_n 0, 1, 0, 0, 0, 0, 0)), (51, (.getfield 123, 3, 7, 33, 0, 150, 0)), (54, (.iastore, 1, 0, 0, 0, 0, 0)), (55, (.aload_n 0, 1, 0, 0, 0, 0, 0)), (56, (.getfield 71, 3, 7, 38, 1, 127, 0)), (59, (.iconst 3, 1, 0, 0, 0, 3, 0)), (60, (.iload_n 1, 1, 1, 0, 0, 0, 0)), (61, (.imul, 1, 0, 0, 0, 0, 0)), (62, (.iconst 2, 1, 0, 0, 0, 2, 0)), (63, (.iadd, 1, 0, 0, 0, 0, 0))],
  [(64, (.aload_n 0, 1, 0, 0, 0, 0, 0)), (65, (.getfield 126, 3, 7, 34, 0, 151, 0)), (68, (.iastore, 1, 0, 0, 0, 0, 0)), (69, (.iconst 0, 1, 0, 0, 0, 0, 0)), (70, (.istore_n 3, 1, 3, 0, 0, 0, 0)), (71, (.iload_n 3, 1, 3, 0, 0, 0, 0)), (72, (.bipush 72, 2, 0, 0, 0, 72, 0)), (74, (.if_icmp .ge 26, 3, 100, 0, 0, 0, 0)), (77, (.aload_n 0, 1, 0, 0, 0, 0, 0)), (78, (.getfield 74, 3, 7, 39, 1, 128, 0)), (81, (.bipush 72, 2, 0, 0, 0, 72, 0)), (83, (.iload_n 1, 1, 1, 0, 0, 0, 0)), (84, (.imul, 1, 0, 0, 0, 0, 0)), (85, (.iload_n 3, 1, 3, 0, 0, 0, 0)), (86, (.iadd, 1, 0, 0, 0, 0, 0)), (87, (.aload_n 0, 1, 0, 0, 0, 0, 0)), (88, (.getfield 49, 3, 7, 29, 1, 120, 0)), (91, (.iload_n 3, 1, 3, 0, 0, 0, 0)), (92, (.iaload, 1, 0, 0, 0, 0, 0)), (93, (.iastore, 1, 0, 0, 0, 0, 0)), (94, (.iinc 3 1, 3, 3, 0, 0, 1, 0))],
  [(97, (.goto (-26), 3, 71, 0, 0, 0, 0)), (100, (.iconst 0, 1, 0, 0, 0, 0, 0)), (101, (.istore_n 3, 1, 3, 0, 0, 0, 0)), (102, (.iload_n 3, 1, 3, 0, 0, 0, 0)), (103, (.bipush 12, 2, 0, 0, 0, 12, 0)), (105, (.if_icmp .ge 52, 3, 157, 0, 0, 0, 0)), (108, (.aload_n 0, 1, 0, 0, 0, 0, 0)), (109, (.getfield 77, 3, 7, 40, 1, 129, 0)), (112, (.bipush 24, 2, 0, 0, 0, 24, 0)), (114, (.iload_n 1, 1, 1, 0, 0, 0, 0)), (115, (.imul, 1, 0, 0, 0, 0, 0)), (116, (.iconst 2, 1, 0, 0, 0, 2, 0)), (117, (.iload_n 3, 1, 3, 0, 0, 0, 0)), (118, (.imul, 1, 0, 0, 0, 0, 0)), (119, (.iadd, 1, 0, 0, 0, 0, 0)), (120, (.aload_n 0, 1, 0, 0, 0, 0, 0)), (121, (.getfield 61, 3, 7, 35, 1, 124, 0)), (124, (.iload_n 3, 1, 3, 0, 0, 0, 0)), (125, (.iaload, 1, 0, 0, 0, 0, 0)), (126, (.iastore, 1, 0, 0, 0, 0, 0)), (127, (.aload_n 0, 1, 0, 0, 0, 0, 0))],
  [(128, (.getfield 77, 3, 7, 40, 1, 129, 0)), (131, (.bipush 24, 2, 0, 0, 0, 24, 0)), (133, (.iload_n 1, 1, 1, 0, 0, 0, 0)), (134, (.imul, 1, 0, 0, 0, 0, 0)), (135, (.iconst 2, 1, 0, 0, 0, 2, 0)), (136, (.iload_n 3, 1, 3, 0, 0, 0, 0)), (137, (.imul, 1, 0, 0, 0, 0, 0)), (138, (.iadd, 1, 0, 0, 0, 0, 0)), (139, (.iconst 1, 1, 0, 0, 0, 1, 0)), (140, (.iadd, 1, 0, 0, 0, 0, 0)), (141, (.aload_n 0, 1, 0, 0, 0, 0, 0)), (142, (.getfield 64, 3, 7, 36, 1, 125, 0)), (145, (.iload_n 3, 1, 3, 0, 0, 0, 0)), (146, (.baload, 1, 0, 0, 0, 0, 0)), (147, (.invokestatic 254, 3, 122, 17, 1, 189, 0)), (150, (.iastore, 1, 0, 0, 0, 0, 0)), (151, (.iinc 3 1, 3, 3, 0, 0, 1, 0)), (154, (.goto (-52), 3, 102, 0, 0, 0, 0)), (157, (.iload_n 2, 1, 2, 0, 0, 0, 0)), (158, (.ireturn, 1, 0, 0, 0, 0, 0))]]
def tX7_back : List (List (Nat × E_)) := [[(0, (.iload_n 1, 1, 1, 0, 0, 0, 0)), (1, (.i2l, 1, 0, 0, 0, 0, 0)), (2, (.lconst 0, 1, 0, 0, 0, 0, 0)), (3, (.lconst 1, 1, 0, 0, 0, 0, 1)), (4, (.invokestatic 137, 3, 121, 99, 1, 162, 0)), (7, (.ifCond .ne 5, 3, 12, 0, 0, 0, 0)), (10, (.iconst (-1), 1, 0, 0, 0, (-1), 0)), (11, (.ireturn, 1, 0, 0, 0, 0, 0)), (12, (.aload_n 0, 1, 0, 0, 0, 0, 0)), (13, (.getfield 68, 3, 7, 37, 1, 126, 0)), (16, (.iload_n 1, 1, 1, 0, 0, 0, 0)), (17, (.baload, 1, 0, 0, 0, 0, 0)), (18, (.ifCond .ne 6, 3, 24, 0, 0, 0, 0)), (21, (.bipush (-2), 2, 0, 0, 0, (-2), 0)), (23, (.ireturn, 1, 0, 0, 0, 0, 0)), (24, (.aload_n 0, 1, 0, 0, 0, 0, 0)), (25, (.aload_n 0, 1, 0, 0, 0, 0, 0)), (26, (.getfield 71, 3, 7, 38, 1, 127, 0)), (29, (.iconst 3, 1, 0, 0, 0, 3, 0)), (30, (.iload_n 1, 1, 1, 0, 0, 0, 0)), (31, (.imul, 1, 0, 0, 0, 0, 0))],
  [(32, (.iaload, 1, 0, 0, 0, 0, 0)), (33, (.putfield 120, 3, 7, 28, 0, 149, 0)), (36, (.aload_n 0, 1, 0, 0, 0, 0, 0)), (37, (.aload_n 0, 1, 0, 0, 0, 0, 0)), (38, (.getfield 71, 3, 7, 38, 1, 127, 0)), (41, (.iconst 3, 1, 0, 0, 0, 3, 0)), (42, (.iload_n 1, 1, 1, 0, 0, 0, 0)), (43, (.imul, 1, 0, 0, 0, 0, 0)), (44, (.iconst 1, 1, 0, 0, 0, 1, 0)), (45, (.iadd, 1, 0, 0, 0, 0, 0)), (46, (.iaload, 1, 0, 0, 0, 0, 0)), (47, (.putfield 123, 3, 7, 33, 0, 150, 0)), (50, (.aload_n 0, 1, 0, 0, 0, 0, 0)), (51, (.aload_n 0, 1, 0, 0, 0, 0, 0)), (52, (.getfield 71, 3, 7, 38, 1, 127, 0)), (55, (.iconst 3, 1, 0, 0, 0, 3, 0)), (56, (.iload_n 1, 1, 1, 0, 0, 0, 0)), (57, (.imul, 1, 0, 0, 0, 0, 0)), (58, (.iconst 2, 1, 0, 0, 0, 2, 0)), (59, (.iadd, 1, 0, 0, 0, 0, 0)), (60, (.iaload, 1, 0, 0, 0, 0, 0)), (61, (.putfield 126, 3, 7, 34, 0, 151, 0))],
  [(64, (.iconst 0, 1, 0, 0, 0, 0, 0)), (65, (.istore_n 2, 1, 2, 0, 0, 0, 0)), (66, (.iload_n 2, 1, 2, 0, 0, 0, 0)), (67, (.bipush 72, 2, 0, 0, 0, 72, 0)), (69, (.if_icmp .ge 26, 3, 95, 0, 0, 0, 0)), (72, (.aload_n 0, 1, 0, 0, 0, 0, 0)), (73, (.getfield 49, 3, 7, 29, 1, 120, 0)), (76, (.iload_n 2, 1, 2, 0, 0, 0, 0)), (77, (.aload_n 0, 1, 0, 0, 0, 0, 0)), (78, (.getfield 74, 3, 7, 39, 1, 128, 0)), (81, (.bipush 72, 2, 0, 0, 0, 72, 0)), (83, (.iload_n 1, 1, 1, 0, 0, 0, 0)), (84, (.imul, 1, 0, 0, 0, 0, 0)), (85, (.iload_n 2, 1, 2, 0, 0, 0, 0)), (86, (.iadd, 1, 0, 0, 0, 0, 0)), (87, (.iaload, 1, 0, 0, 0, 0, 0)), (88, (.iastore, 1, 0, 0, 0, 0, 0)), (89, (.iinc 2 1, 3, 2, 0, 0, 1, 0)), (92, (.goto (-26), 3, 66, 0, 0, 0, 0)), (95, (.iconst 0, 1, 0, 0, 0, 0, 0))],
  [(96, (.istore_n 2, 1, 2, 0, 0, 0, 0)), (97, (.iload_n 2, 1, 2, 0, 0, 0, 0)), (98, (.bipush 12, 2, 0, 0, 0, 12, 0)), (100, (.if_icmp .ge 58, 3, 158, 0, 0, 0, 0)), (103, (.aload_n 0, 1, 0, 0, 0, 0, 0)), (104, (.getfield 61, 3, 7, 35, 1, 124, 0)), (107, (.iload_n 2, 1, 2, 0, 0, 0, 0)), (108, (.aload_n 0, 1, 0, 0, 0, 0, 0)), (109, (.getfield 77, 3, 7, 40, 1, 129, 0)), (112, (.bipush 24, 2, 0, 0, 0, 24, 0)), (114, (.iload_n 1, 1, 1, 0, 0, 0, 0)), (115, (.imul, 1, 0, 0, 0, 0, 0)), (116, (.iconst 2, 1, 0, 0, 0, 2, 0)), (117, (.iload_n 2, 1, 2, 0, 0, 0, 0)), (118, (.imul, 1, 0, 0, 0, 0, 0)), (119, (.iadd, 1, 0, 0, 0, 0, 0)), (120, (.iaload, 1, 0, 0, 0, 0, 0)), (121, (.iastore, 1, 0, 0, 0, 0, 0)), (122, (.aload_n 0, 1, 0, 0, 0, 0, 0)), (123, (.getfield 64, 3, 7, 36, 1, 125, 0)), (126, (.iload_n 2, 1, 2, 0, 0, 0, 0)), (127, (.aload_n 0, 1, 0, 0, 0, 0, 0))],
  [(128, (.getfield 77, 3, 7, 40, 1, 129, 0)), (131, (.bipush 24, 2, 0, 0, 0, 24, 0)), (133, (.iload_n 1, 1, 1, 0, 0, 0, 0)), (134, (.imul, 1, 0, 0, 0, 0, 0)), (135, (.iconst 2, 1, 0, 0, 0, 2, 0)), (136, (.iload_n 2, 1, 2, 0, 0, 0, 0)), (137, (.imul, 1, 0, 0, 0, 0, 0)), (138, (.iadd, 1, 0, 0, 0, 0, 0)), (139, (.iconst 1, 1, 0, 0, 0, 1, 0)), (140, (.iadd, 1, 0, 0, 0, 0, 0)), (141, (.iaload, 1, 0, 0, 0, 0, 0)), (142, (.iconst 1, 1, 0, 0, 0, 1, 0)), (143, (.if_icmp .ne 7, 3, 150, 0, 0, 0, 0)), (146, (.iconst 1, 1, 0, 0, 0, 1, 0)), (147, (.goto 4, 3, 151, 0, 0, 0, 0)), (150, (.iconst 0, 1, 0, 0, 0, 0, 0)), (151, (.bastore, 1, 0, 0, 0, 0, 0)), (152, (.iinc 2 1, 3, 2, 0, 0, 1, 0)), (155, (.goto (-58), 3, 97, 0, 0, 0, 0)), (158, (.aload_n 0, 1, 0, 0, 0, 0, 0)), (159, (.invokevirtual 129, 3, 162, 7201, 0, 152, 0))],
  [(162, (.aload_n 0, 1, 0, 0, 0, 0, 0)), (163, (.getfield 120, 3, 7, 28, 0, 149, 0)), (166, (.ireturn, 1, 0, 0, 0, 0, 0))]]
def tX7_isSheet : List (List (Nat × E_)) := [[(0, (.iload_n 0, 1, 0, 0, 0, 0, 0)), (1, (.i2l, 1, 0, 0, 0, 0, 0)), (2, (.lconst 0, 1, 0, 0, 0, 0, 0)), (3, (.ldc2_w 206, 3, 0, 457, 0, 0, (3))), (6, (.invokestatic 137, 3, 121, 99, 1, 162, 0)), (9, (.ifCond .eq 19, 3, 28, 0, 0, 0, 0)), (12, (.iload_n 1, 1, 1, 0, 0, 0, 0)), (13, (.i2l, 1, 0, 0, 0, 0, 0)), (14, (.lconst 0, 1, 0, 0, 0, 0, 0)), (15, (.ldc2_w 290, 3, 0, 700, 0, 0, (2))), (18, (.invokestatic 137, 3, 121, 99, 1, 162, 0)), (21, (.ifCond .eq 7, 3, 28, 0, 0, 0, 0)), (24, (.iconst 1, 1, 0, 0, 0, 1, 0)), (25, (.goto 4, 3, 29, 0, 0, 0, 0)), (28, (.iconst 0, 1, 0, 0, 0, 0, 0)), (29, (.ireturn, 1, 0, 0, 1, 0, 0))]]
def tX7_sheet : List (List (Nat × E_)) := [[(0, (.iload_n 1, 1, 1, 0, 0, 0, 0)), (1, (.iload_n 2, 1, 2, 0, 0, 0, 0)), (2, (.invokestatic 349, 3, 211, 34, 1, 1141, 0)), (5, (.ifCond .eq 9, 3, 14, 0, 0, 0, 0)), (8, (.iload_n 3, 1, 3, 0, 0, 0, 0)), (9, (.bipush 40, 2, 0, 0, 0, 40, 0)), (11, (.if_icmp .le 5, 3, 16, 0, 0, 0, 0)), (14, (.iconst (-1), 1, 0, 0, 0, (-1), 0)), (15, (.ireturn, 1, 0, 0, 0, 0, 0)), (16, (.iload_n 3, 1, 3, 0, 0, 0, 0)), (17, (.ifCond .ge 6, 3, 23, 0, 0, 0, 0)), (20, (.bipush (-14), 2, 0, 0, 0, (-14), 0)), (22, (.ireturn, 1, 0, 0, 0, 0, 0)), (23, (.aload_n 0, 1, 0, 0, 0, 0, 0)), (24, (.getfield 80, 3, 7, 41, 1, 130, 0)), (27, (.iload_n 1, 1, 1, 0, 0, 0, 0)), (28, (.iload_n 2, 1, 2, 0, 0, 0, 0)), (29, (.iastore, 1, 0, 0, 0, 0, 0)), (30, (.aload_n 0, 1, 0, 0, 0, 0, 0)), (31, (.getfield 83, 3, 7, 42, 1, 131, 0))],
  [(34, (.iload_n 1, 1, 1, 0, 0, 0, 0)), (35, (.iload_n 3, 1, 3, 0, 0, 0, 0)), (36, (.iastore, 1, 0, 0, 0, 0, 0)), (37, (.iconst 0, 1, 0, 0, 0, 0, 0)), (38, (.istore 4, 2, 4, 0, 0, 0, 0)), (40, (.iload 4, 2, 4, 0, 0, 0, 0)), (42, (.bipush 40, 2, 0, 0, 0, 40, 0)), (44, (.if_icmp .ge 22, 3, 66, 0, 0, 0, 0)), (47, (.aload_n 0, 1, 0, 0, 0, 0, 0)), (48, (.getfield 86, 3, 7, 43, 1, 132, 0)), (51, (.bipush 40, 2, 0, 0, 0, 40, 0)), (53, (.iload_n 1, 1, 1, 0, 0, 0, 0)), (54, (.imul, 1, 0, 0, 0, 0, 0)), (55, (.iload 4, 2, 4, 0, 0, 0, 0)), (57, (.iadd, 1, 0, 0, 0, 0, 0)), (58, (.iconst 0, 1, 0, 0, 0, 0, 0)), (59, (.iastore, 1, 0, 0, 0, 0, 0)), (60, (.iinc 4 1, 3, 4, 0, 0, 1, 0)), (63, (.goto (-23), 3, 40, 0, 0, 0, 0))],
  [(66, (.iconst 1, 1, 0, 0, 0, 1, 0)), (67, (.ireturn, 1, 0, 0, 0, 0, 0))]]
def tX7_lay : List (List (Nat × E_)) := [[(0, (.iload_n 1, 1, 1, 0, 0, 0, 0)), (1, (.iconst 0, 1, 0, 0, 0, 0, 0)), (2, (.invokestatic 349, 3, 211, 34, 1, 1141, 0)), (5, (.ifCond .ne 5, 3, 10, 0, 0, 0, 0)), (8, (.iconst (-1), 1, 0, 0, 0, (-1), 0)), (9, (.ireturn, 1, 0, 0, 0, 0, 0)), (10, (.aload_n 0, 1, 0, 0, 0, 0, 0)), (11, (.getfield 80, 3, 7, 41, 1, 130, 0)), (14, (.iload_n 1, 1, 1, 0, 0, 0, 0)), (15, (.iaload, 1, 0, 0, 0, 0, 0)), (16, (.bipush (-4), 2, 0, 0, 0, (-4), 0)), (18, (.if_icmp .ne 6, 3, 24, 0, 0, 0, 0)), (21, (.bipush (-11), 2, 0, 0, 0, (-11), 0)), (23, (.ireturn, 1, 0, 0, 0, 0, 0)), (24, (.iload_n 2, 1, 2, 0, 0, 0, 0)), (25, (.i2l, 1, 0, 0, 0, 0, 0)), (26, (.lconst 0, 1, 0, 0, 0, 0, 0)), (27, (.aload_n 0, 1, 0, 0, 0, 0, 0)), (28, (.getfield 83, 3, 7, 42, 1, 131, 0)), (31, (.iload_n 1, 1, 1, 0, 0, 0, 0))],
  [(32, (.iaload, 1, 0, 0, 0, 0, 0)), (33, (.iconst 1, 1, 0, 0, 0, 1, 0)), (34, (.isub, 1, 0, 0, 0, 0, 0)), (35, (.i2l, 1, 0, 0, 0, 0, 0)), (36, (.invokestatic 137, 3, 121, 99, 1, 162, 0)), (39, (.ifCond .ne 6, 3, 45, 0, 0, 0, 0)), (42, (.bipush (-12), 2, 0, 0, 0, (-12), 0)), (44, (.ireturn, 1, 0, 0, 0, 0, 0)), (45, (.aload_n 0, 1, 0, 0, 0, 0, 0)), (46, (.getfield 86, 3, 7, 43, 1, 132, 0)), (49, (.bipush 40, 2, 0, 0, 0, 40, 0)), (51, (.iload_n 1, 1, 1, 0, 0, 0, 0)), (52, (.imul, 1, 0, 0, 0, 0, 0)), (53, (.iload_n 2, 1, 2, 0, 0, 0, 0)), (54, (.iadd, 1, 0, 0, 0, 0, 0)), (55, (.aload_n 0, 1, 0, 0, 0, 0, 0)), (56, (.getfield 80, 3, 7, 41, 1, 130, 0)), (59, (.iload_n 1, 1, 1, 0, 0, 0, 0)), (60, (.iaload, 1, 0, 0, 0, 0, 0)), (61, (.ifCond .ne 8, 3, 69, 0, 0, 0, 0))],
  [(64, (.iload_n 3, 1, 3, 0, 0, 0, 0)), (65, (.i2b, 1, 0, 0, 0, 0, 0)), (66, (.goto 19, 3, 85, 0, 0, 0, 0)), (69, (.aload_n 0, 1, 0, 0, 0, 0, 0)), (70, (.getfield 80, 3, 7, 41, 1, 130, 0)), (73, (.iload_n 1, 1, 1, 0, 0, 0, 0)), (74, (.iaload, 1, 0, 0, 0, 0, 0)), (75, (.iconst 1, 1, 0, 0, 0, 1, 0)), (76, (.if_icmp .ne 8, 3, 84, 0, 0, 0, 0)), (79, (.iload_n 3, 1, 3, 0, 0, 0, 0)), (80, (.i2s, 1, 0, 0, 0, 0, 0)), (81, (.goto 4, 3, 85, 0, 0, 0, 0)), (84, (.iload_n 3, 1, 3, 0, 0, 0, 0)), (85, (.iastore, 1, 0, 0, 0, 0, 0)), (86, (.iconst 1, 1, 0, 0, 0, 1, 0)), (87, (.ireturn, 1, 0, 0, 0, 0, 0))]]
def tX7_read : List (List (Nat × E_)) := [[(0, (.iload_n 1, 1, 1, 0, 0, 0, 0)), (1, (.iload_n 2, 1, 2, 0, 0, 0, 0)), (2, (.invokestatic 349, 3, 211, 34, 1, 1141, 0)), (5, (.ifCond .eq 16, 3, 21, 0, 0, 0, 0)), (8, (.iload 4, 2, 4, 0, 0, 0, 0)), (10, (.i2l, 1, 0, 0, 0, 0, 0)), (11, (.lconst 0, 1, 0, 0, 0, 0, 0)), (12, (.ldc2_w 352, 3, 0, 1182, 0, 0, (13))), (15, (.invokestatic 137, 3, 121, 99, 1, 162, 0)), (18, (.ifCond .ne 5, 3, 23, 0, 0, 0, 0)), (21, (.iconst (-1), 1, 0, 0, 0, (-1), 0)), (22, (.ireturn, 1, 0, 0, 0, 0, 0)), (23, (.iconst 0, 1, 0, 0, 0, 0, 0)), (24, (.istore 5, 2, 5, 0, 0, 0, 0)), (26, (.iconst 0, 1, 0, 0, 0, 0, 0)), (27, (.istore 6, 2, 6, 0, 0, 0, 0)), (29, (.iconst 0, 1, 0, 0, 0, 0, 0)), (30, (.istore 7, 2, 7, 0, 0, 0, 0))],
  [(32, (.iload 7, 2, 7, 0, 0, 0, 0)), (34, (.iload 4, 2, 4, 0, 0, 0, 0)), (36, (.if_icmp .ge 194, 3, 230, 0, 0, 0, 0)), (39, (.iload 5, 2, 5, 0, 0, 0, 0)), (41, (.ifCond .ne 189, 3, 230, 0, 0, 0, 0)), (44, (.iconst 0, 1, 0, 0, 0, 0, 0)), (45, (.istore 8, 2, 8, 0, 0, 0, 0)), (47, (.iload 8, 2, 8, 0, 0, 0, 0)), (49, (.iconst 3, 1, 0, 0, 0, 3, 0)), (50, (.if_icmp .ge 84, 3, 134, 0, 0, 0, 0)), (53, (.iload 5, 2, 5, 0, 0, 0, 0)), (55, (.ifCond .ne 79, 3, 134, 0, 0, 0, 0)), (58, (.iload_n 3, 1, 3, 0, 0, 0, 0)), (59, (.i2l, 1, 0, 0, 0, 0, 0)), (60, (.iconst 3, 1, 0, 0, 0, 3, 0)), (61, (.iload 7, 2, 7, 0, 0, 0, 0)), (63, (.imul, 1, 0, 0, 0, 0, 0))],
  [(64, (.i2l, 1, 0, 0, 0, 0, 0)), (65, (.ladd, 1, 0, 0, 0, 0, 0)), (66, (.iload 8, 2, 8, 0, 0, 0, 0)), (68, (.i2l, 1, 0, 0, 0, 0, 0)), (69, (.ladd, 1, 0, 0, 0, 0, 0)), (70, (.lstore 9, 2, 9, 0, 0, 0, 0)), (72, (.aload_n 0, 1, 0, 0, 0, 0, 0)), (73, (.getfield 80, 3, 7, 41, 1, 130, 0)), (76, (.iload_n 1, 1, 1, 0, 0, 0, 0)), (77, (.iaload, 1, 0, 0, 0, 0, 0)), (78, (.bipush (-4), 2, 0, 0, 0, (-4), 0)), (80, (.if_icmp .ne 7, 3, 87, 0, 0, 0, 0)), (83, (.iconst 1, 1, 0, 0, 0, 1, 0)), (84, (.goto 42, 3, 126, 0, 0, 0, 0)), (87, (.aload_n 0, 1, 0, 0, 0, 0, 0)), (88, (.getfield 80, 3, 7, 41, 1, 130, 0)), (91, (.iload_n 1, 1, 1, 0, 0, 0, 0)), (92, (.iaload, 1, 0, 0, 0, 0, 0)), (93, (.iload_n 2, 1, 2, 0, 0, 0, 0)), (94, (.if_icmp .eq 7, 3, 101, 0, 0, 0, 0))],
  [(97, (.iconst 3, 1, 0, 0, 0, 3, 0)), (98, (.goto 28, 3, 126, 0, 0, 0, 0)), (101, (.lload 9, 2, 9, 0, 0, 0, 0)), (103, (.lconst 0, 1, 0, 0, 0, 0, 0)), (104, (.lcmp, 1, 0, 0, 0, 0, 0)), (105, (.ifCond .lt 16, 3, 121, 0, 0, 0, 0)), (108, (.lload 9, 2, 9, 0, 0, 0, 0)), (110, (.aload_n 0, 1, 0, 0, 0, 0, 0)), (111, (.getfield 83, 3, 7, 42, 1, 131, 0)), (114, (.iload_n 1, 1, 1, 0, 0, 0, 0)), (115, (.iaload, 1, 0, 0, 0, 0, 0)), (116, (.i2l, 1, 0, 0, 0, 0, 0)), (117, (.lcmp, 1, 0, 0, 0, 0, 0)), (118, (.ifCond .lt 7, 3, 125, 0, 0, 0, 0)), (121, (.iconst 2, 1, 0, 0, 0, 2, 0)), (122, (.goto 4, 3, 126, 0, 0, 0, 0)), (125, (.iconst 0, 1, 0, 0, 0, 0, 0)), (126, (.istore 5, 2, 5, 0, 0, 0, 0))],
  [(128, (.iinc 8 1, 3, 8, 0, 0, 1, 0)), (131, (.goto (-84), 3, 47, 0, 0, 0, 0)), (134, (.iload 5, 2, 5, 0, 0, 0, 0)), (136, (.ifCond .ne 88, 3, 224, 0, 0, 0, 0)), (139, (.bipush 40, 2, 0, 0, 0, 40, 0)), (141, (.iload_n 1, 1, 1, 0, 0, 0, 0)), (142, (.imul, 1, 0, 0, 0, 0, 0)), (143, (.iload_n 3, 1, 3, 0, 0, 0, 0)), (144, (.iadd, 1, 0, 0, 0, 0, 0)), (145, (.iconst 3, 1, 0, 0, 0, 3, 0)), (146, (.iload 7, 2, 7, 0, 0, 0, 0)), (148, (.imul, 1, 0, 0, 0, 0, 0)), (149, (.iadd, 1, 0, 0, 0, 0, 0)), (150, (.istore 8, 2, 8, 0, 0, 0, 0)), (152, (.aload_n 0, 1, 0, 0, 0, 0, 0)), (153, (.aload_n 0, 1, 0, 0, 0, 0, 0)), (154, (.getfield 86, 3, 7, 43, 1, 132, 0)), (157, (.iload 8, 2, 8, 0, 0, 0, 0)), (159, (.iaload, 1, 0, 0, 0, 0, 0))],
  [(160, (.invokevirtual 237, 3, 143, 7202, 1, 553, 0)), (163, (.ifCond .eq 37, 3, 200, 0, 0, 0, 0)), (166, (.aload_n 0, 1, 0, 0, 0, 0, 0)), (167, (.aload_n 0, 1, 0, 0, 0, 0, 0)), (168, (.getfield 86, 3, 7, 43, 1, 132, 0)), (171, (.iload 8, 2, 8, 0, 0, 0, 0)), (173, (.iconst 1, 1, 0, 0, 0, 1, 0)), (174, (.iadd, 1, 0, 0, 0, 0, 0)), (175, (.iaload, 1, 0, 0, 0, 0, 0)), (176, (.invokevirtual 225, 3, 142, 7202, 1, 516, 0)), (179, (.ifCond .eq 21, 3, 200, 0, 0, 0, 0)), (182, (.aload_n 0, 1, 0, 0, 0, 0, 0)), (183, (.getfield 86, 3, 7, 43, 1, 132, 0)), (186, (.iload 8, 2, 8, 0, 0, 0, 0)), (188, (.iconst 2, 1, 0, 0, 0, 2, 0)), (189, (.iadd, 1, 0, 0, 0, 0, 0)), (190, (.iaload, 1, 0, 0, 0, 0, 0)), (191, (.i2l, 1, 0, 0, 0, 0, 0))],
  [(192, (.lconst 0, 1, 0, 0, 0, 0, 0)), (193, (.lconst 1, 1, 0, 0, 0, 0, 1)), (194, (.invokestatic 137, 3, 121, 99, 1, 162, 0)), (197, (.ifCond .ne 9, 3, 206, 0, 0, 0, 0)), (200, (.bipush (-20), 2, 0, 0, 0, (-20), 0)), (202, (.iload 7, 2, 7, 0, 0, 0, 0)), (204, (.isub, 1, 0, 0, 0, 0, 0)), (205, (.ireturn, 1, 0, 0, 0, 0, 0)), (206, (.aload_n 0, 1, 0, 0, 0, 0, 0)), (207, (.getfield 120, 3, 7, 28, 0, 149, 0)), (210, (.iload 6, 2, 6, 0, 0, 0, 0)), (212, (.iadd, 1, 0, 0, 0, 0, 0)), (213, (.bipush 24, 2, 0, 0, 0, 24, 0)), (215, (.if_icmp .ne 6, 3, 221, 0, 0, 0, 0)), (218, (.bipush (-3), 2, 0, 0, 0, (-3), 0)), (220, (.ireturn, 1, 0, 0, 0, 0, 0)), (221, (.iinc 6 1, 3, 6, 0, 0, 1, 0))],
  [(224, (.iinc 7 1, 3, 7, 0, 0, 1, 0)), (227, (.goto (-195), 3, 32, 0, 0, 0, 0)), (230, (.aload_n 0, 1, 0, 0, 0, 0, 0)), (231, (.iload 5, 2, 5, 0, 0, 0, 0)), (233, (.putfield 354, 3, 7, 44, 0, 1183, 0)), (236, (.iconst 0, 1, 0, 0, 0, 0, 0)), (237, (.istore 7, 2, 7, 0, 0, 0, 0)), (239, (.iload 7, 2, 7, 0, 0, 0, 0)), (241, (.iload 6, 2, 6, 0, 0, 0, 0)), (243, (.if_icmp .ge 61, 3, 304, 0, 0, 0, 0)), (246, (.bipush 40, 2, 0, 0, 0, 40, 0)), (248, (.iload_n 1, 1, 1, 0, 0, 0, 0)), (249, (.imul, 1, 0, 0, 0, 0, 0)), (250, (.iload_n 3, 1, 3, 0, 0, 0, 0)), (251, (.iadd, 1, 0, 0, 0, 0, 0)), (252, (.iconst 3, 1, 0, 0, 0, 3, 0)), (253, (.iload 7, 2, 7, 0, 0, 0, 0)), (255, (.imul, 1, 0, 0, 0, 0, 0))],
  [(256, (.iadd, 1, 0, 0, 0, 0, 0)), (257, (.istore 8, 2, 8, 0, 0, 0, 0)), (259, (.aload_n 0, 1, 0, 0, 0, 0, 0)), (260, (.aload_n 0, 1, 0, 0, 0, 0, 0)), (261, (.getfield 86, 3, 7, 43, 1, 132, 0)), (264, (.iload 8, 2, 8, 0, 0, 0, 0)), (266, (.iaload, 1, 0, 0, 0, 0, 0)), (267, (.aload_n 0, 1, 0, 0, 0, 0, 0)), (268, (.getfield 86, 3, 7, 43, 1, 132, 0)), (271, (.iload 8, 2, 8, 0, 0, 0, 0)), (273, (.iconst 1, 1, 0, 0, 0, 1, 0)), (274, (.iadd, 1, 0, 0, 0, 0, 0)), (275, (.iaload, 1, 0, 0, 0, 0, 0)), (276, (.aload_n 0, 1, 0, 0, 0, 0, 0)), (277, (.getfield 86, 3, 7, 43, 1, 132, 0)), (280, (.iload 8, 2, 8, 0, 0, 0, 0)), (282, (.iconst 2, 1, 0, 0, 0, 2, 0)), (283, (.iadd, 1, 0, 0, 0, 0, 0)), (284, (.iaload, 1, 0, 0, 0, 0, 0)), (285, (.iconst 1, 1, 0, 0, 0, 1, 0)), (286, (.if_icmp .ne 7, 3, 293, 0, 0, 0, 0))],
  [(289, (.iconst 1, 1, 0, 0, 0, 1, 0)), (290, (.goto 4, 3, 294, 0, 0, 0, 0)), (293, (.iconst 0, 1, 0, 0, 0, 0, 0)), (294, (.invokevirtual 282, 3, 163, 7236, 1, 640, 0)), (297, (.pop, 1, 0, 0, 0, 0, 0)), (298, (.iinc 7 1, 3, 7, 0, 0, 1, 0)), (301, (.goto (-62), 3, 239, 0, 0, 0, 0)), (304, (.iload 6, 2, 6, 0, 0, 0, 0)), (306, (.ireturn, 1, 0, 0, 0, 0, 0))]]
def tX7_torn : List (List (Nat × E_)) := [[(0, (.aload_n 0, 1, 0, 0, 0, 0, 0)), (1, (.getfield 354, 3, 7, 44, 0, 1183, 0)), (4, (.ireturn, 1, 0, 0, 0, 0, 0))]]
def tX7_count : List (List (Nat × E_)) := [[(0, (.iload_n 1, 1, 1, 0, 0, 0, 0)), (1, (.tableswitch 129 0 8 #[51, 56, 61, 66, 71, 76, 81, 101, 106], 51, 9, 0, 0, 0, 0))],
  [(52, (.aload_n 0, 1, 0, 0, 0, 0, 0)), (53, (.getfield 108, 3, 7, 0, 0, 145, 0)), (56, (.ireturn, 1, 0, 0, 0, 0, 0)), (57, (.aload_n 0, 1, 0, 0, 0, 0, 0)), (58, (.getfield 111, 3, 7, 2, 0, 146, 0)), (61, (.ireturn, 1, 0, 0, 0, 0, 0)), (62, (.aload_n 0, 1, 0, 0, 0, 0, 0)), (63, (.getfield 114, 3, 7, 5, 0, 147, 0))],
  [(66, (.ireturn, 1, 0, 0, 0, 0, 0)), (67, (.aload_n 0, 1, 0, 0, 0, 0, 0)), (68, (.getfield 117, 3, 7, 7, 0, 148, 0)), (71, (.ireturn, 1, 0, 0, 0, 0, 0)), (72, (.aload_n 0, 1, 0, 0, 0, 0, 0)), (73, (.getfield 120, 3, 7, 28, 0, 149, 0)), (76, (.ireturn, 1, 0, 0, 0, 0, 0)), (77, (.aload_n 0, 1, 0, 0, 0, 0, 0)), (78, (.getfield 126, 3, 7, 34, 0, 151, 0)), (81, (.ireturn, 1, 0, 0, 0, 0, 0)), (82, (.aload_n 0, 1, 0, 0, 0, 0, 0)), (83, (.getfield 68, 3, 7, 37, 1, 126, 0)), (86, (.iconst 0, 1, 0, 0, 0, 0, 0)), (87, (.baload, 1, 0, 0, 0, 0, 0)), (88, (.invokestatic 254, 3, 122, 17, 1, 189, 0)), (91, (.aload_n 0, 1, 0, 0, 0, 0, 0)), (92, (.getfield 68, 3, 7, 37, 1, 126, 0)), (95, (.iconst 1, 1, 0, 0, 0, 1, 0))],
  [(96, (.baload, 1, 0, 0, 0, 0, 0)), (97, (.invokestatic 254, 3, 122, 17, 1, 189, 0)), (100, (.iadd, 1, 0, 0, 0, 0, 0)), (101, (.ireturn, 1, 0, 0, 0, 0, 0)), (102, (.aload_n 0, 1, 0, 0, 0, 0, 0)), (103, (.getfield 132, 3, 7, 20, 0, 225, 0)), (106, (.ireturn, 1, 0, 0, 0, 0, 0)), (107, (.aload_n 0, 1, 0, 0, 0, 0, 0)), (108, (.getfield 80, 3, 7, 41, 1, 130, 0)), (111, (.iconst 0, 1, 0, 0, 0, 0, 0)), (112, (.iaload, 1, 0, 0, 0, 0, 0)), (113, (.bipush (-4), 2, 0, 0, 0, (-4), 0)), (115, (.if_icmp .ne 8, 3, 123, 0, 0, 0, 0)), (118, (.bipush (-4), 2, 0, 0, 0, (-4), 0)), (120, (.goto 9, 3, 129, 0, 0, 0, 0)), (123, (.aload_n 0, 1, 0, 0, 0, 0, 0)), (124, (.getfield 83, 3, 7, 42, 1, 131, 0)), (127, (.iconst 0, 1, 0, 0, 0, 0, 0))],
  [(128, (.iaload, 1, 0, 0, 0, 0, 0)), (129, (.ireturn, 1, 0, 0, 0, 0, 0)), (130, (.iconst (-1), 1, 0, 0, 0, (-1), 0)), (131, (.ireturn, 1, 0, 0, 0, 0, 0))]]
def tJ6_bitCount_0f7a4 : List (List (Nat × E_)) := [[(0, (.iload_n 0, 1, 0, 0, 0, 0, 0)), (1, (.iload_n 0, 1, 0, 0, 0, 0, 0)), (2, (.iconst 1, 1, 0, 0, 0, 1, 0)), (3, (.iushr, 1, 0, 0, 0, 0, 0)), (4, (.ldc_w 265, 3, 0, 366, 0, 1431655765, 0)), (7, (.iand, 1, 0, 0, 0, 0, 0)), (8, (.isub, 1, 0, 0, 0, 0, 0)), (9, (.istore_n 0, 1, 0, 0, 0, 0, 0)), (10, (.iload_n 0, 1, 0, 0, 0, 0, 0)), (11, (.ldc_w 266, 3, 0, 367, 0, 858993459, 0)), (14, (.iand, 1, 0, 0, 0, 0, 0)), (15, (.iload_n 0, 1, 0, 0, 0, 0, 0)), (16, (.iconst 2, 1, 0, 0, 0, 2, 0)), (17, (.iushr, 1, 0, 0, 0, 0, 0)), (18, (.ldc_w 266, 3, 0, 367, 0, 858993459, 0)), (21, (.iand, 1, 0, 0, 0, 0, 0)), (22, (.iadd, 1, 0, 0, 0, 0, 0)), (23, (.istore_n 0, 1, 0, 0, 0, 0, 0)), (24, (.iload_n 0, 1, 0, 0, 0, 0, 0)), (25, (.iload_n 0, 1, 0, 0, 0, 0, 0)), (26, (.iconst 4, 1, 0, 0, 0, 4, 0)), (27, (.iushr, 1, 0, 0, 0, 0, 0)), (28, (.iadd, 1, 0, 0, 0, 0, 0)), (29, (.ldc_w 267, 3, 0, 368, 0, 252645135, 0))],
  [(32, (.iand, 1, 0, 0, 0, 0, 0)), (33, (.istore_n 0, 1, 0, 0, 0, 0, 0)), (34, (.iload_n 0, 1, 0, 0, 0, 0, 0)), (35, (.iload_n 0, 1, 0, 0, 0, 0, 0)), (36, (.bipush 8, 2, 0, 0, 0, 8, 0)), (38, (.iushr, 1, 0, 0, 0, 0, 0)), (39, (.iadd, 1, 0, 0, 0, 0, 0)), (40, (.istore_n 0, 1, 0, 0, 0, 0, 0)), (41, (.iload_n 0, 1, 0, 0, 0, 0, 0)), (42, (.iload_n 0, 1, 0, 0, 0, 0, 0)), (43, (.bipush 16, 2, 0, 0, 0, 16, 0)), (45, (.iushr, 1, 0, 0, 0, 0, 0)), (46, (.iadd, 1, 0, 0, 0, 0, 0)), (47, (.istore_n 0, 1, 0, 0, 0, 0, 0)), (48, (.iload_n 0, 1, 0, 0, 0, 0, 0)), (49, (.bipush 63, 2, 0, 0, 0, 63, 0)), (51, (.iand, 1, 0, 0, 0, 0, 0)), (52, (.ireturn, 1, 0, 0, 0, 0, 0))]]
def tL_law : List (List (Nat × E_)) := [[(16, (.iconst 0, 1, 0, 0, 0, 0, 0)), (17, (.istore_n 3, 1, 3, 0, 0, 0, 0)), (18, (.iload_n 3, 1, 3, 0, 0, 0, 0)), (19, (.aload_n 0, 1, 0, 0, 0, 0, 0)), (20, (.arraylength, 1, 0, 0, 0, 0, 0)), (21, (.iconst 5, 1, 0, 0, 0, 5, 0)), (22, (.isub, 1, 0, 0, 0, 0, 0)), (23, (.if_icmp .gt 1467, 3, 1490, 0, 0, 0, 0)), (26, (.aload_n 0, 1, 0, 0, 0, 0, 0)), (27, (.iload_n 3, 1, 3, 0, 0, 0, 0)), (28, (.iaload, 1, 0, 0, 0, 0, 0)), (29, (.bipush 63, 2, 0, 0, 0, 63, 0)), (31, (.iand, 1, 0, 0, 0, 0, 0))],
  [(32, (.tableswitch 1452 0 41 #[184, 237, 260, 273, 286, 309, 342, 365, 398, 457, 490, 503, 516, 549, 582, 615, 648, 671, 704, 727, 770, 803, 836, 869, 892, 935, 978, 1001, 1024, 1057, 1090, 1139, 1152, 1175, 1208, 1231, 1254, 1277, 1320, 1363, 1416, 1429], 184, 10, 0, 0, 0, 0))],
  [],
  [],
  [],
  [],
  [(216, (.aload_n 1, 1, 1, 0, 0, 0, 0)), (217, (.aload_n 0, 1, 0, 0, 0, 0, 0)), (218, (.iload_n 3, 1, 3, 0, 0, 0, 0)), (219, (.iconst 1, 1, 0, 0, 0, 1, 0)), (220, (.iadd, 1, 0, 0, 0, 0, 0)), (221, (.iaload, 1, 0, 0, 0, 0, 0)), (222, (.i2l, 1, 0, 0, 0, 0, 0)), (223, (.bipush 32, 2, 0, 0, 0, 32, 0))],
  [(225, (.lshl, 1, 0, 0, 0, 0, 0)), (226, (.aload_n 0, 1, 0, 0, 0, 0, 0)), (227, (.iload_n 3, 1, 3, 0, 0, 0, 0)), (228, (.iconst 2, 1, 0, 0, 0, 2, 0)), (229, (.iadd, 1, 0, 0, 0, 0, 0)), (230, (.iaload, 1, 0, 0, 0, 0, 0)), (231, (.i2l, 1, 0, 0, 0, 0, 0)), (232, (.ldc2_w 13, 3, 0, 6, 0, 0, (4294967295))), (235, (.land, 1, 0, 0, 0, 0, 0)), (236, (.lor, 1, 0, 0, 0, 0, 0)), (237, (.invokevirtual 15, 3, 67, 6210, 1, 211, 0)), (240, (.aload_n 2, 1, 2, 0, 0, 0, 0)), (241, (.aload_n 0, 1, 0, 0, 0, 0, 0)), (242, (.iload_n 3, 1, 3, 0, 0, 0, 0)), (243, (.iconst 1, 1, 0, 0, 0, 1, 0)), (244, (.iadd, 1, 0, 0, 0, 0, 0)), (245, (.iaload, 1, 0, 0, 0, 0, 0)), (246, (.i2l, 1, 0, 0, 0, 0, 0)), (247, (.bipush 32, 2, 0, 0, 0, 32, 0)), (249, (.lshl, 1, 0, 0, 0, 0, 0)), (250, (.aload_n 0, 1, 0, 0, 0, 0, 0)), (251, (.iload_n 3, 1, 3, 0, 0, 0, 0)), (252, (.iconst 2, 1, 0, 0, 0, 2, 0)), (253, (.iadd, 1, 0, 0, 0, 0, 0)), (254, (.iaload, 1, 0, 0, 0, 0, 0)), (255, (.i2l, 1, 0, 0, 0, 0, 0))],
  [(256, (.ldc2_w 13, 3, 0, 6, 0, 0, (4294967295))), (259, (.land, 1, 0, 0, 0, 0, 0)), (260, (.lor, 1, 0, 0, 0, 0, 0)), (261, (.invokevirtual 19, 3, 126, 7234, 1, 221, 0)), (264, (.if_icmp .eq 1220, 3, 1484, 0, 0, 0, 0)), (267, (.iconst 0, 1, 0, 0, 0, 0, 0)), (268, (.ireturn, 1, 0, 0, 0, 0, 0)), (269, (.aload_n 1, 1, 1, 0, 0, 0, 0)), (270, (.aload_n 0, 1, 0, 0, 0, 0, 0)), (271, (.iload_n 3, 1, 3, 0, 0, 0, 0)), (272, (.iconst 1, 1, 0, 0, 0, 1, 0)), (273, (.iadd, 1, 0, 0, 0, 0, 0)), (274, (.iaload, 1, 0, 0, 0, 0, 0)), (275, (.invokevirtual 20, 3, 68, 6194, 1, 227, 0)), (278, (.aload_n 2, 1, 2, 0, 0, 0, 0)), (279, (.aload_n 0, 1, 0, 0, 0, 0, 0)), (280, (.iload_n 3, 1, 3, 0, 0, 0, 0)), (281, (.iconst 1, 1, 0, 0, 0, 1, 0)), (282, (.iadd, 1, 0, 0, 0, 0, 0)), (283, (.iaload, 1, 0, 0, 0, 0, 0)), (284, (.invokevirtual 24, 3, 127, 7218, 1, 231, 0)), (287, (.if_icmp .eq 1197, 3, 1484, 0, 0, 0, 0))],
  [(290, (.iconst 0, 1, 0, 0, 0, 0, 0)), (291, (.ireturn, 1, 0, 0, 0, 0, 0)), (292, (.aload_n 1, 1, 1, 0, 0, 0, 0)), (293, (.invokevirtual 25, 3, 69, 6209, 1, 235, 0)), (296, (.aload_n 2, 1, 2, 0, 0, 0, 0)), (297, (.invokevirtual 29, 3, 140, 7201, 1, 427, 0)), (300, (.if_icmp .eq 1184, 3, 1484, 0, 0, 0, 0)), (303, (.iconst 0, 1, 0, 0, 0, 0, 0)), (304, (.ireturn, 1, 0, 0, 0, 0, 0)), (305, (.aload_n 1, 1, 1, 0, 0, 0, 0)), (306, (.invokevirtual 30, 3, 70, 6161, 1, 494, 0)), (309, (.aload_n 2, 1, 2, 0, 0, 0, 0)), (310, (.invokevirtual 33, 3, 141, 7185, 1, 499, 0)), (313, (.if_icmp .eq 1171, 3, 1484, 0, 0, 0, 0)), (316, (.iconst 0, 1, 0, 0, 0, 0, 0)), (317, (.ireturn, 1, 0, 0, 0, 0, 0)), (318, (.aload_n 1, 1, 1, 0, 0, 0, 0)), (319, (.aload_n 0, 1, 0, 0, 0, 0, 0))],
  [(320, (.iload_n 3, 1, 3, 0, 0, 0, 0)), (321, (.iconst 1, 1, 0, 0, 0, 1, 0)), (322, (.iadd, 1, 0, 0, 0, 0, 0)), (323, (.iaload, 1, 0, 0, 0, 0, 0)), (324, (.invokevirtual 34, 3, 71, 6178, 1, 503, 0)), (327, (.aload_n 2, 1, 2, 0, 0, 0, 0)), (328, (.aload_n 0, 1, 0, 0, 0, 0, 0)), (329, (.iload_n 3, 1, 3, 0, 0, 0, 0)), (330, (.iconst 1, 1, 0, 0, 0, 1, 0)), (331, (.iadd, 1, 0, 0, 0, 0, 0)), (332, (.iaload, 1, 0, 0, 0, 0, 0)), (333, (.invokevirtual 37, 3, 149, 7202, 1, 512, 0)), (336, (.if_icmp .eq 1148, 3, 1484, 0, 0, 0, 0)), (339, (.iconst 0, 1, 0, 0, 0, 0, 0)), (340, (.ireturn, 1, 0, 0, 0, 0, 0)), (341, (.aload_n 1, 1, 1, 0, 0, 0, 0)), (342, (.aload_n 0, 1, 0, 0, 0, 0, 0)), (343, (.iload_n 3, 1, 3, 0, 0, 0, 0)), (344, (.iconst 1, 1, 0, 0, 0, 1, 0)), (345, (.iadd, 1, 0, 0, 0, 0, 0)), (346, (.iaload, 1, 0, 0, 0, 0, 0)), (347, (.aload_n 0, 1, 0, 0, 0, 0, 0)), (348, (.iload_n 3, 1, 3, 0, 0, 0, 0)), (349, (.iconst 2, 1, 0, 0, 0, 2, 0)), (350, (.iadd, 1, 0, 0, 0, 0, 0)), (351, (.iaload, 1, 0, 0, 0, 0, 0))],
  [(352, (.invokevirtual 38, 3, 72, 6195, 1, 520, 0)), (355, (.aload_n 2, 1, 2, 0, 0, 0, 0)), (356, (.aload_n 0, 1, 0, 0, 0, 0, 0)), (357, (.iload_n 3, 1, 3, 0, 0, 0, 0)), (358, (.iconst 1, 1, 0, 0, 0, 1, 0)), (359, (.iadd, 1, 0, 0, 0, 0, 0)), (360, (.iaload, 1, 0, 0, 0, 0, 0)), (361, (.aload_n 0, 1, 0, 0, 0, 0, 0)), (362, (.iload_n 3, 1, 3, 0, 0, 0, 0)), (363, (.iconst 2, 1, 0, 0, 0, 2, 0)), (364, (.iadd, 1, 0, 0, 0, 0, 0)), (365, (.iaload, 1, 0, 0, 0, 0, 0)), (366, (.invokevirtual 42, 3, 150, 7251, 1, 536, 0)), (369, (.if_icmp .eq 1115, 3, 1484, 0, 0, 0, 0)), (372, (.iconst 0, 1, 0, 0, 0, 0, 0)), (373, (.ireturn, 1, 0, 0, 0, 0, 0)), (374, (.aload_n 1, 1, 1, 0, 0, 0, 0)), (375, (.aload_n 0, 1, 0, 0, 0, 0, 0)), (376, (.iload_n 3, 1, 3, 0, 0, 0, 0)), (377, (.iconst 1, 1, 0, 0, 0, 1, 0)), (378, (.iadd, 1, 0, 0, 0, 0, 0)), (379, (.iaload, 1, 0, 0, 0, 0, 0)), (380, (.invokevirtual 43, 3, 73, 6178, 1, 540, 0)), (383, (.aload_n 2, 1, 2, 0, 0, 0, 0))],
  [(384, (.aload_n 0, 1, 0, 0, 0, 0, 0)), (385, (.iload_n 3, 1, 3, 0, 0, 0, 0)), (386, (.iconst 1, 1, 0, 0, 0, 1, 0)), (387, (.iadd, 1, 0, 0, 0, 0, 0)), (388, (.iaload, 1, 0, 0, 0, 0, 0)), (389, (.invokevirtual 46, 3, 151, 7202, 1, 549, 0)), (392, (.if_icmp .eq 1092, 3, 1484, 0, 0, 0, 0)), (395, (.iconst 0, 1, 0, 0, 0, 0, 0)), (396, (.ireturn, 1, 0, 0, 0, 0, 0)), (397, (.aload_n 1, 1, 1, 0, 0, 0, 0)), (398, (.aload_n 0, 1, 0, 0, 0, 0, 0)), (399, (.iload_n 3, 1, 3, 0, 0, 0, 0)), (400, (.iconst 1, 1, 0, 0, 0, 1, 0)), (401, (.iadd, 1, 0, 0, 0, 0, 0)), (402, (.iaload, 1, 0, 0, 0, 0, 0)), (403, (.aload_n 0, 1, 0, 0, 0, 0, 0)), (404, (.iload_n 3, 1, 3, 0, 0, 0, 0)), (405, (.iconst 2, 1, 0, 0, 0, 2, 0)), (406, (.iadd, 1, 0, 0, 0, 0, 0)), (407, (.iaload, 1, 0, 0, 0, 0, 0)), (408, (.invokevirtual 47, 3, 74, 6195, 1, 557, 0)), (411, (.aload_n 2, 1, 2, 0, 0, 0, 0)), (412, (.aload_n 0, 1, 0, 0, 0, 0, 0)), (413, (.iload_n 3, 1, 3, 0, 0, 0, 0)), (414, (.iconst 1, 1, 0, 0, 0, 1, 0)), (415, (.iadd, 1, 0, 0, 0, 0, 0))],
  [(416, (.iaload, 1, 0, 0, 0, 0, 0)), (417, (.aload_n 0, 1, 0, 0, 0, 0, 0)), (418, (.iload_n 3, 1, 3, 0, 0, 0, 0)), (419, (.iconst 2, 1, 0, 0, 0, 2, 0)), (420, (.iadd, 1, 0, 0, 0, 0, 0)), (421, (.iaload, 1, 0, 0, 0, 0, 0)), (422, (.invokevirtual 50, 3, 152, 7219, 1, 571, 0)), (425, (.if_icmp .eq 1059, 3, 1484, 0, 0, 0, 0)), (428, (.iconst 0, 1, 0, 0, 0, 0, 0)), (429, (.ireturn, 1, 0, 0, 0, 0, 0)), (430, (.aload_n 1, 1, 1, 0, 0, 0, 0)), (431, (.aload_n 0, 1, 0, 0, 0, 0, 0)), (432, (.iload_n 3, 1, 3, 0, 0, 0, 0)), (433, (.iconst 1, 1, 0, 0, 0, 1, 0)), (434, (.iadd, 1, 0, 0, 0, 0, 0)), (435, (.iaload, 1, 0, 0, 0, 0, 0)), (436, (.aload_n 0, 1, 0, 0, 0, 0, 0)), (437, (.iload_n 3, 1, 3, 0, 0, 0, 0)), (438, (.iconst 2, 1, 0, 0, 0, 2, 0)), (439, (.iadd, 1, 0, 0, 0, 0, 0)), (440, (.iaload, 1, 0, 0, 0, 0, 0)), (441, (.aload_n 0, 1, 0, 0, 0, 0, 0)), (442, (.iload_n 3, 1, 3, 0, 0, 0, 0)), (443, (.iconst 3, 1, 0, 0, 0, 3, 0)), (444, (.iadd, 1, 0, 0, 0, 0, 0)), (445, (.iaload, 1, 0, 0, 0, 0, 0)), (446, (.ifCond .eq 7, 3, 453, 0, 0, 0, 0))],
  [(449, (.iconst 1, 1, 0, 0, 0, 1, 0)), (450, (.goto 4, 3, 454, 0, 0, 0, 0)), (453, (.iconst 0, 1, 0, 0, 0, 0, 0)), (454, (.invokevirtual 51, 3, 75, 6212, 1, 580, 0)), (457, (.aload_n 2, 1, 2, 0, 0, 0, 0)), (458, (.aload_n 0, 1, 0, 0, 0, 0, 0)), (459, (.iload_n 3, 1, 3, 0, 0, 0, 0)), (460, (.iconst 1, 1, 0, 0, 0, 1, 0)), (461, (.iadd, 1, 0, 0, 0, 0, 0)), (462, (.iaload, 1, 0, 0, 0, 0, 0)), (463, (.aload_n 0, 1, 0, 0, 0, 0, 0)), (464, (.iload_n 3, 1, 3, 0, 0, 0, 0)), (465, (.iconst 2, 1, 0, 0, 0, 2, 0)), (466, (.iadd, 1, 0, 0, 0, 0, 0)), (467, (.iaload, 1, 0, 0, 0, 0, 0)), (468, (.aload_n 0, 1, 0, 0, 0, 0, 0)), (469, (.iload_n 3, 1, 3, 0, 0, 0, 0)), (470, (.iconst 3, 1, 0, 0, 0, 3, 0)), (471, (.iadd, 1, 0, 0, 0, 0, 0)), (472, (.iaload, 1, 0, 0, 0, 0, 0)), (473, (.ifCond .eq 7, 3, 480, 0, 0, 0, 0)), (476, (.iconst 1, 1, 0, 0, 0, 1, 0)), (477, (.goto 4, 3, 481, 0, 0, 0, 0))],
  [(480, (.iconst 0, 1, 0, 0, 0, 0, 0)), (481, (.invokevirtual 55, 3, 165, 7236, 1, 636, 0)), (484, (.if_icmp .eq 1000, 3, 1484, 0, 0, 0, 0)), (487, (.iconst 0, 1, 0, 0, 0, 0, 0)), (488, (.ireturn, 1, 0, 0, 0, 0, 0)), (489, (.aload_n 1, 1, 1, 0, 0, 0, 0)), (490, (.aload_n 0, 1, 0, 0, 0, 0, 0)), (491, (.iload_n 3, 1, 3, 0, 0, 0, 0)), (492, (.iconst 1, 1, 0, 0, 0, 1, 0)), (493, (.iadd, 1, 0, 0, 0, 0, 0)), (494, (.iaload, 1, 0, 0, 0, 0, 0)), (495, (.aload_n 0, 1, 0, 0, 0, 0, 0)), (496, (.iload_n 3, 1, 3, 0, 0, 0, 0)), (497, (.iconst 2, 1, 0, 0, 0, 2, 0)), (498, (.iadd, 1, 0, 0, 0, 0, 0)), (499, (.iaload, 1, 0, 0, 0, 0, 0)), (500, (.invokevirtual 56, 3, 76, 6195, 1, 644, 0)), (503, (.aload_n 2, 1, 2, 0, 0, 0, 0)), (504, (.aload_n 0, 1, 0, 0, 0, 0, 0)), (505, (.iload_n 3, 1, 3, 0, 0, 0, 0)), (506, (.iconst 1, 1, 0, 0, 0, 1, 0)), (507, (.iadd, 1, 0, 0, 0, 0, 0)), (508, (.iaload, 1, 0, 0, 0, 0, 0)), (509, (.aload_n 0, 1, 0, 0, 0, 0, 0)), (510, (.iload_n 3, 1, 3, 0, 0, 0, 0)), (511, (.iconst 2, 1, 0, 0, 0, 2, 0))],
  [(512, (.iadd, 1, 0, 0, 0, 0, 0)), (513, (.iaload, 1, 0, 0, 0, 0, 0)), (514, (.invokevirtual 59, 3, 166, 7219, 1, 659, 0)), (517, (.if_icmp .eq 967, 3, 1484, 0, 0, 0, 0)), (520, (.iconst 0, 1, 0, 0, 0, 0, 0)), (521, (.ireturn, 1, 0, 0, 0, 0, 0)), (522, (.aload_n 1, 1, 1, 0, 0, 0, 0)), (523, (.invokevirtual 60, 3, 77, 6161, 1, 671, 0)), (526, (.aload_n 2, 1, 2, 0, 0, 0, 0)), (527, (.invokevirtual 63, 3, 167, 7185, 1, 679, 0)), (530, (.if_icmp .eq 954, 3, 1484, 0, 0, 0, 0)), (533, (.iconst 0, 1, 0, 0, 0, 0, 0)), (534, (.ireturn, 1, 0, 0, 0, 0, 0)), (535, (.aload_n 1, 1, 1, 0, 0, 0, 0)), (536, (.invokevirtual 64, 3, 78, 6177, 1, 683, 0)), (539, (.aload_n 2, 1, 2, 0, 0, 0, 0)), (540, (.invokevirtual 67, 3, 168, 7201, 1, 688, 0)), (543, (.if_icmp .eq 941, 3, 1484, 0, 0, 0, 0))],
  [(546, (.iconst 0, 1, 0, 0, 0, 0, 0)), (547, (.ireturn, 1, 0, 0, 0, 0, 0)), (548, (.aload_n 1, 1, 1, 0, 0, 0, 0)), (549, (.aload_n 0, 1, 0, 0, 0, 0, 0)), (550, (.iload_n 3, 1, 3, 0, 0, 0, 0)), (551, (.iconst 1, 1, 0, 0, 0, 1, 0)), (552, (.iadd, 1, 0, 0, 0, 0, 0)), (553, (.iaload, 1, 0, 0, 0, 0, 0)), (554, (.aload_n 0, 1, 0, 0, 0, 0, 0)), (555, (.iload_n 3, 1, 3, 0, 0, 0, 0)), (556, (.iconst 2, 1, 0, 0, 0, 2, 0)), (557, (.iadd, 1, 0, 0, 0, 0, 0)), (558, (.iaload, 1, 0, 0, 0, 0, 0)), (559, (.invokevirtual 68, 3, 79, 6195, 1, 692, 0)), (562, (.aload_n 2, 1, 2, 0, 0, 0, 0)), (563, (.aload_n 0, 1, 0, 0, 0, 0, 0)), (564, (.iload_n 3, 1, 3, 0, 0, 0, 0)), (565, (.iconst 1, 1, 0, 0, 0, 1, 0)), (566, (.iadd, 1, 0, 0, 0, 0, 0)), (567, (.iaload, 1, 0, 0, 0, 0, 0)), (568, (.aload_n 0, 1, 0, 0, 0, 0, 0)), (569, (.iload_n 3, 1, 3, 0, 0, 0, 0)), (570, (.iconst 2, 1, 0, 0, 0, 2, 0)), (571, (.iadd, 1, 0, 0, 0, 0, 0)), (572, (.iaload, 1, 0, 0, 0, 0, 0)), (573, (.invokevirtual 71, 3, 169, 7219, 1, 696, 0))],
  [(576, (.if_icmp .eq 908, 3, 1484, 0, 0, 0, 0)), (579, (.iconst 0, 1, 0, 0, 0, 0, 0)), (580, (.ireturn, 1, 0, 0, 0, 0, 0)), (581, (.aload_n 1, 1, 1, 0, 0, 0, 0)), (582, (.aload_n 0, 1, 0, 0, 0, 0, 0)), (583, (.iload_n 3, 1, 3, 0, 0, 0, 0)), (584, (.iconst 1, 1, 0, 0, 0, 1, 0)), (585, (.iadd, 1, 0, 0, 0, 0, 0)), (586, (.iaload, 1, 0, 0, 0, 0, 0)), (587, (.aload_n 0, 1, 0, 0, 0, 0, 0)), (588, (.iload_n 3, 1, 3, 0, 0, 0, 0)), (589, (.iconst 2, 1, 0, 0, 0, 2, 0)), (590, (.iadd, 1, 0, 0, 0, 0, 0)), (591, (.iaload, 1, 0, 0, 0, 0, 0)), (592, (.invokevirtual 72, 3, 80, 6195, 1, 701, 0)), (595, (.aload_n 2, 1, 2, 0, 0, 0, 0)), (596, (.aload_n 0, 1, 0, 0, 0, 0, 0)), (597, (.iload_n 3, 1, 3, 0, 0, 0, 0)), (598, (.iconst 1, 1, 0, 0, 0, 1, 0)), (599, (.iadd, 1, 0, 0, 0, 0, 0)), (600, (.iaload, 1, 0, 0, 0, 0, 0)), (601, (.aload_n 0, 1, 0, 0, 0, 0, 0)), (602, (.iload_n 3, 1, 3, 0, 0, 0, 0)), (603, (.iconst 2, 1, 0, 0, 0, 2, 0)), (604, (.iadd, 1, 0, 0, 0, 0, 0)), (605, (.iaload, 1, 0, 0, 0, 0, 0)), (606, (.invokevirtual 75, 3, 170, 7219, 1, 706, 0))],
  [(609, (.if_icmp .eq 875, 3, 1484, 0, 0, 0, 0)), (612, (.iconst 0, 1, 0, 0, 0, 0, 0)), (613, (.ireturn, 1, 0, 0, 0, 0, 0)), (614, (.aload_n 1, 1, 1, 0, 0, 0, 0)), (615, (.aload_n 0, 1, 0, 0, 0, 0, 0)), (616, (.iload_n 3, 1, 3, 0, 0, 0, 0)), (617, (.iconst 1, 1, 0, 0, 0, 1, 0)), (618, (.iadd, 1, 0, 0, 0, 0, 0)), (619, (.iaload, 1, 0, 0, 0, 0, 0)), (620, (.aload_n 0, 1, 0, 0, 0, 0, 0)), (621, (.iload_n 3, 1, 3, 0, 0, 0, 0)), (622, (.iconst 2, 1, 0, 0, 0, 2, 0)), (623, (.iadd, 1, 0, 0, 0, 0, 0)), (624, (.iaload, 1, 0, 0, 0, 0, 0)), (625, (.invokevirtual 76, 3, 81, 6195, 1, 710, 0)), (628, (.aload_n 2, 1, 2, 0, 0, 0, 0)), (629, (.aload_n 0, 1, 0, 0, 0, 0, 0)), (630, (.iload_n 3, 1, 3, 0, 0, 0, 0)), (631, (.iconst 1, 1, 0, 0, 0, 1, 0)), (632, (.iadd, 1, 0, 0, 0, 0, 0)), (633, (.iaload, 1, 0, 0, 0, 0, 0)), (634, (.aload_n 0, 1, 0, 0, 0, 0, 0)), (635, (.iload_n 3, 1, 3, 0, 0, 0, 0)), (636, (.iconst 2, 1, 0, 0, 0, 2, 0)), (637, (.iadd, 1, 0, 0, 0, 0, 0)), (638, (.iaload, 1, 0, 0, 0, 0, 0)), (639, (.invokevirtual 79, 3, 171, 7219, 1, 715, 0))],
  [(642, (.if_icmp .eq 842, 3, 1484, 0, 0, 0, 0)), (645, (.iconst 0, 1, 0, 0, 0, 0, 0)), (646, (.ireturn, 1, 0, 0, 0, 0, 0)), (647, (.aload_n 1, 1, 1, 0, 0, 0, 0)), (648, (.aload_n 0, 1, 0, 0, 0, 0, 0)), (649, (.iload_n 3, 1, 3, 0, 0, 0, 0)), (650, (.iconst 1, 1, 0, 0, 0, 1, 0)), (651, (.iadd, 1, 0, 0, 0, 0, 0)), (652, (.iaload, 1, 0, 0, 0, 0, 0)), (653, (.aload_n 0, 1, 0, 0, 0, 0, 0)), (654, (.iload_n 3, 1, 3, 0, 0, 0, 0)), (655, (.iconst 2, 1, 0, 0, 0, 2, 0)), (656, (.iadd, 1, 0, 0, 0, 0, 0)), (657, (.iaload, 1, 0, 0, 0, 0, 0)), (658, (.invokevirtual 80, 3, 82, 6195, 1, 719, 0)), (661, (.aload_n 2, 1, 2, 0, 0, 0, 0)), (662, (.aload_n 0, 1, 0, 0, 0, 0, 0)), (663, (.iload_n 3, 1, 3, 0, 0, 0, 0)), (664, (.iconst 1, 1, 0, 0, 0, 1, 0)), (665, (.iadd, 1, 0, 0, 0, 0, 0)), (666, (.iaload, 1, 0, 0, 0, 0, 0)), (667, (.aload_n 0, 1, 0, 0, 0, 0, 0)), (668, (.iload_n 3, 1, 3, 0, 0, 0, 0)), (669, (.iconst 2, 1, 0, 0, 0, 2, 0)), (670, (.iadd, 1, 0, 0, 0, 0, 0)), (671, (.iaload, 1, 0, 0, 0, 0, 0))],
  [(672, (.invokevirtual 83, 3, 173, 7219, 1, 731, 0)), (675, (.if_icmp .eq 809, 3, 1484, 0, 0, 0, 0)), (678, (.iconst 0, 1, 0, 0, 0, 0, 0)), (679, (.ireturn, 1, 0, 0, 0, 0, 0)), (680, (.aload_n 1, 1, 1, 0, 0, 0, 0)), (681, (.aload_n 0, 1, 0, 0, 0, 0, 0)), (682, (.iload_n 3, 1, 3, 0, 0, 0, 0)), (683, (.iconst 1, 1, 0, 0, 0, 1, 0)), (684, (.iadd, 1, 0, 0, 0, 0, 0)), (685, (.iaload, 1, 0, 0, 0, 0, 0)), (686, (.invokevirtual 84, 3, 83, 6178, 1, 739, 0)), (689, (.aload_n 2, 1, 2, 0, 0, 0, 0)), (690, (.aload_n 0, 1, 0, 0, 0, 0, 0)), (691, (.iload_n 3, 1, 3, 0, 0, 0, 0)), (692, (.iconst 1, 1, 0, 0, 0, 1, 0)), (693, (.iadd, 1, 0, 0, 0, 0, 0)), (694, (.iaload, 1, 0, 0, 0, 0, 0)), (695, (.invokevirtual 87, 3, 174, 7202, 1, 744, 0)), (698, (.if_icmp .eq 786, 3, 1484, 0, 0, 0, 0)), (701, (.iconst 0, 1, 0, 0, 0, 0, 0)), (702, (.ireturn, 1, 0, 0, 0, 0, 0)), (703, (.aload_n 1, 1, 1, 0, 0, 0, 0))],
  [(704, (.aload_n 0, 1, 0, 0, 0, 0, 0)), (705, (.iload_n 3, 1, 3, 0, 0, 0, 0)), (706, (.iconst 1, 1, 0, 0, 0, 1, 0)), (707, (.iadd, 1, 0, 0, 0, 0, 0)), (708, (.iaload, 1, 0, 0, 0, 0, 0)), (709, (.aload_n 0, 1, 0, 0, 0, 0, 0)), (710, (.iload_n 3, 1, 3, 0, 0, 0, 0)), (711, (.iconst 2, 1, 0, 0, 0, 2, 0)), (712, (.iadd, 1, 0, 0, 0, 0, 0)), (713, (.iaload, 1, 0, 0, 0, 0, 0)), (714, (.invokevirtual 88, 3, 84, 6195, 1, 748, 0)), (717, (.aload_n 2, 1, 2, 0, 0, 0, 0)), (718, (.aload_n 0, 1, 0, 0, 0, 0, 0)), (719, (.iload_n 3, 1, 3, 0, 0, 0, 0)), (720, (.iconst 1, 1, 0, 0, 0, 1, 0)), (721, (.iadd, 1, 0, 0, 0, 0, 0)), (722, (.iaload, 1, 0, 0, 0, 0, 0)), (723, (.aload_n 0, 1, 0, 0, 0, 0, 0)), (724, (.iload_n 3, 1, 3, 0, 0, 0, 0)), (725, (.iconst 2, 1, 0, 0, 0, 2, 0)), (726, (.iadd, 1, 0, 0, 0, 0, 0)), (727, (.iaload, 1, 0, 0, 0, 0, 0)), (728, (.invokevirtual 91, 3, 175, 7219, 1, 753, 0)), (731, (.if_icmp .eq 753, 3, 1484, 0, 0, 0, 0)), (734, (.iconst 0, 1, 0, 0, 0, 0, 0)), (735, (.ireturn, 1, 0, 0, 0, 0, 0))],
  [(736, (.aload_n 1, 1, 1, 0, 0, 0, 0)), (737, (.aload_n 0, 1, 0, 0, 0, 0, 0)), (738, (.iload_n 3, 1, 3, 0, 0, 0, 0)), (739, (.iconst 1, 1, 0, 0, 0, 1, 0)), (740, (.iadd, 1, 0, 0, 0, 0, 0)), (741, (.iaload, 1, 0, 0, 0, 0, 0)), (742, (.invokevirtual 92, 3, 85, 6210, 1, 757, 0)), (745, (.aload_n 2, 1, 2, 0, 0, 0, 0)), (746, (.aload_n 0, 1, 0, 0, 0, 0, 0)), (747, (.iload_n 3, 1, 3, 0, 0, 0, 0)), (748, (.iconst 1, 1, 0, 0, 0, 1, 0)), (749, (.iadd, 1, 0, 0, 0, 0, 0)), (750, (.iaload, 1, 0, 0, 0, 0, 0)), (751, (.invokevirtual 95, 3, 177, 7234, 1, 771, 0)), (754, (.if_icmp .eq 730, 3, 1484, 0, 0, 0, 0)), (757, (.iconst 0, 1, 0, 0, 0, 0, 0)), (758, (.ireturn, 1, 0, 0, 0, 0, 0)), (759, (.aload_n 1, 1, 1, 0, 0, 0, 0)), (760, (.aload_n 0, 1, 0, 0, 0, 0, 0)), (761, (.iload_n 3, 1, 3, 0, 0, 0, 0)), (762, (.iconst 1, 1, 0, 0, 0, 1, 0)), (763, (.iadd, 1, 0, 0, 0, 0, 0)), (764, (.iaload, 1, 0, 0, 0, 0, 0)), (765, (.aload_n 0, 1, 0, 0, 0, 0, 0)), (766, (.iload_n 3, 1, 3, 0, 0, 0, 0)), (767, (.iconst 2, 1, 0, 0, 0, 2, 0))],
  [(768, (.iadd, 1, 0, 0, 0, 0, 0)), (769, (.iaload, 1, 0, 0, 0, 0, 0)), (770, (.aload_n 0, 1, 0, 0, 0, 0, 0)), (771, (.iload_n 3, 1, 3, 0, 0, 0, 0)), (772, (.iconst 3, 1, 0, 0, 0, 3, 0)), (773, (.iadd, 1, 0, 0, 0, 0, 0)), (774, (.iaload, 1, 0, 0, 0, 0, 0)), (775, (.invokevirtual 96, 3, 86, 6244, 1, 783, 0)), (778, (.aload_n 2, 1, 2, 0, 0, 0, 0)), (779, (.aload_n 0, 1, 0, 0, 0, 0, 0)), (780, (.iload_n 3, 1, 3, 0, 0, 0, 0)), (781, (.iconst 1, 1, 0, 0, 0, 1, 0)), (782, (.iadd, 1, 0, 0, 0, 0, 0)), (783, (.iaload, 1, 0, 0, 0, 0, 0)), (784, (.aload_n 0, 1, 0, 0, 0, 0, 0)), (785, (.iload_n 3, 1, 3, 0, 0, 0, 0)), (786, (.iconst 2, 1, 0, 0, 0, 2, 0)), (787, (.iadd, 1, 0, 0, 0, 0, 0)), (788, (.iaload, 1, 0, 0, 0, 0, 0)), (789, (.aload_n 0, 1, 0, 0, 0, 0, 0)), (790, (.iload_n 3, 1, 3, 0, 0, 0, 0)), (791, (.iconst 3, 1, 0, 0, 0, 3, 0)), (792, (.iadd, 1, 0, 0, 0, 0, 0)), (793, (.iaload, 1, 0, 0, 0, 0, 0)), (794, (.invokevirtual 100, 3, 183, 7252, 1, 828, 0)), (797, (.if_icmp .eq 687, 3, 1484, 0, 0, 0, 0))],
  [(800, (.iconst 0, 1, 0, 0, 0, 0, 0)), (801, (.ireturn, 1, 0, 0, 0, 0, 0)), (802, (.aload_n 1, 1, 1, 0, 0, 0, 0)), (803, (.aload_n 0, 1, 0, 0, 0, 0, 0)), (804, (.iload_n 3, 1, 3, 0, 0, 0, 0)), (805, (.iconst 1, 1, 0, 0, 0, 1, 0)), (806, (.iadd, 1, 0, 0, 0, 0, 0)), (807, (.iaload, 1, 0, 0, 0, 0, 0)), (808, (.aload_n 0, 1, 0, 0, 0, 0, 0)), (809, (.iload_n 3, 1, 3, 0, 0, 0, 0)), (810, (.iconst 2, 1, 0, 0, 0, 2, 0)), (811, (.iadd, 1, 0, 0, 0, 0, 0)), (812, (.iaload, 1, 0, 0, 0, 0, 0)), (813, (.invokevirtual 101, 3, 87, 6195, 1, 852, 0)), (816, (.aload_n 2, 1, 2, 0, 0, 0, 0)), (817, (.aload_n 0, 1, 0, 0, 0, 0, 0)), (818, (.iload_n 3, 1, 3, 0, 0, 0, 0)), (819, (.iconst 1, 1, 0, 0, 0, 1, 0)), (820, (.iadd, 1, 0, 0, 0, 0, 0)), (821, (.iaload, 1, 0, 0, 0, 0, 0)), (822, (.aload_n 0, 1, 0, 0, 0, 0, 0)), (823, (.iload_n 3, 1, 3, 0, 0, 0, 0)), (824, (.iconst 2, 1, 0, 0, 0, 2, 0)), (825, (.iadd, 1, 0, 0, 0, 0, 0)), (826, (.iaload, 1, 0, 0, 0, 0, 0)), (827, (.invokevirtual 104, 3, 184, 7251, 1, 857, 0)), (830, (.if_icmp .eq 654, 3, 1484, 0, 0, 0, 0))],
  [(833, (.iconst 0, 1, 0, 0, 0, 0, 0)), (834, (.ireturn, 1, 0, 0, 0, 0, 0)), (835, (.aload_n 1, 1, 1, 0, 0, 0, 0)), (836, (.aload_n 0, 1, 0, 0, 0, 0, 0)), (837, (.iload_n 3, 1, 3, 0, 0, 0, 0)), (838, (.iconst 1, 1, 0, 0, 0, 1, 0)), (839, (.iadd, 1, 0, 0, 0, 0, 0)), (840, (.iaload, 1, 0, 0, 0, 0, 0)), (841, (.aload_n 0, 1, 0, 0, 0, 0, 0)), (842, (.iload_n 3, 1, 3, 0, 0, 0, 0)), (843, (.iconst 2, 1, 0, 0, 0, 2, 0)), (844, (.iadd, 1, 0, 0, 0, 0, 0)), (845, (.iaload, 1, 0, 0, 0, 0, 0)), (846, (.invokevirtual 105, 3, 88, 6211, 1, 861, 0)), (849, (.aload_n 2, 1, 2, 0, 0, 0, 0)), (850, (.aload_n 0, 1, 0, 0, 0, 0, 0)), (851, (.iload_n 3, 1, 3, 0, 0, 0, 0)), (852, (.iconst 1, 1, 0, 0, 0, 1, 0)), (853, (.iadd, 1, 0, 0, 0, 0, 0)), (854, (.iaload, 1, 0, 0, 0, 0, 0)), (855, (.aload_n 0, 1, 0, 0, 0, 0, 0)), (856, (.iload_n 3, 1, 3, 0, 0, 0, 0)), (857, (.iconst 2, 1, 0, 0, 0, 2, 0)), (858, (.iadd, 1, 0, 0, 0, 0, 0)), (859, (.iaload, 1, 0, 0, 0, 0, 0)), (860, (.invokevirtual 108, 3, 187, 7315, 1, 883, 0)), (863, (.if_icmp .eq 621, 3, 1484, 0, 0, 0, 0))],
  [(866, (.iconst 0, 1, 0, 0, 0, 0, 0)), (867, (.ireturn, 1, 0, 0, 0, 0, 0)), (868, (.aload_n 1, 1, 1, 0, 0, 0, 0)), (869, (.aload_n 0, 1, 0, 0, 0, 0, 0)), (870, (.iload_n 3, 1, 3, 0, 0, 0, 0)), (871, (.iconst 1, 1, 0, 0, 0, 1, 0)), (872, (.iadd, 1, 0, 0, 0, 0, 0)), (873, (.iaload, 1, 0, 0, 0, 0, 0)), (874, (.aload_n 0, 1, 0, 0, 0, 0, 0)), (875, (.iload_n 3, 1, 3, 0, 0, 0, 0)), (876, (.iconst 2, 1, 0, 0, 0, 2, 0)), (877, (.iadd, 1, 0, 0, 0, 0, 0)), (878, (.iaload, 1, 0, 0, 0, 0, 0)), (879, (.invokevirtual 109, 3, 89, 6275, 1, 895, 0)), (882, (.aload_n 2, 1, 2, 0, 0, 0, 0)), (883, (.aload_n 0, 1, 0, 0, 0, 0, 0)), (884, (.iload_n 3, 1, 3, 0, 0, 0, 0)), (885, (.iconst 1, 1, 0, 0, 0, 1, 0)), (886, (.iadd, 1, 0, 0, 0, 0, 0)), (887, (.iaload, 1, 0, 0, 0, 0, 0)), (888, (.aload_n 0, 1, 0, 0, 0, 0, 0)), (889, (.iload_n 3, 1, 3, 0, 0, 0, 0)), (890, (.iconst 2, 1, 0, 0, 0, 2, 0)), (891, (.iadd, 1, 0, 0, 0, 0, 0)), (892, (.iaload, 1, 0, 0, 0, 0, 0)), (893, (.invokevirtual 112, 3, 192, 7299, 1, 922, 0))],
  [(896, (.if_icmp .eq 588, 3, 1484, 0, 0, 0, 0)), (899, (.iconst 0, 1, 0, 0, 0, 0, 0)), (900, (.ireturn, 1, 0, 0, 0, 0, 0)), (901, (.aload_n 1, 1, 1, 0, 0, 0, 0)), (902, (.aload_n 0, 1, 0, 0, 0, 0, 0)), (903, (.iload_n 3, 1, 3, 0, 0, 0, 0)), (904, (.iconst 1, 1, 0, 0, 0, 1, 0)), (905, (.iadd, 1, 0, 0, 0, 0, 0)), (906, (.iaload, 1, 0, 0, 0, 0, 0)), (907, (.invokevirtual 113, 3, 90, 6178, 1, 941, 0)), (910, (.aload_n 2, 1, 2, 0, 0, 0, 0)), (911, (.aload_n 0, 1, 0, 0, 0, 0, 0)), (912, (.iload_n 3, 1, 3, 0, 0, 0, 0)), (913, (.iconst 1, 1, 0, 0, 0, 1, 0)), (914, (.iadd, 1, 0, 0, 0, 0, 0)), (915, (.iaload, 1, 0, 0, 0, 0, 0)), (916, (.invokevirtual 116, 3, 193, 7202, 1, 949, 0)), (919, (.if_icmp .eq 565, 3, 1484, 0, 0, 0, 0)), (922, (.iconst 0, 1, 0, 0, 0, 0, 0)), (923, (.ireturn, 1, 0, 0, 0, 0, 0)), (924, (.aload_n 1, 1, 1, 0, 0, 0, 0)), (925, (.aload_n 0, 1, 0, 0, 0, 0, 0)), (926, (.iload_n 3, 1, 3, 0, 0, 0, 0)), (927, (.iconst 1, 1, 0, 0, 0, 1, 0))],
  [(928, (.iadd, 1, 0, 0, 0, 0, 0)), (929, (.iaload, 1, 0, 0, 0, 0, 0)), (930, (.aload_n 0, 1, 0, 0, 0, 0, 0)), (931, (.iload_n 3, 1, 3, 0, 0, 0, 0)), (932, (.iconst 2, 1, 0, 0, 0, 2, 0)), (933, (.iadd, 1, 0, 0, 0, 0, 0)), (934, (.iaload, 1, 0, 0, 0, 0, 0)), (935, (.aload_n 0, 1, 0, 0, 0, 0, 0)), (936, (.iload_n 3, 1, 3, 0, 0, 0, 0)), (937, (.iconst 3, 1, 0, 0, 0, 3, 0)), (938, (.iadd, 1, 0, 0, 0, 0, 0)), (939, (.iaload, 1, 0, 0, 0, 0, 0)), (940, (.invokevirtual 117, 3, 91, 6212, 1, 953, 0)), (943, (.aload_n 2, 1, 2, 0, 0, 0, 0)), (944, (.aload_n 0, 1, 0, 0, 0, 0, 0)), (945, (.iload_n 3, 1, 3, 0, 0, 0, 0)), (946, (.iconst 1, 1, 0, 0, 0, 1, 0)), (947, (.iadd, 1, 0, 0, 0, 0, 0)), (948, (.iaload, 1, 0, 0, 0, 0, 0)), (949, (.aload_n 0, 1, 0, 0, 0, 0, 0)), (950, (.iload_n 3, 1, 3, 0, 0, 0, 0)), (951, (.iconst 2, 1, 0, 0, 0, 2, 0)), (952, (.iadd, 1, 0, 0, 0, 0, 0)), (953, (.iaload, 1, 0, 0, 0, 0, 0)), (954, (.aload_n 0, 1, 0, 0, 0, 0, 0)), (955, (.iload_n 3, 1, 3, 0, 0, 0, 0)), (956, (.iconst 3, 1, 0, 0, 0, 3, 0)), (957, (.iadd, 1, 0, 0, 0, 0, 0)), (958, (.iaload, 1, 0, 0, 0, 0, 0)), (959, (.invokevirtual 120, 3, 195, 7236, 1, 963, 0))],
  [(962, (.if_icmp .eq 522, 3, 1484, 0, 0, 0, 0)), (965, (.iconst 0, 1, 0, 0, 0, 0, 0)), (966, (.ireturn, 1, 0, 0, 0, 0, 0)), (967, (.aload_n 1, 1, 1, 0, 0, 0, 0)), (968, (.aload_n 0, 1, 0, 0, 0, 0, 0)), (969, (.iload_n 3, 1, 3, 0, 0, 0, 0)), (970, (.iconst 1, 1, 0, 0, 0, 1, 0)), (971, (.iadd, 1, 0, 0, 0, 0, 0)), (972, (.iaload, 1, 0, 0, 0, 0, 0)), (973, (.aload_n 0, 1, 0, 0, 0, 0, 0)), (974, (.iload_n 3, 1, 3, 0, 0, 0, 0)), (975, (.iconst 2, 1, 0, 0, 0, 2, 0)), (976, (.iadd, 1, 0, 0, 0, 0, 0)), (977, (.iaload, 1, 0, 0, 0, 0, 0)), (978, (.aload_n 0, 1, 0, 0, 0, 0, 0)), (979, (.iload_n 3, 1, 3, 0, 0, 0, 0)), (980, (.iconst 3, 1, 0, 0, 0, 3, 0)), (981, (.iadd, 1, 0, 0, 0, 0, 0)), (982, (.iaload, 1, 0, 0, 0, 0, 0)), (983, (.invokevirtual 121, 3, 92, 6212, 1, 971, 0)), (986, (.aload_n 2, 1, 2, 0, 0, 0, 0)), (987, (.aload_n 0, 1, 0, 0, 0, 0, 0)), (988, (.iload_n 3, 1, 3, 0, 0, 0, 0)), (989, (.iconst 1, 1, 0, 0, 0, 1, 0)), (990, (.iadd, 1, 0, 0, 0, 0, 0)), (991, (.iaload, 1, 0, 0, 0, 0, 0))],
  [(992, (.aload_n 0, 1, 0, 0, 0, 0, 0)), (993, (.iload_n 3, 1, 3, 0, 0, 0, 0)), (994, (.iconst 2, 1, 0, 0, 0, 2, 0)), (995, (.iadd, 1, 0, 0, 0, 0, 0)), (996, (.iaload, 1, 0, 0, 0, 0, 0)), (997, (.aload_n 0, 1, 0, 0, 0, 0, 0)), (998, (.iload_n 3, 1, 3, 0, 0, 0, 0)), (999, (.iconst 3, 1, 0, 0, 0, 3, 0)), (1000, (.iadd, 1, 0, 0, 0, 0, 0)), (1001, (.iaload, 1, 0, 0, 0, 0, 0)), (1002, (.invokevirtual 124, 3, 197, 7236, 1, 980, 0)), (1005, (.if_icmp .eq 479, 3, 1484, 0, 0, 0, 0)), (1008, (.iconst 0, 1, 0, 0, 0, 0, 0)), (1009, (.ireturn, 1, 0, 0, 0, 0, 0)), (1010, (.aload_n 1, 1, 1, 0, 0, 0, 0)), (1011, (.aload_n 0, 1, 0, 0, 0, 0, 0)), (1012, (.iload_n 3, 1, 3, 0, 0, 0, 0)), (1013, (.iconst 1, 1, 0, 0, 0, 1, 0)), (1014, (.iadd, 1, 0, 0, 0, 0, 0)), (1015, (.iaload, 1, 0, 0, 0, 0, 0)), (1016, (.invokevirtual 125, 3, 93, 6178, 1, 988, 0)), (1019, (.aload_n 2, 1, 2, 0, 0, 0, 0)), (1020, (.aload_n 0, 1, 0, 0, 0, 0, 0)), (1021, (.iload_n 3, 1, 3, 0, 0, 0, 0)), (1022, (.iconst 1, 1, 0, 0, 0, 1, 0)), (1023, (.iadd, 1, 0, 0, 0, 0, 0))],
  [(1024, (.iaload, 1, 0, 0, 0, 0, 0)), (1025, (.invokevirtual 128, 3, 198, 7202, 1, 992, 0)), (1028, (.if_icmp .eq 456, 3, 1484, 0, 0, 0, 0)), (1031, (.iconst 0, 1, 0, 0, 0, 0, 0)), (1032, (.ireturn, 1, 0, 0, 0, 0, 0)), (1033, (.aload_n 1, 1, 1, 0, 0, 0, 0)), (1034, (.aload_n 0, 1, 0, 0, 0, 0, 0)), (1035, (.iload_n 3, 1, 3, 0, 0, 0, 0)), (1036, (.iconst 1, 1, 0, 0, 0, 1, 0)), (1037, (.iadd, 1, 0, 0, 0, 0, 0)), (1038, (.iaload, 1, 0, 0, 0, 0, 0)), (1039, (.invokevirtual 129, 3, 94, 6274, 1, 996, 0)), (1042, (.aload_n 2, 1, 2, 0, 0, 0, 0)), (1043, (.aload_n 0, 1, 0, 0, 0, 0, 0)), (1044, (.iload_n 3, 1, 3, 0, 0, 0, 0)), (1045, (.iconst 1, 1, 0, 0, 0, 1, 0)), (1046, (.iadd, 1, 0, 0, 0, 0, 0)), (1047, (.iaload, 1, 0, 0, 0, 0, 0)), (1048, (.invokevirtual 132, 3, 199, 7314, 1, 1008, 0)), (1051, (.if_icmp .eq 433, 3, 1484, 0, 0, 0, 0)), (1054, (.iconst 0, 1, 0, 0, 0, 0, 0)), (1055, (.ireturn, 1, 0, 0, 0, 0, 0))],
  [(1056, (.aload_n 1, 1, 1, 0, 0, 0, 0)), (1057, (.aload_n 0, 1, 0, 0, 0, 0, 0)), (1058, (.iload_n 3, 1, 3, 0, 0, 0, 0)), (1059, (.iconst 1, 1, 0, 0, 0, 1, 0)), (1060, (.iadd, 1, 0, 0, 0, 0, 0)), (1061, (.iaload, 1, 0, 0, 0, 0, 0)), (1062, (.aload_n 0, 1, 0, 0, 0, 0, 0)), (1063, (.iload_n 3, 1, 3, 0, 0, 0, 0)), (1064, (.iconst 2, 1, 0, 0, 0, 2, 0)), (1065, (.iadd, 1, 0, 0, 0, 0, 0)), (1066, (.iaload, 1, 0, 0, 0, 0, 0)), (1067, (.invokevirtual 133, 3, 95, 6227, 1, 1012, 0)), (1070, (.aload_n 2, 1, 2, 0, 0, 0, 0)), (1071, (.aload_n 0, 1, 0, 0, 0, 0, 0)), (1072, (.iload_n 3, 1, 3, 0, 0, 0, 0)), (1073, (.iconst 1, 1, 0, 0, 0, 1, 0)), (1074, (.iadd, 1, 0, 0, 0, 0, 0)), (1075, (.iaload, 1, 0, 0, 0, 0, 0)), (1076, (.aload_n 0, 1, 0, 0, 0, 0, 0)), (1077, (.iload_n 3, 1, 3, 0, 0, 0, 0)), (1078, (.iconst 2, 1, 0, 0, 0, 2, 0)), (1079, (.iadd, 1, 0, 0, 0, 0, 0)), (1080, (.iaload, 1, 0, 0, 0, 0, 0)), (1081, (.invokevirtual 136, 3, 200, 7315, 1, 1023, 0)), (1084, (.if_icmp .eq 400, 3, 1484, 0, 0, 0, 0)), (1087, (.iconst 0, 1, 0, 0, 0, 0, 0))],
  [(1088, (.ireturn, 1, 0, 0, 0, 0, 0)), (1089, (.aload_n 1, 1, 1, 0, 0, 0, 0)), (1090, (.aload_n 0, 1, 0, 0, 0, 0, 0)), (1091, (.iload_n 3, 1, 3, 0, 0, 0, 0)), (1092, (.iconst 1, 1, 0, 0, 0, 1, 0)), (1093, (.iadd, 1, 0, 0, 0, 0, 0)), (1094, (.iaload, 1, 0, 0, 0, 0, 0)), (1095, (.aload_n 0, 1, 0, 0, 0, 0, 0)), (1096, (.iload_n 3, 1, 3, 0, 0, 0, 0)), (1097, (.iconst 2, 1, 0, 0, 0, 2, 0)), (1098, (.iadd, 1, 0, 0, 0, 0, 0)), (1099, (.iaload, 1, 0, 0, 0, 0, 0)), (1100, (.invokevirtual 137, 3, 96, 6211, 1, 1027, 0)), (1103, (.aload_n 2, 1, 2, 0, 0, 0, 0)), (1104, (.aload_n 0, 1, 0, 0, 0, 0, 0)), (1105, (.iload_n 3, 1, 3, 0, 0, 0, 0)), (1106, (.iconst 1, 1, 0, 0, 0, 1, 0)), (1107, (.iadd, 1, 0, 0, 0, 0, 0)), (1108, (.iaload, 1, 0, 0, 0, 0, 0)), (1109, (.aload_n 0, 1, 0, 0, 0, 0, 0)), (1110, (.iload_n 3, 1, 3, 0, 0, 0, 0)), (1111, (.iconst 2, 1, 0, 0, 0, 2, 0)), (1112, (.iadd, 1, 0, 0, 0, 0, 0)), (1113, (.iaload, 1, 0, 0, 0, 0, 0)), (1114, (.invokevirtual 140, 3, 201, 7251, 1, 1031, 0)), (1117, (.if_icmp .eq 367, 3, 1484, 0, 0, 0, 0))],
  [(1120, (.iconst 0, 1, 0, 0, 0, 0, 0)), (1121, (.ireturn, 1, 0, 0, 0, 0, 0)), (1122, (.aload_n 1, 1, 1, 0, 0, 0, 0)), (1123, (.aload_n 0, 1, 0, 0, 0, 0, 0)), (1124, (.iload_n 3, 1, 3, 0, 0, 0, 0)), (1125, (.iconst 1, 1, 0, 0, 0, 1, 0)), (1126, (.iadd, 1, 0, 0, 0, 0, 0)), (1127, (.iaload, 1, 0, 0, 0, 0, 0)), (1128, (.aload_n 0, 1, 0, 0, 0, 0, 0)), (1129, (.iload_n 3, 1, 3, 0, 0, 0, 0)), (1130, (.iconst 2, 1, 0, 0, 0, 2, 0)), (1131, (.iadd, 1, 0, 0, 0, 0, 0)), (1132, (.iaload, 1, 0, 0, 0, 0, 0)), (1133, (.ifCond .eq 7, 3, 1140, 0, 0, 0, 0)), (1136, (.iconst 1, 1, 0, 0, 0, 1, 0)), (1137, (.goto 4, 3, 1141, 0, 0, 0, 0)), (1140, (.iconst 0, 1, 0, 0, 0, 0, 0)), (1141, (.invokevirtual 141, 3, 97, 6195, 1, 1035, 0)), (1144, (.aload_n 2, 1, 2, 0, 0, 0, 0)), (1145, (.aload_n 0, 1, 0, 0, 0, 0, 0)), (1146, (.iload_n 3, 1, 3, 0, 0, 0, 0)), (1147, (.iconst 1, 1, 0, 0, 0, 1, 0)), (1148, (.iadd, 1, 0, 0, 0, 0, 0)), (1149, (.iaload, 1, 0, 0, 0, 0, 0)), (1150, (.aload_n 0, 1, 0, 0, 0, 0, 0)), (1151, (.iload_n 3, 1, 3, 0, 0, 0, 0))],
  [(1152, (.iconst 2, 1, 0, 0, 0, 2, 0)), (1153, (.iadd, 1, 0, 0, 0, 0, 0)), (1154, (.iaload, 1, 0, 0, 0, 0, 0)), (1155, (.ifCond .eq 7, 3, 1162, 0, 0, 0, 0)), (1158, (.iconst 1, 1, 0, 0, 0, 1, 0)), (1159, (.goto 4, 3, 1163, 0, 0, 0, 0)), (1162, (.iconst 0, 1, 0, 0, 0, 0, 0)), (1163, (.invokevirtual 145, 3, 202, 7219, 1, 1042, 0)), (1166, (.if_icmp .eq 318, 3, 1484, 0, 0, 0, 0)), (1169, (.iconst 0, 1, 0, 0, 0, 0, 0)), (1170, (.ireturn, 1, 0, 0, 0, 0, 0)), (1171, (.aload_n 1, 1, 1, 0, 0, 0, 0)), (1172, (.invokevirtual 146, 3, 98, 6177, 1, 1046, 0)), (1175, (.aload_n 2, 1, 2, 0, 0, 0, 0)), (1176, (.invokevirtual 149, 3, 203, 7201, 1, 1050, 0)), (1179, (.if_icmp .eq 305, 3, 1484, 0, 0, 0, 0)), (1182, (.iconst 0, 1, 0, 0, 0, 0, 0)), (1183, (.ireturn, 1, 0, 0, 0, 0, 0))],
  [(1184, (.aload_n 1, 1, 1, 0, 0, 0, 0)), (1185, (.aload_n 0, 1, 0, 0, 0, 0, 0)), (1186, (.iload_n 3, 1, 3, 0, 0, 0, 0)), (1187, (.iconst 1, 1, 0, 0, 0, 1, 0)), (1188, (.iadd, 1, 0, 0, 0, 0, 0)), (1189, (.iaload, 1, 0, 0, 0, 0, 0)), (1190, (.invokevirtual 150, 3, 99, 6194, 1, 1054, 0)), (1193, (.aload_n 2, 1, 2, 0, 0, 0, 0)), (1194, (.aload_n 0, 1, 0, 0, 0, 0, 0)), (1195, (.iload_n 3, 1, 3, 0, 0, 0, 0)), (1196, (.iconst 1, 1, 0, 0, 0, 1, 0)), (1197, (.iadd, 1, 0, 0, 0, 0, 0)), (1198, (.iaload, 1, 0, 0, 0, 0, 0)), (1199, (.invokevirtual 153, 3, 206, 7218, 1, 1073, 0)), (1202, (.if_icmp .eq 282, 3, 1484, 0, 0, 0, 0)), (1205, (.iconst 0, 1, 0, 0, 0, 0, 0)), (1206, (.ireturn, 1, 0, 0, 0, 0, 0)), (1207, (.aload_n 1, 1, 1, 0, 0, 0, 0)), (1208, (.aload_n 0, 1, 0, 0, 0, 0, 0)), (1209, (.iload_n 3, 1, 3, 0, 0, 0, 0)), (1210, (.iconst 1, 1, 0, 0, 0, 1, 0)), (1211, (.iadd, 1, 0, 0, 0, 0, 0)), (1212, (.iaload, 1, 0, 0, 0, 0, 0)), (1213, (.aload_n 0, 1, 0, 0, 0, 0, 0)), (1214, (.iload_n 3, 1, 3, 0, 0, 0, 0)), (1215, (.iconst 2, 1, 0, 0, 0, 2, 0))],
  [(1216, (.iadd, 1, 0, 0, 0, 0, 0)), (1217, (.iaload, 1, 0, 0, 0, 0, 0)), (1218, (.invokevirtual 154, 3, 100, 6243, 1, 1085, 0)), (1221, (.aload_n 2, 1, 2, 0, 0, 0, 0)), (1222, (.aload_n 0, 1, 0, 0, 0, 0, 0)), (1223, (.iload_n 3, 1, 3, 0, 0, 0, 0)), (1224, (.iconst 1, 1, 0, 0, 0, 1, 0)), (1225, (.iadd, 1, 0, 0, 0, 0, 0)), (1226, (.iaload, 1, 0, 0, 0, 0, 0)), (1227, (.aload_n 0, 1, 0, 0, 0, 0, 0)), (1228, (.iload_n 3, 1, 3, 0, 0, 0, 0)), (1229, (.iconst 2, 1, 0, 0, 0, 2, 0)), (1230, (.iadd, 1, 0, 0, 0, 0, 0)), (1231, (.iaload, 1, 0, 0, 0, 0, 0)), (1232, (.invokevirtual 157, 3, 207, 7299, 1, 1093, 0)), (1235, (.if_icmp .eq 249, 3, 1484, 0, 0, 0, 0)), (1238, (.iconst 0, 1, 0, 0, 0, 0, 0)), (1239, (.ireturn, 1, 0, 0, 0, 0, 0)), (1240, (.aload_n 1, 1, 1, 0, 0, 0, 0)), (1241, (.aload_n 0, 1, 0, 0, 0, 0, 0)), (1242, (.iload_n 3, 1, 3, 0, 0, 0, 0)), (1243, (.iconst 1, 1, 0, 0, 0, 1, 0)), (1244, (.iadd, 1, 0, 0, 0, 0, 0)), (1245, (.iaload, 1, 0, 0, 0, 0, 0)), (1246, (.invokevirtual 158, 3, 101, 6226, 1, 1097, 0))],
  [(1249, (.aload_n 2, 1, 2, 0, 0, 0, 0)), (1250, (.aload_n 0, 1, 0, 0, 0, 0, 0)), (1251, (.iload_n 3, 1, 3, 0, 0, 0, 0)), (1252, (.iconst 1, 1, 0, 0, 0, 1, 0)), (1253, (.iadd, 1, 0, 0, 0, 0, 0)), (1254, (.iaload, 1, 0, 0, 0, 0, 0)), (1255, (.invokevirtual 161, 3, 208, 7234, 1, 1103, 0)), (1258, (.if_icmp .eq 226, 3, 1484, 0, 0, 0, 0)), (1261, (.iconst 0, 1, 0, 0, 0, 0, 0)), (1262, (.ireturn, 1, 0, 0, 0, 0, 0)), (1263, (.aload_n 1, 1, 1, 0, 0, 0, 0)), (1264, (.aload_n 0, 1, 0, 0, 0, 0, 0)), (1265, (.iload_n 3, 1, 3, 0, 0, 0, 0)), (1266, (.iconst 1, 1, 0, 0, 0, 1, 0)), (1267, (.iadd, 1, 0, 0, 0, 0, 0)), (1268, (.iaload, 1, 0, 0, 0, 0, 0)), (1269, (.invokevirtual 162, 3, 102, 6194, 1, 1108, 0)), (1272, (.aload_n 2, 1, 2, 0, 0, 0, 0)), (1273, (.aload_n 0, 1, 0, 0, 0, 0, 0)), (1274, (.iload_n 3, 1, 3, 0, 0, 0, 0)), (1275, (.iconst 1, 1, 0, 0, 0, 1, 0)), (1276, (.iadd, 1, 0, 0, 0, 0, 0)), (1277, (.iaload, 1, 0, 0, 0, 0, 0)), (1278, (.invokevirtual 165, 3, 209, 7234, 1, 1117, 0))],
  [(1281, (.if_icmp .eq 203, 3, 1484, 0, 0, 0, 0)), (1284, (.iconst 0, 1, 0, 0, 0, 0, 0)), (1285, (.ireturn, 1, 0, 0, 0, 0, 0)), (1286, (.aload_n 1, 1, 1, 0, 0, 0, 0)), (1287, (.aload_n 0, 1, 0, 0, 0, 0, 0)), (1288, (.iload_n 3, 1, 3, 0, 0, 0, 0)), (1289, (.iconst 1, 1, 0, 0, 0, 1, 0)), (1290, (.iadd, 1, 0, 0, 0, 0, 0)), (1291, (.iaload, 1, 0, 0, 0, 0, 0)), (1292, (.invokevirtual 166, 3, 103, 6178, 1, 1121, 0)), (1295, (.aload_n 2, 1, 2, 0, 0, 0, 0)), (1296, (.aload_n 0, 1, 0, 0, 0, 0, 0)), (1297, (.iload_n 3, 1, 3, 0, 0, 0, 0)), (1298, (.iconst 1, 1, 0, 0, 0, 1, 0)), (1299, (.iadd, 1, 0, 0, 0, 0, 0)), (1300, (.iaload, 1, 0, 0, 0, 0, 0)), (1301, (.invokevirtual 169, 3, 210, 7218, 1, 1125, 0)), (1304, (.if_icmp .eq 180, 3, 1484, 0, 0, 0, 0)), (1307, (.iconst 0, 1, 0, 0, 0, 0, 0)), (1308, (.ireturn, 1, 0, 0, 0, 0, 0)), (1309, (.aload_n 1, 1, 1, 0, 0, 0, 0)), (1310, (.aload_n 0, 1, 0, 0, 0, 0, 0)), (1311, (.iload_n 3, 1, 3, 0, 0, 0, 0))],
  [(1312, (.iconst 1, 1, 0, 0, 0, 1, 0)), (1313, (.iadd, 1, 0, 0, 0, 0, 0)), (1314, (.iaload, 1, 0, 0, 0, 0, 0)), (1315, (.aload_n 0, 1, 0, 0, 0, 0, 0)), (1316, (.iload_n 3, 1, 3, 0, 0, 0, 0)), (1317, (.iconst 2, 1, 0, 0, 0, 2, 0)), (1318, (.iadd, 1, 0, 0, 0, 0, 0)), (1319, (.iaload, 1, 0, 0, 0, 0, 0)), (1320, (.aload_n 0, 1, 0, 0, 0, 0, 0)), (1321, (.iload_n 3, 1, 3, 0, 0, 0, 0)), (1322, (.iconst 3, 1, 0, 0, 0, 3, 0)), (1323, (.iadd, 1, 0, 0, 0, 0, 0)), (1324, (.iaload, 1, 0, 0, 0, 0, 0)), (1325, (.invokevirtual 170, 3, 104, 6212, 1, 1129, 0)), (1328, (.aload_n 2, 1, 2, 0, 0, 0, 0)), (1329, (.aload_n 0, 1, 0, 0, 0, 0, 0)), (1330, (.iload_n 3, 1, 3, 0, 0, 0, 0)), (1331, (.iconst 1, 1, 0, 0, 0, 1, 0)), (1332, (.iadd, 1, 0, 0, 0, 0, 0)), (1333, (.iaload, 1, 0, 0, 0, 0, 0)), (1334, (.aload_n 0, 1, 0, 0, 0, 0, 0)), (1335, (.iload_n 3, 1, 3, 0, 0, 0, 0)), (1336, (.iconst 2, 1, 0, 0, 0, 2, 0)), (1337, (.iadd, 1, 0, 0, 0, 0, 0)), (1338, (.iaload, 1, 0, 0, 0, 0, 0)), (1339, (.aload_n 0, 1, 0, 0, 0, 0, 0)), (1340, (.iload_n 3, 1, 3, 0, 0, 0, 0)), (1341, (.iconst 3, 1, 0, 0, 0, 3, 0)), (1342, (.iadd, 1, 0, 0, 0, 0, 0)), (1343, (.iaload, 1, 0, 0, 0, 0, 0))],
  [(1344, (.invokevirtual 173, 3, 212, 7252, 1, 1137, 0)), (1347, (.if_icmp .eq 137, 3, 1484, 0, 0, 0, 0)), (1350, (.iconst 0, 1, 0, 0, 0, 0, 0)), (1351, (.ireturn, 1, 0, 0, 0, 0, 0)), (1352, (.aload_n 1, 1, 1, 0, 0, 0, 0)), (1353, (.aload_n 0, 1, 0, 0, 0, 0, 0)), (1354, (.iload_n 3, 1, 3, 0, 0, 0, 0)), (1355, (.iconst 1, 1, 0, 0, 0, 1, 0)), (1356, (.iadd, 1, 0, 0, 0, 0, 0)), (1357, (.iaload, 1, 0, 0, 0, 0, 0)), (1358, (.aload_n 0, 1, 0, 0, 0, 0, 0)), (1359, (.iload_n 3, 1, 3, 0, 0, 0, 0)), (1360, (.iconst 2, 1, 0, 0, 0, 2, 0)), (1361, (.iadd, 1, 0, 0, 0, 0, 0)), (1362, (.iaload, 1, 0, 0, 0, 0, 0)), (1363, (.aload_n 0, 1, 0, 0, 0, 0, 0)), (1364, (.iload_n 3, 1, 3, 0, 0, 0, 0)), (1365, (.iconst 3, 1, 0, 0, 0, 3, 0)), (1366, (.iadd, 1, 0, 0, 0, 0, 0)), (1367, (.iaload, 1, 0, 0, 0, 0, 0)), (1368, (.invokevirtual 174, 3, 105, 6228, 1, 1144, 0)), (1371, (.aload_n 2, 1, 2, 0, 0, 0, 0)), (1372, (.aload_n 0, 1, 0, 0, 0, 0, 0)), (1373, (.iload_n 3, 1, 3, 0, 0, 0, 0)), (1374, (.iconst 1, 1, 0, 0, 0, 1, 0)), (1375, (.iadd, 1, 0, 0, 0, 0, 0))],
  [(1376, (.iaload, 1, 0, 0, 0, 0, 0)), (1377, (.aload_n 0, 1, 0, 0, 0, 0, 0)), (1378, (.iload_n 3, 1, 3, 0, 0, 0, 0)), (1379, (.iconst 2, 1, 0, 0, 0, 2, 0)), (1380, (.iadd, 1, 0, 0, 0, 0, 0)), (1381, (.iaload, 1, 0, 0, 0, 0, 0)), (1382, (.aload_n 0, 1, 0, 0, 0, 0, 0)), (1383, (.iload_n 3, 1, 3, 0, 0, 0, 0)), (1384, (.iconst 3, 1, 0, 0, 0, 3, 0)), (1385, (.iadd, 1, 0, 0, 0, 0, 0)), (1386, (.iaload, 1, 0, 0, 0, 0, 0)), (1387, (.invokevirtual 177, 3, 213, 7236, 1, 1152, 0)), (1390, (.if_icmp .eq 94, 3, 1484, 0, 0, 0, 0)), (1393, (.iconst 0, 1, 0, 0, 0, 0, 0)), (1394, (.ireturn, 1, 0, 0, 0, 0, 0)), (1395, (.aload_n 1, 1, 1, 0, 0, 0, 0)), (1396, (.aload_n 0, 1, 0, 0, 0, 0, 0)), (1397, (.iload_n 3, 1, 3, 0, 0, 0, 0)), (1398, (.iconst 1, 1, 0, 0, 0, 1, 0)), (1399, (.iadd, 1, 0, 0, 0, 0, 0)), (1400, (.iaload, 1, 0, 0, 0, 0, 0)), (1401, (.aload_n 0, 1, 0, 0, 0, 0, 0)), (1402, (.iload_n 3, 1, 3, 0, 0, 0, 0)), (1403, (.iconst 2, 1, 0, 0, 0, 2, 0)), (1404, (.iadd, 1, 0, 0, 0, 0, 0)), (1405, (.iaload, 1, 0, 0, 0, 0, 0)), (1406, (.aload_n 0, 1, 0, 0, 0, 0, 0)), (1407, (.iload_n 3, 1, 3, 0, 0, 0, 0))],
  [(1408, (.iconst 3, 1, 0, 0, 0, 3, 0)), (1409, (.iadd, 1, 0, 0, 0, 0, 0)), (1410, (.iaload, 1, 0, 0, 0, 0, 0)), (1411, (.aload_n 0, 1, 0, 0, 0, 0, 0)), (1412, (.iload_n 3, 1, 3, 0, 0, 0, 0)), (1413, (.iconst 4, 1, 0, 0, 0, 4, 0)), (1414, (.iadd, 1, 0, 0, 0, 0, 0)), (1415, (.iaload, 1, 0, 0, 0, 0, 0)), (1416, (.invokevirtual 178, 3, 106, 6309, 1, 1156, 0)), (1419, (.aload_n 2, 1, 2, 0, 0, 0, 0)), (1420, (.aload_n 0, 1, 0, 0, 0, 0, 0)), (1421, (.iload_n 3, 1, 3, 0, 0, 0, 0)), (1422, (.iconst 1, 1, 0, 0, 0, 1, 0)), (1423, (.iadd, 1, 0, 0, 0, 0, 0)), (1424, (.iaload, 1, 0, 0, 0, 0, 0)), (1425, (.aload_n 0, 1, 0, 0, 0, 0, 0)), (1426, (.iload_n 3, 1, 3, 0, 0, 0, 0)), (1427, (.iconst 2, 1, 0, 0, 0, 2, 0)), (1428, (.iadd, 1, 0, 0, 0, 0, 0)), (1429, (.iaload, 1, 0, 0, 0, 0, 0)), (1430, (.aload_n 0, 1, 0, 0, 0, 0, 0)), (1431, (.iload_n 3, 1, 3, 0, 0, 0, 0)), (1432, (.iconst 3, 1, 0, 0, 0, 3, 0)), (1433, (.iadd, 1, 0, 0, 0, 0, 0)), (1434, (.iaload, 1, 0, 0, 0, 0, 0)), (1435, (.aload_n 0, 1, 0, 0, 0, 0, 0)), (1436, (.iload_n 3, 1, 3, 0, 0, 0, 0)), (1437, (.iconst 4, 1, 0, 0, 0, 4, 0)), (1438, (.iadd, 1, 0, 0, 0, 0, 0)), (1439, (.iaload, 1, 0, 0, 0, 0, 0))],
  [(1440, (.invokevirtual 182, 3, 214, 7349, 1, 1178, 0)), (1443, (.if_icmp .eq 41, 3, 1484, 0, 0, 0, 0)), (1446, (.iconst 0, 1, 0, 0, 0, 0, 0)), (1447, (.ireturn, 1, 0, 0, 0, 0, 0)), (1448, (.aload_n 1, 1, 1, 0, 0, 0, 0)), (1449, (.invokevirtual 183, 3, 107, 6161, 1, 1184, 0)), (1452, (.aload_n 2, 1, 2, 0, 0, 0, 0)), (1453, (.invokevirtual 186, 3, 215, 7185, 1, 1188, 0)), (1456, (.if_icmp .eq 28, 3, 1484, 0, 0, 0, 0)), (1459, (.iconst 0, 1, 0, 0, 0, 0, 0)), (1460, (.ireturn, 1, 0, 0, 0, 0, 0)), (1461, (.aload_n 1, 1, 1, 0, 0, 0, 0)), (1462, (.aload_n 0, 1, 0, 0, 0, 0, 0)), (1463, (.iload_n 3, 1, 3, 0, 0, 0, 0)), (1464, (.iconst 1, 1, 0, 0, 0, 1, 0)), (1465, (.iadd, 1, 0, 0, 0, 0, 0)), (1466, (.iaload, 1, 0, 0, 0, 0, 0)), (1467, (.invokevirtual 187, 3, 108, 6178, 1, 1192, 0)), (1470, (.aload_n 2, 1, 2, 0, 0, 0, 0)), (1471, (.aload_n 0, 1, 0, 0, 0, 0, 0))],
  [(1472, (.iload_n 3, 1, 3, 0, 0, 0, 0)), (1473, (.iconst 1, 1, 0, 0, 0, 1, 0)), (1474, (.iadd, 1, 0, 0, 0, 0, 0)), (1475, (.iaload, 1, 0, 0, 0, 0, 0)), (1476, (.invokevirtual 190, 3, 216, 7202, 1, 1201, 0)), (1479, (.if_icmp .eq 5, 3, 1484, 0, 0, 0, 0)), (1482, (.iconst 0, 1, 0, 0, 0, 0, 0)), (1483, (.ireturn, 1, 0, 0, 0, 0, 0)), (1484, (.iinc 3 5, 3, 3, 0, 0, 5, 0)), (1487, (.goto (-1469), 3, 18, 0, 0, 0, 0)), (1490, (.iconst 1, 1, 0, 0, 0, 1, 0)), (1491, (.ireturn, 1, 0, 0, 0, 0, 0))]]
def tbs_ : List (List (List (Nat × E_))) := [tX0_blank, tX0_become, tX0_witness, tX0_frighten, tX0_look, tX0_holdOrTurn, tX0_choices, tX0_thoughtOf, tX0_isSame, tX0_isSameForAll, tX0_chanceOfSame, tX0_answerOf, tX0_kindsThatAnswer, tX1_empty, tX1_become, tX2_renew, tX2_write, tX2_refusal, tX2_wholeShowings, tX2_cell, tX3_put, tX3_readInto, tX3_blame, tX3_byteAt, tX3_tokenAt, tX3_nextToken, tX3_isNamed, tX3_readLine, tX3_sortNamed, tX3_readThing, tX3_readMeaning, tX3_readWord, tX3_readKind, tX3_withNamed, tX3_takeLetters, tX3_takeNumber, tX4_empty, tX4_addThing, tX4_addMeaning, tX4_addSound, tX4_addKind, tX4_settle, tX4_settleMeanings, tX4_hasThing, tX4_hasMeaning, tX4_hasSound, tX4_hasKind, tX4_areKinds, tX4_allThings, tX4_allMeanings, tX4_allKinds, tX4_plainest, tX4_fitting, tX4_targetThings, tX4_likeTarget, tX4_isTarget, tX4_kindsThatCan, tX4_kindsWithChance, tX4_chances, tX4_fearedBy, tX5_findRow, tX5_isHopeless, tX5_thingsWorthShowing, tX5_reaches, tX5_forgetOrder, tX5_hasOrder, tX5_tryOrders, tX6_feed, tX6_end, tX6_text, tX6_fault, tX6_thing, tX6_meaning, tX6_word, tX6_kind, tX6_show, tX6_teach, tX6_undo, tX6_clear, tX6_shown, tX6_thinks, tX6_fits, tX6_same, tX6_fled, tX6_against, tX6_common, tX6_teaching, tX6_never, tX6_order, tX6_first, tX6_fears, tX6_answer, tX6_heard, tX6_left, tX6_ask, tX6_sure, tX6_likely, tX6_theirs, tX6_hush, tX6_meant, tX6_build, tX6_draw, tX6_keep, tX6_back, tX6_sheet, tX6_lay, tX6_read, tX6_torn, tX6_count, tX6_isIn, tX6_ofLowestTerms, tX6_takeShowing, tX6_thinkAgain, tX6_chanceOfFirst, tX6_greatestLeft, tX6_areSure, tX6_fittingTheirs, tX6_mostTelling, tX6_otherSound, tX6_firstWrongRead, tX6_imagesKept, tX7_in, tX7_flag, tX7_countOf, tX7_firstDraft, tX7_keepDraft, tX7_feed, tX7_end, tX7_needs, tX7_look, tX7_is, tX7_goesOn, tX7_kindNow, tX7_nameNow, tX7_next, tX7_readNumber, tX7_readMarks, tX7_readKind, tX7_readMeans, tX7_readLine, tX7_text, tX7_fault, tX7_isThing, tX7_isSound, tX7_isKind, tX7_areKinds, tX7_marksOf, tX7_canThink, tX7_targetOf, tX7_thing, tX7_meaning, tX7_word, tX7_kind, tX7_wakes, tX7_fitsIn, tX7_allThatFit, tX7_plainest, tX7_areAllOne, tX7_proudLooks, tX7_looks, tX7_flees, tX7_sees, tX7_replays, tX7_adds, tX7_isTrue, tX7_show, tX7_teach, tX7_undo, tX7_clear, tX7_shown, tX7_thinks, tX7_fits, tX7_isSame, tX7_same, tX7_fled, tX7_against, tX7_isSameForAll, tX7_common, tX7_copies, tX7_hasFled, tX7_nextRow, tX7_teaches, tX7_fewest, tX7_teaching, tX7_never, tX7_taken, tX7_areUnlike, tX7_order, tX7_chanceOf, tX7_allChances, tX7_feared, tX7_lowest, tX7_first, tX7_fears, tX7_answerOf, tX7_answer, tX7_whoSay, tX7_heard, tX7_left, tX7_ask, tX7_sure, tX7_likely, tX7_theirs, tX7_hush, tX7_fitsTheirs, tX7_toAsk, tX7_meant, tX7_build, tX7_draw, tX7_keep, tX7_back, tX7_isSheet, tX7_sheet, tX7_lay, tX7_read, tX7_torn, tX7_count, tJ6_bitCount_0f7a4, tL_law]
def cts_ : List (List (Nat × List Bool)) := [[(7, [true, true, true]), (36, [true, true, true]), (66, [true, true, true])],
  [],
  [(65, [true, true, true, true, true, true, false, true, true])],
  [(12, [true, true, true])],
  [(196, [true, false, true, false, false, false, true, true, true, true]), (221, [true, false, true, false, false, false, true, true, true, true])],
  [(16, [true, true, true, true]), (37, [true, true, true, false, true]), (52, [true, true, true])],
  [(18, [true, true, true, true, true, true])],
  [],
  [],
  [(3, [true, true, true, true, true])],
  [(5, [true, true, true, true, true])],
  [],
  [(6, [true, true, true, true, true, true, true])],
  [],
  [],
  [(37, [true, true, false, false, true])],
  [],
  [],
  [],
  [],
  [],
  [(30, [true, true, true]), (72, [true, true])],
  [],
  [],
  [(30, [false, false, true]), (44, [false, false, true])],
  [(0, [true]), (37, [true]), (74, [true]), (101, [true]), (129, [true]), (166, [true])],
  [(28, [true, true, true])],
  [(76, [true]), (96, [true])],
  [],
  [],
  [(53, [false, true, true, true])],
  [],
  [(35, [true, true, false, true, true, true]), (81, [true, false, false, false, false, false, true])],
  [],
  [(39, [true, true, true, true]), (83, [true]), (103, [true, false, true])],
  [(31, [true, true, true, true])],
  [],
  [],
  [],
  [],
  [],
  [(2, [true, true]), (25, [true, true]), (42, [true, true, true]), (126, [true, true]), (143, [true, true, true])],
  [(2, [true, true]), (19, [true, true, true]), (70, [true, true, true]), (78, [true, true, true, true])],
  [],
  [],
  [],
  [],
  [],
  [],
  [],
  [],
  [(2, [true, true, true])],
  [],
  [],
  [],
  [],
  [(4, [true, true, true, true])],
  [(4, [true, true, true])],
  [(4, [true, true, true, true])],
  [(4, [true, true, true, true])],
  [(46, [true, true, false, false, false, true, true])],
  [(3, [true, true, true, true, true]), (57, [true, true, true, true, true])],
  [(11, [true, false, true, true, true]), (39, [true, false, true, true, true, true, true])],
  [(13, [true, true, true]), (34, [true, true, true, true])],
  [],
  [],
  [(13, [true, false, false, false, false, true]), (37, [true, true, true, true, true, true, true])],
  [(19, [true, true, false, true])],
  [],
  [(55, [true, false, false, true])],
  [],
  [],
  [],
  [],
  [],
  [],
  [],
  [],
  [],
  [],
  [],
  [],
  [],
  [],
  [],
  [(17, [true, true, true, true])],
  [(48, [true, true, true, true, true])],
  [],
  [(41, [true, true, true, true])],
  [(47, [true, true, true, true, true, true, true])],
  [],
  [],
  [(41, [true, true, true, true])],
  [],
  [(37, [true, true, true, true, true, true]), (52, [true, true, true, true, true, true, true])],
  [(33, [true, true, true, true, true])],
  [],
  [],
  [],
  [],
  [(24, [true, true, true, true]), (32, [true, true, true, true, true])],
  [(44, [true, false, false, true, true])],
  [(28, [true, true])],
  [],
  [],
  [],
  [(50, [true, true, false, true, true]), (72, [true, true, false, true, true, true]), (95, [true, true, false, true, true, true, true, false, true]), (154, [true, true, false, true, true, true, true, false, true])],
  [],
  [],
  [],
  [(8, [true, true, true, true, true, true]), (39, [true, true, true, true])],
  [],
  [(13, [true, true])],
  [],
  [],
  [(12, [true, false, true, true, true]), (55, [true, false, true, true, true])],
  [(10, [true, true, true])],
  [(8, [true, true, true, true, true])],
  [(31, [true, true, true, true, true, true]), (74, [true, true, true, true, true, true])],
  [(3, [true, true, true, true, true]), (78, [true, true, true, true, true, false, true]), (102, [true, true, true, true, true])],
  [(4, [true, true, true])],
  [],
  [],
  [(4, [true, true, true])],
  [],
  [(34, [true, true]), (60, [true, true]), (99, [true, true, true]), (175, [true, true]), (200, [true, true])],
  [(19, [true, true, false, true])],
  [],
  [],
  [],
  [],
  [(32, [true, false, false, true])],
  [(29, [true]), (79, [true])],
  [(44, [true]), (74, [true]), (160, [true]), (192, [true])],
  [(8, [true]), (82, [true]), (140, [true]), (236, []), (255, [true, true]), (276, [true])],
  [(25, [true, true, true]), (49, [true])],
  [(29, [true, true]), (40, [true, true, true, true]), (110, [true, true, true, true, true]), (138, [true, false, true])],
  [(21, [true, true, true, true, true, true, true]), (85, [true, true, true, true, true, true, true, true]), (163, [true, true, true, true, true, true, true])],
  [(38, [true, true]), (52, [true, true, true])],
  [(17, [true]), (50, [true, true]), (75, [true, true]), (100, [true, true]), (124, [true, true]), (155, [true, true]), (279, [true]), (300, [true])],
  [(20, [true, true]), (44, [true, true])],
  [],
  [],
  [],
  [],
  [],
  [],
  [(4, [true, true, true, true])],
  [],
  [],
  [(35, [true, true, true, true, true])],
  [],
  [],
  [(2, [true, true, true])],
  [],
  [(5, [true, true, true, true, true])],
  [(5, [true, true, true, true])],
  [(11, [true, true, true, true, true])],
  [(18, [true, true, true, true, true]), (65, [true, true, true, true, false, true])],
  [(25, [true, false, true, true, true, true, true, true, true]), (161, [true, false, false, true, false, false, true]), (267, [true, false, false, true, false, false, true, true]), (274, [true, false, false, true, false, false, true])],
  [(12, [true, true, false, true])],
  [(25, [true, true, true, true, true, true]), (57, [true, true, true, true, true, true, true])],
  [(7, [true, true]), (55, [true, true])],
  [],
  [],
  [],
  [],
  [],
  [],
  [],
  [],
  [],
  [],
  [],
  [],
  [],
  [(6, [true, true, true, true, true, true])],
  [(14, [true, true, true, true])],
  [(2, [true, true, true, true])],
  [(5, [true, true, true, true, true])],
  [(4, [true, false, true]), (36, [true, false, true])],
  [(12, [true, true, true, true, true])],
  [(3, [true, true, true, true, true]), (12, [true, true, true, true, true, true]), (51, [true, true, true, true, true, true])],
  [(36, [true, true, true, true])],
  [(23, [true, true, true, true, true])],
  [(11, [true, true, true, true])],
  [(4, [true, true, true])],
  [(38, [true, true, true, true, true]), (67, [true, true, true, true, true, true]), (85, [true, true, true, true, true, true, true, true]), (136, [true, true, true, true, true, true]), (166, [true, true, true, true, true, true, false, false, true])],
  [(4, [true, true, true, true])],
  [],
  [(4, [true, true, true, true])],
  [(5, [true, true, true, true, true])],
  [(31, [true, true, true, true, true, true]), (89, [true, true, true, true, true, true, true, true]), (149, [true, true, true, true, true, true, true]), (167, [true, true, true, false, true, true, true, true]), (188, [true, false, true, true, true])],
  [],
  [],
  [],
  [(6, [true, true, true, true, true, true])],
  [(34, [true, true, true, true])],
  [],
  [(22, [true, true, true, true, true]), (41, [true, true, true, true, true, true]), (56, [true, true, true, true, true, true, true, true]), (85, [true, true, true, true, true, true, true, true]), (133, [true, true, true, true, true, true, true]), (152, [true, true, false, true, true, true, true, true]), (177, [false, true, true, true])],
  [(25, [true, true, true, true, true]), (56, [true, true, true, true, true, true]), (97, [true, true, true, true, true, true, true, true]), (161, [true, true, true, true, true, true, true])],
  [(25, [true, true, true, true, true])],
  [],
  [],
  [(4, [true, true, true]), (17, [true, true, true, true, true])],
  [(8, [true, true, true, true, true]), (27, [true, true, true, true, true, true, true]), (111, [true, true, false, true, true, false, true])],
  [],
  [(42, [true, true, true, true, true]), (51, [true, true, true, true, true, true]), (63, [true, true, true, true, true, true, true]), (79, [true, true, true, true, true, true, true]), (136, [true, true, true, true, true, true, true]), (151, [true, true, true, true, true, true, true, true])],
  [(34, [true, false, true, true])],
  [(71, [true, true, true, true]), (102, [true, true, true, true])],
  [(66, [true, true, true]), (97, [true, true, true])],
  [],
  [(40, [true, true, false, false, true])],
  [],
  [(32, [true, true, true, true, true, true, true, true]), (47, [true, true, true, true, true, true, true, true, true]), (134, [true, true, true, true, true, true, true, true]), (239, [true, true, false, true, false, false, true, true]), (294, [true, true, false, true, false, false, true, true])],
  [],
  [],
  [],
  [(18, [true, true, true, true]), (454, [true, true, true, true]), (481, [true, true, true, true]), (1141, [true, true, true, true]), (1163, [true, true, true, true])]]
def sws_ : List (List (Int32 × Nat) × Nat) := [([(1, 84), (2, 119), (3, 158)], 187),
  ([(0, 48), (1, 58), (2, 68), (3, 78), (4, 88)], 97),
  ([(0, 52), (1, 62), (2, 72), (3, 82), (4, 100), (5, 110)], 120),
  ([(0, 52), (1, 62), (2, 72)], 90),
  ([(0, 28), (1, 43)], 68),
  ([(0, 28), (1, 36), (2, 51)], 66),
  ([(0, 36), (1, 41), (2, 50), (3, 52)], 67),
  ([(0, 52), (1, 60), (2, 68), (3, 76), (4, 84), (5, 92), (6, 100), (7, 105), (8, 113)], 123),
  ([(0, 36), (1, 41), (2, 47), (3, 49)], 55),
  ([(0, 52), (1, 57), (2, 62), (3, 67), (4, 72), (5, 77), (6, 82), (7, 102), (8, 107)], 130),
  ([(0, 216), (1, 269), (2, 292), (3, 305), (4, 318), (5, 341), (6, 374), (7, 397), (8, 430), (9, 489), (10, 522), (11, 535), (12, 548), (13, 581), (14, 614), (15, 647), (16, 680), (17, 703), (18, 736), (19, 759), (20, 802), (21, 835), (22, 868), (23, 901), (24, 924), (25, 967), (26, 1010), (27, 1033), (28, 1056), (29, 1089), (30, 1122), (31, 1171), (32, 1184), (33, 1207), (34, 1240), (35, 1263), (36, 1286), (37, 1309), (38, 1352), (39, 1395), (40, 1448), (41, 1461)], 1484)]
def swT_ : Nat → List (Int32 × Nat) × Nat := fun i => sws_.getD i ([], 0)
noncomputable def ex : Nat → Nat → Go_ := ex_ swT_ tbs_ cts_
theorem ex_un (d mi n pc : Nat) (lv : Lv_) (st : List V_) (O : Mem_) : ex (d + 1) mi pc lv st O = un_ swT_ (cl_ (ex d)) (tbs_.getD mi []) (cts_.getD mi []) (ex (d + 1) mi) n pc lv st O := ex_un_ d mi n pc lv st O
end
section
/-! A THING OR NONE, a truth, as the program's numbers. -/
def oI : Option Nat → Int32
  | none => -4
  | some m => nI m
def bI (b : Bool) : Int32 := nI b.toNat
end
section
set_option maxRecDepth 100000 in
theorem sX0_blank_0 (d : Nat) (O : Mem_) (n0 : Nat) (n1 : Nat) : ex (d + 1) 0 0 [some (vr 0 n0 0), some (vr 4 n1 0)] [] O =
ex (d + 1) 0 7 [some (vr 0 n0 0), some (vr 4 n1 0), some (vi (nI 0))] [] (up O 0 n0 0 0 (nI 0)) := (ex_un d 0 300 0 [some (vr 0 n0 0), some (vr 4 n1 0)] [] O).trans rfl
set_option maxRecDepth 100000 in
theorem sX0_blank_7 (d : Nat) (O : Mem_) (n0 : Nat) (n1 : Nat) (x2 : Int32) : ex (d + 1) 0 7 [some (vr 0 n0 0), some (vr 4 n1 0), some (vi x2)] [] O =
if x2 < (nI 24) then
(if ib x2 24 then
(if ib x2 24 then
(ex (d + 1) 0 7 [some (vr 0 n0 0), some (vr 4 n1 0), some (vi (x2 + (nI 1)))] [] (up (up O 0 n0 2 (Int32.toNatClampNeg x2) (oI none)) 0 n0 3 (Int32.toNatClampNeg x2) (nI 0)))
else none)
else none)
else
(ex (d + 1) 0 36 [some (vr 0 n0 0), some (vr 4 n1 0), some (vi (nI 0))] [] O) := (ex_un d 0 300 7 [some (vr 0 n0 0), some (vr 4 n1 0), some (vi x2)] [] O).trans rfl
set_option maxRecDepth 100000 in
theorem sX0_blank_36 (d : Nat) (O : Mem_) (n0 : Nat) (n1 : Nat) (x2 : Int32) : ex (d + 1) 0 36 [some (vr 0 n0 0), some (vr 4 n1 0), some (vi x2)] [] O =
if x2 < (nI 6) then
(if ib x2 6 then
(if ib x2 6 then
(ex (d + 1) 0 36 [some (vr 0 n0 0), some (vr 4 n1 0), some (vi (x2 + (nI 1)))] [] (up (up O 0 n0 4 (Int32.toNatClampNeg x2) (oI none)) 0 n0 5 (Int32.toNatClampNeg x2) (oI none)))
else none)
else none)
else
(ex (d + 1) 0 66 [some (vr 0 n0 0), some (vr 4 n1 0), some (vi (nI 0))] [] O) := (ex_un d 0 300 36 [some (vr 0 n0 0), some (vr 4 n1 0), some (vi x2)] [] O).trans rfl
set_option maxRecDepth 100000 in
theorem sX0_blank_66 (d : Nat) (O : Mem_) (n0 : Nat) (n1 : Nat) (x2 : Int32) : ex (d + 1) 0 66 [some (vr 0 n0 0), some (vr 4 n1 0), some (vi x2)] [] O =
if x2 < (nI 4) then
((ex d 49 0 [some (vr 4 n1 0)] [] O).bind fun r0 =>
if ib x2 4 then
(ex (d + 1) 0 66 [some (vr 0 n0 0), some (vr 4 n1 0), some (vi (x2 + (nI 1)))] [] (up r0.2 0 n0 6 (Int32.toNatClampNeg x2) r0.1))
else none)
else
(some (nI 0, O)) := (ex_un d 0 300 66 [some (vr 0 n0 0), some (vr 4 n1 0), some (vi x2)] [] O).trans rfl
set_option maxRecDepth 100000 in
theorem sX0_become_0 (d : Nat) (O : Mem_) (n0 : Nat) (n1 : Nat) : ex (d + 1) 1 0 [some (vr 0 n0 0), some (vr 0 n1 0)] [] O =
some (nI 0, (cpy (cpy (cpy (cpy (cpy (up O 0 n0 0 0 (O 0 n1 0 0)) 0 n1 2 0 n0 2 0 0 24) 0 n1 3 0 n0 3 0 0 24) 0 n1 4 0 n0 4 0 0 6) 0 n1 5 0 n0 5 0 0 6) 0 n1 6 0 n0 6 0 0 4)) := (ex_un d 1 300 0 [some (vr 0 n0 0), some (vr 0 n1 0)] [] O).trans rfl
set_option maxRecDepth 100000 in
theorem sX0_witness_0 (d : Nat) (O : Mem_) (n0 : Nat) (n1 : Nat) (x2 : Int32) (x3 : Int32) (x4 : Int32) (x5 : Int32) : ex (d + 1) 2 0 [some (vr 0 n0 0), some (vr 4 n1 0), some (vi x2), some (vi x3), some (vi x4), some (vi x5)] [] O =
(ex d 45 0 [some (vr 4 n1 0), some (vi x3)] [] O).bind fun r0 =>
if r0.1 = nI 0 then
(some ((nI 0), r0.2))
else
((ex d 43 0 [some (vr 4 n1 0), some (vi x4)] [] r0.2).bind fun r1 =>
if r1.1 = nI 0 then
(some ((nI 0), r1.2))
else
(if ib x3 4 then
(if ib x3 4 then
((ex d 52 0 [some (vr 4 n1 0), some (vi x4), some (vi x5)] [] r1.2).bind fun r2 =>
if ib x3 4 then
(if ib x3 4 then
(if ((up r2.2 0 n0 6 (Int32.toNatClampNeg x3) ((r1.2 0 n0 6 (Int32.toNatClampNeg x3)) &&& r2.1)) 0 n0 6 (Int32.toNatClampNeg x3)) = (r1.2 0 n0 6 (Int32.toNatClampNeg x3)) then
(ex (d + 1) 2 65 [some (vr 0 n0 0), some (vr 4 n1 0), some (vi x2), some (vi x3), some (vi x4), some (vi x5), none, some (vi (nI 0)), some (vi (nI 0))] [] (up r2.2 0 n0 6 (Int32.toNatClampNeg x3) ((r1.2 0 n0 6 (Int32.toNatClampNeg x3)) &&& r2.1)))
else
(ex (d + 1) 2 65 [some (vr 0 n0 0), some (vr 4 n1 0), some (vi x2), some (vi x3), some (vi x4), some (vi x5), none, some (vi (nI 1)), some (vi (nI 0))] [] (up r2.2 0 n0 6 (Int32.toNatClampNeg x3) ((r1.2 0 n0 6 (Int32.toNatClampNeg x3)) &&& r2.1))))
else none)
else none)
else none)
else none)) := (ex_un d 2 300 0 [some (vr 0 n0 0), some (vr 4 n1 0), some (vi x2), some (vi x3), some (vi x4), some (vi x5)] [] O).trans rfl
set_option maxRecDepth 100000 in
theorem sX0_witness_65 (d : Nat) (O : Mem_) (n0 : Nat) (n1 : Nat) (x2 : Int32) (x3 : Int32) (x4 : Int32) (x5 : Int32) (x7 : Int32) (x8 : Int32) : ex (d + 1) 2 65 [some (vr 0 n0 0), some (vr 4 n1 0), some (vi x2), some (vi x3), some (vi x4), some (vi x5), none, some (vi x7), some (vi x8)] [] O =
if x8 < (O 4 n1 0 3) then
((ex d 109 0 [some (vi x8), some (vi x2)] [] O).bind fun r0 =>
if r0.1 = nI 0 then
(ex (d + 1) 2 65 [some (vr 0 n0 0), some (vr 4 n1 0), some (vi x2), some (vi x3), some (vi x4), some (vi x5), none, some (vi x7), some (vi (x8 + (nI 1)))] [] r0.2)
else
(if ib x8 6 then
(if (r0.2 0 n0 5 (Int32.toNatClampNeg x8)) = (oI none) then
(if ib x8 6 then
(if (r0.2 4 n1 16 (Int32.toNatClampNeg x8)) = x4 then
((ex d 3 0 [some (vr 0 n0 0), some (vi x8)] [] r0.2).bind fun r1 =>
ex (d + 1) 2 65 [some (vr 0 n0 0), some (vr 4 n1 0), some (vi x2), some (vi x3), some (vi x4), some (vi x5), none, some (vi (nI 1)), some (vi (x8 + (nI 1)))] [] r1.2)
else
((ex d 4 0 [some (vr 0 n0 0), some (vr 4 n1 0), some (vi x8), some (vi x3), some (vi x4), some (vi x5)] [] r0.2).bind fun r2 =>
if r2.1 = nI 0 then
(ex (d + 1) 2 65 [some (vr 0 n0 0), some (vr 4 n1 0), some (vi x2), some (vi x3), some (vi x4), some (vi x5), none, some (vi x7), some (vi (x8 + (nI 1)))] [] r2.2)
else
(ex (d + 1) 2 65 [some (vr 0 n0 0), some (vr 4 n1 0), some (vi x2), some (vi x3), some (vi x4), some (vi x5), none, some (vi (nI 1)), some (vi (x8 + (nI 1)))] [] r2.2)))
else none)
else
(ex (d + 1) 2 65 [some (vr 0 n0 0), some (vr 4 n1 0), some (vi x2), some (vi x3), some (vi x4), some (vi x5), none, some (vi x7), some (vi (x8 + (nI 1)))] [] r0.2))
else none))
else
(if x7 = nI 0 ∨ x7 = nI 1 then some (x7, (up O 0 n0 0 0 ((O 0 n0 0 0) + (nI 1)))) else none) := (ex_un d 2 300 65 [some (vr 0 n0 0), some (vr 4 n1 0), some (vi x2), some (vi x3), some (vi x4), some (vi x5), none, some (vi x7), some (vi x8)] [] O).trans rfl
set_option maxRecDepth 100000 in
theorem sX0_frighten_0 (d : Nat) (O : Mem_) (n0 : Nat) (x1 : Int32) : ex (d + 1) 3 0 [some (vr 0 n0 0), some (vi x1)] [] O =
if ib x1 6 then
(ex (d + 1) 3 12 [some (vr 0 n0 0), some (vi x1), some (vi (nI 0))] [] (up O 0 n0 5 (Int32.toNatClampNeg x1) (O 0 n0 0 0)))
else none := (ex_un d 3 300 0 [some (vr 0 n0 0), some (vi x1)] [] O).trans rfl
set_option maxRecDepth 100000 in
theorem sX0_frighten_12 (d : Nat) (O : Mem_) (n0 : Nat) (x1 : Int32) (x2 : Int32) : ex (d + 1) 3 12 [some (vr 0 n0 0), some (vi x1), some (vi x2)] [] O =
if x2 < (nI 4) then
(if ib ((x1 * (nI 4)) + x2) 24 then
(if ib ((x1 * (nI 4)) + x2) 24 then
(ex (d + 1) 3 12 [some (vr 0 n0 0), some (vi x1), some (vi (x2 + (nI 1)))] [] (up (up O 0 n0 2 (Int32.toNatClampNeg ((x1 * (nI 4)) + x2)) (oI none)) 0 n0 3 (Int32.toNatClampNeg ((x1 * (nI 4)) + x2)) (nI 0)))
else none)
else none)
else
(some (nI 0, O)) := (ex_un d 3 300 12 [some (vr 0 n0 0), some (vi x1), some (vi x2)] [] O).trans rfl
set_option maxRecDepth 100000 in
theorem sX0_look_0 (d : Nat) (O : Mem_) (n0 : Nat) (n1 : Nat) (x2 : Int32) (x3 : Int32) (x4 : Int32) (x5 : Int32) : ex (d + 1) 4 0 [some (vr 0 n0 0), some (vr 4 n1 0), some (vi x2), some (vi x3), some (vi x4), some (vi x5)] [] O =
if ib ((x2 * (nI 4)) + x3) 24 then
(if ib ((x2 * (nI 4)) + x3) 24 then
(if ib x2 6 then
((ex d 6 0 [some (vr 0 n0 0), some (vr 4 n1 0), some (vi x2), some (vi x3)] [] O).bind fun r0 =>
(ex d 51 0 [some (vr 4 n1 0), some (vi r0.1)] [] r0.2).bind fun r1 =>
if ib x2 6 then
(if (r1.2 4 n1 14 (Int32.toNatClampNeg x2)) = (nI 1) then
(if ib x2 6 then
((ex d 109 0 [some (vi (r1.2 0 n0 4 (Int32.toNatClampNeg x2))), some (vi r0.1)] [] r1.2).bind fun r2 =>
if r2.1 = nI 0 then
(if ib ((x2 * (nI 4)) + x3) 24 then
(ex (d + 1) 4 196 [some (vr 0 n0 0), none, some (vi x2), none, none, none, some (vi ((x2 * (nI 4)) + x3)), some (vi (O 0 n0 2 (Int32.toNatClampNeg ((x2 * (nI 4)) + x3)))), some (vi (O 0 n0 3 (Int32.toNatClampNeg ((x2 * (nI 4)) + x3)))), some (vi (O 0 n0 4 (Int32.toNatClampNeg x2)))] [] (up r2.2 0 n0 2 (Int32.toNatClampNeg ((x2 * (nI 4)) + x3)) r1.1))
else none)
else
(if ib x2 6 then
(if ib ((x2 * (nI 4)) + x3) 24 then
(ex (d + 1) 4 196 [some (vr 0 n0 0), none, some (vi x2), none, none, none, some (vi ((x2 * (nI 4)) + x3)), some (vi (O 0 n0 2 (Int32.toNatClampNeg ((x2 * (nI 4)) + x3)))), some (vi (O 0 n0 3 (Int32.toNatClampNeg ((x2 * (nI 4)) + x3)))), some (vi (O 0 n0 4 (Int32.toNatClampNeg x2)))] [] (up r2.2 0 n0 2 (Int32.toNatClampNeg ((x2 * (nI 4)) + x3)) (r2.2 0 n0 4 (Int32.toNatClampNeg x2))))
else none)
else none))
else none)
else if (r1.2 4 n1 14 (Int32.toNatClampNeg x2)) = (nI 2) then
(if r1.1 = (oI none) then
(if ib ((x2 * (nI 4)) + x3) 24 then
(ex (d + 1) 4 196 [some (vr 0 n0 0), none, some (vi x2), none, none, none, some (vi ((x2 * (nI 4)) + x3)), some (vi (O 0 n0 2 (Int32.toNatClampNeg ((x2 * (nI 4)) + x3)))), some (vi (O 0 n0 3 (Int32.toNatClampNeg ((x2 * (nI 4)) + x3)))), some (vi (O 0 n0 4 (Int32.toNatClampNeg x2)))] [] (up r1.2 0 n0 2 (Int32.toNatClampNeg ((x2 * (nI 4)) + x3)) (oI none)))
else none)
else
(if ib r1.1 12 then
(if (r0.1 &&& ((r1.2 4 n1 11 (Int32.toNatClampNeg r1.1)) ^^^ (-1))) = nI 0 then
(if ib ((x2 * (nI 4)) + x3) 24 then
(ex (d + 1) 4 196 [some (vr 0 n0 0), none, some (vi x2), none, none, none, some (vi ((x2 * (nI 4)) + x3)), some (vi (O 0 n0 2 (Int32.toNatClampNeg ((x2 * (nI 4)) + x3)))), some (vi (O 0 n0 3 (Int32.toNatClampNeg ((x2 * (nI 4)) + x3)))), some (vi (O 0 n0 4 (Int32.toNatClampNeg x2)))] [] (up r1.2 0 n0 2 (Int32.toNatClampNeg ((x2 * (nI 4)) + x3)) r1.1))
else none)
else
(if ib ((x2 * (nI 4)) + x3) 24 then
(ex (d + 1) 4 196 [some (vr 0 n0 0), none, some (vi x2), none, none, none, some (vi ((x2 * (nI 4)) + x3)), some (vi (O 0 n0 2 (Int32.toNatClampNeg ((x2 * (nI 4)) + x3)))), some (vi (O 0 n0 3 (Int32.toNatClampNeg ((x2 * (nI 4)) + x3)))), some (vi (O 0 n0 4 (Int32.toNatClampNeg x2)))] [] (up r1.2 0 n0 2 (Int32.toNatClampNeg ((x2 * (nI 4)) + x3)) (oI none)))
else none))
else none))
else if (r1.2 4 n1 14 (Int32.toNatClampNeg x2)) = (nI 3) then
(if ib ((x2 * (nI 4)) + x3) 24 then
((ex d 52 0 [some (vr 4 n1 0), some (vi x4), some (vi x5)] [] r1.2).bind fun r3 =>
(ex d 109 0 [some (vi (r1.2 0 n0 2 (Int32.toNatClampNeg ((x2 * (nI 4)) + x3)))), some (vi r3.1)] [] r3.2).bind fun r4 =>
(ex d 5 0 [some (vr 0 n0 0), some (vi ((x2 * (nI 4)) + x3)), some (vi r1.1), some (vi r4.1)] [] r4.2).bind fun r5 =>
ex (d + 1) 4 196 [some (vr 0 n0 0), none, some (vi x2), none, none, none, some (vi ((x2 * (nI 4)) + x3)), some (vi (O 0 n0 2 (Int32.toNatClampNeg ((x2 * (nI 4)) + x3)))), some (vi (O 0 n0 3 (Int32.toNatClampNeg ((x2 * (nI 4)) + x3)))), some (vi (O 0 n0 4 (Int32.toNatClampNeg x2)))] [] r5.2)
else none)
else 
(if ib ((x2 * (nI 4)) + x3) 24 then
(ex (d + 1) 4 196 [some (vr 0 n0 0), none, some (vi x2), none, none, none, some (vi ((x2 * (nI 4)) + x3)), some (vi (O 0 n0 2 (Int32.toNatClampNeg ((x2 * (nI 4)) + x3)))), some (vi (O 0 n0 3 (Int32.toNatClampNeg ((x2 * (nI 4)) + x3)))), some (vi (O 0 n0 4 (Int32.toNatClampNeg x2)))] [] (up r1.2 0 n0 2 (Int32.toNatClampNeg ((x2 * (nI 4)) + x3)) r1.1))
else none))
else none)
else none)
else none)
else none := (ex_un d 4 300 0 [some (vr 0 n0 0), some (vr 4 n1 0), some (vi x2), some (vi x3), some (vi x4), some (vi x5)] [] O).trans rfl
set_option maxRecDepth 100000 in
theorem sX0_look_196 (d : Nat) (O : Mem_) (n0 : Nat) (x2 : Int32) (x6 : Int32) (x7 : Int32) (x8 : Int32) (x9 : Int32) : ex (d + 1) 4 196 [some (vr 0 n0 0), none, some (vi x2), none, none, none, some (vi x6), some (vi x7), some (vi x8), some (vi x9)] [] O =
if ib x6 24 then
(if (O 0 n0 2 (Int32.toNatClampNeg x6)) = (oI none) then
(ex (d + 1) 4 221 [some (vr 0 n0 0), none, some (vi x2), none, none, none, some (vi x6), some (vi x7), some (vi x8), some (vi x9)] [] O)
else
(if ib x6 24 then
(if ib x2 6 then
(ex (d + 1) 4 221 [some (vr 0 n0 0), none, some (vi x2), none, none, none, some (vi x6), some (vi x7), some (vi x8), some (vi x9)] [] (up O 0 n0 4 (Int32.toNatClampNeg x2) (O 0 n0 2 (Int32.toNatClampNeg x6))))
else none)
else none))
else none := (ex_un d 4 300 196 [some (vr 0 n0 0), none, some (vi x2), none, none, none, some (vi x6), some (vi x7), some (vi x8), some (vi x9)] [] O).trans rfl
set_option maxRecDepth 100000 in
theorem sX0_look_221 (d : Nat) (O : Mem_) (n0 : Nat) (x2 : Int32) (x6 : Int32) (x7 : Int32) (x8 : Int32) (x9 : Int32) : ex (d + 1) 4 221 [some (vr 0 n0 0), none, some (vi x2), none, none, none, some (vi x6), some (vi x7), some (vi x8), some (vi x9)] [] O =
if ib x6 24 then
(if (O 0 n0 2 (Int32.toNatClampNeg x6)) = x7 then
(if ib x6 24 then
(if (O 0 n0 3 (Int32.toNatClampNeg x6)) = x8 then
(if ib x2 6 then
(if (O 0 n0 4 (Int32.toNatClampNeg x2)) = x9 then
(some ((nI 0), O))
else
(some ((nI 1), O)))
else none)
else
(some ((nI 1), O)))
else none)
else
(some ((nI 1), O)))
else none := (ex_un d 4 300 221 [some (vr 0 n0 0), none, some (vi x2), none, none, none, some (vi x6), some (vi x7), some (vi x8), some (vi x9)] [] O).trans rfl
set_option maxRecDepth 100000 in
theorem sX0_holdOrTurn_0 (d : Nat) (O : Mem_) (n0 : Nat) (x1 : Int32) (x2 : Int32) (x3 : Int32) : ex (d + 1) 5 0 [some (vr 0 n0 0), some (vi x1), some (vi x2), some (vi x3)] [] O =
if ib x1 24 then
(if (O 0 n0 2 (Int32.toNatClampNeg x1)) = (oI none) then
(ex (d + 1) 5 16 [some (vr 0 n0 0), some (vi x1), some (vi x2), some (vi x3)] [vi (nI 0)] O)
else
(ex (d + 1) 5 16 [some (vr 0 n0 0), some (vi x1), some (vi x2), some (vi x3)] [vi (nI 1)] O))
else none := (ex_un d 5 300 0 [some (vr 0 n0 0), some (vi x1), some (vi x2), some (vi x3)] [] O).trans rfl
set_option maxRecDepth 100000 in
theorem sX0_holdOrTurn_16 (d : Nat) (O : Mem_) (n0 : Nat) (x1 : Int32) (x2 : Int32) (x3 : Int32) (y0 : Int32) : ex (d + 1) 5 16 [some (vr 0 n0 0), some (vi x1), some (vi x2), some (vi x3)] [vi y0] O =
if y0 = nI 0 then
(ex (d + 1) 5 37 [some (vr 0 n0 0), some (vi x1), some (vi x2), none, some (vi y0)] [] O)
else
(if x3 = nI 0 then
(if ib x1 24 then
(if ib x1 24 then
(ex (d + 1) 5 37 [some (vr 0 n0 0), some (vi x1), some (vi x2), none, some (vi y0)] [] (up O 0 n0 3 (Int32.toNatClampNeg x1) ((O 0 n0 3 (Int32.toNatClampNeg x1)) + (nI 1))))
else none)
else none)
else
(ex (d + 1) 5 37 [some (vr 0 n0 0), some (vi x1), some (vi x2), none, some (vi y0)] [] O)) := (ex_un d 5 300 16 [some (vr 0 n0 0), some (vi x1), some (vi x2), some (vi x3)] [vi y0] O).trans rfl
set_option maxRecDepth 100000 in
theorem sX0_holdOrTurn_37 (d : Nat) (O : Mem_) (n0 : Nat) (x1 : Int32) (x2 : Int32) (x4 : Int32) : ex (d + 1) 5 37 [some (vr 0 n0 0), some (vi x1), some (vi x2), none, some (vi x4)] [] O =
if x4 = nI 0 then
(ex (d + 1) 5 52 [some (vr 0 n0 0), some (vi x1), some (vi x2)] [] O)
else
(if ib x1 24 then
(if (O 0 n0 3 (Int32.toNatClampNeg x1)) < (nI 2) then
(some (nI 0, O))
else
(ex (d + 1) 5 52 [some (vr 0 n0 0), some (vi x1), some (vi x2)] [] O))
else none) := (ex_un d 5 300 37 [some (vr 0 n0 0), some (vi x1), some (vi x2), none, some (vi x4)] [] O).trans rfl
set_option maxRecDepth 100000 in
theorem sX0_holdOrTurn_52 (d : Nat) (O : Mem_) (n0 : Nat) (x1 : Int32) (x2 : Int32) : ex (d + 1) 5 52 [some (vr 0 n0 0), some (vi x1), some (vi x2)] [] O =
if ib x1 24 then
(if ib x1 24 then
(some (nI 0, (up (up O 0 n0 2 (Int32.toNatClampNeg x1) x2) 0 n0 3 (Int32.toNatClampNeg x1) (nI 0))))
else none)
else none := (ex_un d 5 300 52 [some (vr 0 n0 0), some (vi x1), some (vi x2)] [] O).trans rfl
set_option maxRecDepth 100000 in
theorem sX0_choices_0 (d : Nat) (O : Mem_) (n0 : Nat) (n1 : Nat) (x2 : Int32) (x3 : Int32) : ex (d + 1) 6 0 [some (vr 0 n0 0), some (vr 4 n1 0), some (vi x2), some (vi x3)] [] O =
if ib x3 4 then
(if ib x2 6 then
(ex (d + 1) 6 18 [some (vr 0 n0 0), some (vr 4 n1 0), some (vi x2), some (vi x3), some (vi ((O 0 n0 6 (Int32.toNatClampNeg x3)) &&& (O 4 n1 19 (Int32.toNatClampNeg x2)))), some (vi (nI 0))] [] O)
else none)
else none := (ex_un d 6 300 0 [some (vr 0 n0 0), some (vr 4 n1 0), some (vi x2), some (vi x3)] [] O).trans rfl
set_option maxRecDepth 100000 in
theorem sX0_choices_18 (d : Nat) (O : Mem_) (n0 : Nat) (n1 : Nat) (x2 : Int32) (x3 : Int32) (x4 : Int32) (x5 : Int32) : ex (d + 1) 6 18 [some (vr 0 n0 0), some (vr 4 n1 0), some (vi x2), some (vi x3), some (vi x4), some (vi x5)] [] O =
if x5 < (O 4 n1 0 2) then
(if ib x2 6 then
(if (O 4 n1 17 (Int32.toNatClampNeg x2)) = nI 0 then
(some (x4, O))
else
((ex d 7 0 [some (vr 0 n0 0), some (vi x2), some (vi x5)] [] O).bind fun r0 =>
if x5 = x3 then
(ex (d + 1) 6 18 [some (vr 0 n0 0), some (vr 4 n1 0), some (vi x2), some (vi x3), some (vi x4), some (vi (x5 + (nI 1)))] [] r0.2)
else
(if r0.1 = (oI none) then
(ex (d + 1) 6 18 [some (vr 0 n0 0), some (vr 4 n1 0), some (vi x2), some (vi x3), some (vi x4), some (vi (x5 + (nI 1)))] [] r0.2)
else
(ex (d + 1) 6 18 [some (vr 0 n0 0), some (vr 4 n1 0), some (vi x2), some (vi x3), some (vi (x4 &&& (((nI 1) <<< (r0.1 &&& (31:Int32))) ^^^ (-1)))), some (vi (x5 + (nI 1)))] [] r0.2))))
else none)
else
(some (x4, O)) := (ex_un d 6 300 18 [some (vr 0 n0 0), some (vr 4 n1 0), some (vi x2), some (vi x3), some (vi x4), some (vi x5)] [] O).trans rfl
set_option maxRecDepth 100000 in
theorem sX0_thoughtOf_0 (d : Nat) (O : Mem_) (n0 : Nat) (x1 : Int32) (x2 : Int32) : ex (d + 1) 7 0 [some (vr 0 n0 0), some (vi x1), some (vi x2)] [] O =
if ((x1 * (nI 4)) + x2) < nI 0 then
(some ((oI none), O))
else
(if ((x1 * (nI 4)) + x2) < (nI 24) then
(if ib ((x1 * (nI 4)) + x2) 24 then
(some ((O 0 n0 2 (Int32.toNatClampNeg ((x1 * (nI 4)) + x2))), O))
else none)
else
(some ((oI none), O))) := (ex_un d 7 300 0 [some (vr 0 n0 0), some (vi x1), some (vi x2)] [] O).trans rfl
set_option maxRecDepth 100000 in
theorem sX0_isSame_0 (d : Nat) (O : Mem_) (n0 : Nat) (n1 : Nat) (x2 : Int32) (x3 : Int32) : ex (d + 1) 8 0 [some (vr 0 n0 0), some (vr 4 n1 0), some (vi x2), some (vi x3)] [] O =
(ex d 7 0 [some (vr 0 n0 0), some (vi x2), some (vi x3)] [] O).bind fun r0 =>
(ex d 54 0 [some (vr 4 n1 0), some (vi x3)] [] r0.2).bind fun r1 =>
(ex d 109 0 [some (vi r0.1), some (vi r1.1)] [] r1.2).bind fun r2 =>
if r2.1 = nI 0 ∨ r2.1 = nI 1 then some (r2.1, r2.2) else none := (ex_un d 8 300 0 [some (vr 0 n0 0), some (vr 4 n1 0), some (vi x2), some (vi x3)] [] O).trans rfl
set_option maxRecDepth 100000 in
theorem sX0_isSameForAll_0 (d : Nat) (O : Mem_) (n0 : Nat) (n1 : Nat) (x2 : Int32) (x3 : Int32) : ex (d + 1) 9 0 [some (vr 0 n0 0), some (vr 4 n1 0), some (vi x2), some (vi x3)] [] O =
ex (d + 1) 9 3 [some (vr 0 n0 0), some (vr 4 n1 0), some (vi x2), some (vi x3), some (vi (nI 0))] [] O := (ex_un d 9 300 0 [some (vr 0 n0 0), some (vr 4 n1 0), some (vi x2), some (vi x3)] [] O).trans rfl
set_option maxRecDepth 100000 in
theorem sX0_isSameForAll_3 (d : Nat) (O : Mem_) (n0 : Nat) (n1 : Nat) (x2 : Int32) (x3 : Int32) (x4 : Int32) : ex (d + 1) 9 3 [some (vr 0 n0 0), some (vr 4 n1 0), some (vi x2), some (vi x3), some (vi x4)] [] O =
if x4 < (O 4 n1 0 3) then
((ex d 109 0 [some (vi x4), some (vi x2)] [] O).bind fun r0 =>
if r0.1 = nI 0 then
(ex (d + 1) 9 3 [some (vr 0 n0 0), some (vr 4 n1 0), some (vi x2), some (vi x3), some (vi (x4 + (nI 1)))] [] r0.2)
else
((ex d 8 0 [some (vr 0 n0 0), some (vr 4 n1 0), some (vi x4), some (vi x3)] [] r0.2).bind fun r1 =>
if r1.1 = nI 0 then
(some ((nI 0), r1.2))
else
(ex (d + 1) 9 3 [some (vr 0 n0 0), some (vr 4 n1 0), some (vi x2), some (vi x3), some (vi (x4 + (nI 1)))] [] r1.2)))
else
(some ((nI 1), O)) := (ex_un d 9 300 3 [some (vr 0 n0 0), some (vr 4 n1 0), some (vi x2), some (vi x3), some (vi x4)] [] O).trans rfl
set_option maxRecDepth 100000 in
theorem sX0_chanceOfSame_0 (d : Nat) (O : Mem_) (n0 : Nat) (n1 : Nat) (x2 : Int32) : ex (d + 1) 10 0 [some (vr 0 n0 0), some (vr 4 n1 0), some (vi x2)] [] O =
ex (d + 1) 10 5 [some (vr 0 n0 0), some (vr 4 n1 0), some (vi x2), some (vi (nI 0)), some (vi (nI 0))] [] O := (ex_un d 10 300 0 [some (vr 0 n0 0), some (vr 4 n1 0), some (vi x2)] [] O).trans rfl
set_option maxRecDepth 100000 in
theorem sX0_chanceOfSame_5 (d : Nat) (O : Mem_) (n0 : Nat) (n1 : Nat) (x2 : Int32) (x3 : Int32) (x4 : Int32) : ex (d + 1) 10 5 [some (vr 0 n0 0), some (vr 4 n1 0), some (vi x2), some (vi x3), some (vi x4)] [] O =
if x4 < (O 4 n1 0 3) then
((ex d 8 0 [some (vr 0 n0 0), some (vr 4 n1 0), some (vi x4), some (vi x2)] [] O).bind fun r0 =>
if r0.1 = nI 0 then
(ex (d + 1) 10 5 [some (vr 0 n0 0), some (vr 4 n1 0), some (vi x2), some (vi x3), some (vi (x4 + (nI 1)))] [] r0.2)
else
(if ib x4 6 then
(ex (d + 1) 10 5 [some (vr 0 n0 0), some (vr 4 n1 0), some (vi x2), some (vi (x3 + (r0.2 4 n1 18 (Int32.toNatClampNeg x4)))), some (vi (x4 + (nI 1)))] [] r0.2)
else none))
else
(some (x3, O)) := (ex_un d 10 300 5 [some (vr 0 n0 0), some (vr 4 n1 0), some (vi x2), some (vi x3), some (vi x4)] [] O).trans rfl
set_option maxRecDepth 100000 in
theorem sX0_answerOf_0 (d : Nat) (O : Mem_) (n0 : Nat) (n1 : Nat) (x2 : Int32) (x3 : Int32) (x4 : Int32) : ex (d + 1) 11 0 [some (vr 0 n0 0), some (vr 4 n1 0), some (vi x2), some (vi x3), some (vi x4)] [] O =
(ex d 7 0 [some (vr 0 n0 0), some (vi x2), some (vi x3)] [] O).bind fun r0 =>
(ex d 44 0 [some (vr 4 n1 0), some (vi r0.1)] [] r0.2).bind fun r1 =>
if r1.1 = nI 0 then
(some ((oI none), r1.2))
else
(if ib r0.1 12 then
((ex d 109 0 [some (vi x4), some (vi (r1.2 4 n1 10 (Int32.toNatClampNeg r0.1)))] [] r1.2).bind fun r2 =>
if r2.1 = nI 0 then
(some ((nI 0), r2.2))
else
(some ((nI 1), r2.2)))
else none) := (ex_un d 11 300 0 [some (vr 0 n0 0), some (vr 4 n1 0), some (vi x2), some (vi x3), some (vi x4)] [] O).trans rfl
set_option maxRecDepth 100000 in
theorem sX0_kindsThatAnswer_0 (d : Nat) (O : Mem_) (n0 : Nat) (n1 : Nat) (x2 : Int32) (x3 : Int32) (x4 : Int32) : ex (d + 1) 12 0 [some (vr 0 n0 0), some (vr 4 n1 0), some (vi x2), some (vi x3), some (vi x4)] [] O =
ex (d + 1) 12 6 [some (vr 0 n0 0), some (vr 4 n1 0), some (vi x2), some (vi x3), some (vi x4), some (vi (nI 0)), some (vi (nI 0))] [] O := (ex_un d 12 300 0 [some (vr 0 n0 0), some (vr 4 n1 0), some (vi x2), some (vi x3), some (vi x4)] [] O).trans rfl
set_option maxRecDepth 100000 in
theorem sX0_kindsThatAnswer_6 (d : Nat) (O : Mem_) (n0 : Nat) (n1 : Nat) (x2 : Int32) (x3 : Int32) (x4 : Int32) (x5 : Int32) (x6 : Int32) : ex (d + 1) 12 6 [some (vr 0 n0 0), some (vr 4 n1 0), some (vi x2), some (vi x3), some (vi x4), some (vi x5), some (vi x6)] [] O =
if x6 < (O 4 n1 0 3) then
((ex d 11 0 [some (vr 0 n0 0), some (vr 4 n1 0), some (vi x6), some (vi x2), some (vi x3)] [] O).bind fun r0 =>
if r0.1 = x4 then
(ex (d + 1) 12 6 [some (vr 0 n0 0), some (vr 4 n1 0), some (vi x2), some (vi x3), some (vi x4), some (vi (x5 ||| ((nI 1) <<< (x6 &&& (31:Int32))))), some (vi (x6 + (nI 1)))] [] r0.2)
else
(ex (d + 1) 12 6 [some (vr 0 n0 0), some (vr 4 n1 0), some (vi x2), some (vi x3), some (vi x4), some (vi x5), some (vi (x6 + (nI 1)))] [] r0.2))
else
(some (x5, O)) := (ex_un d 12 300 6 [some (vr 0 n0 0), some (vr 4 n1 0), some (vi x2), some (vi x3), some (vi x4), some (vi x5), some (vi x6)] [] O).trans rfl
set_option maxRecDepth 100000 in
theorem sX1_empty_0 (d : Nat) (O : Mem_) (n0 : Nat) (n1 : Nat) : ex (d + 1) 13 0 [some (vr 1 n0 0), some (vr 4 n1 0)] [] O =
(ex d 50 0 [some (vr 4 n1 0)] [] (up (up O 1 n0 0 0 (nI 0)) 1 n0 0 5 (nI 0))).bind fun r0 =>
some (nI 0, (up r0.2 1 n0 0 4 r0.1)) := (ex_un d 13 300 0 [some (vr 1 n0 0), some (vr 4 n1 0)] [] O).trans rfl
set_option maxRecDepth 100000 in
theorem sX1_become_0 (d : Nat) (O : Mem_) (n0 : Nat) (n1 : Nat) : ex (d + 1) 14 0 [some (vr 1 n0 0), some (vr 1 n1 0)] [] O =
(if bok (cpy (cpy (up (up (up O 1 n0 0 0 (O 1 n1 0 0)) 1 n0 0 4 ((up O 1 n0 0 0 (O 1 n1 0 0)) 1 n1 0 4)) 1 n0 0 5 ((up (up O 1 n0 0 0 (O 1 n1 0 0)) 1 n0 0 4 ((up O 1 n0 0 0 (O 1 n1 0 0)) 1 n1 0 4)) 1 n1 0 5)) 1 n1 2 1 n0 2 0 0 24) 1 n1 3 1 n0 3 0 0 24) 1 n1 4 0 24 then some (nI 0, cpy (cpy (cpy (up (up (up O 1 n0 0 0 (O 1 n1 0 0)) 1 n0 0 4 ((up O 1 n0 0 0 (O 1 n1 0 0)) 1 n1 0 4)) 1 n0 0 5 ((up (up O 1 n0 0 0 (O 1 n1 0 0)) 1 n0 0 4 ((up O 1 n0 0 0 (O 1 n1 0 0)) 1 n1 0 4)) 1 n1 0 5)) 1 n1 2 1 n0 2 0 0 24) 1 n1 3 1 n0 3 0 0 24) 1 n1 4 1 n0 4 0 0 24) else none).bind fun r0 =>
(if bok (cpy r0.2 1 n1 7 1 n0 7 0 0 12) 1 n1 8 0 12 then some (nI 0, cpy (cpy r0.2 1 n1 7 1 n0 7 0 0 12) 1 n1 8 1 n0 8 0 0 12) else none).bind fun r1 =>
some (nI 0, r1.2) := (ex_un d 14 300 0 [some (vr 1 n0 0), some (vr 1 n1 0)] [] O).trans rfl
set_option maxRecDepth 100000 in
theorem sX2_renew_0 (d : Nat) (O : Mem_) (x1 : Int32) (x2 : Int32) (x3 : Int32) : ex (d + 1) 15 0 [some (vr 2 0 0), some (vi x1), some (vi x2), some (vi x3)] [] O =
if x1 < nI 0 then
(some (nI 0, O))
else
(if x1 < (nI 4) then
(if x3 < nI 0 then
(some (nI 0, O))
else
(if (nI 40) < x3 then
(some (nI 0, O))
else
(if ib x1 4 then
(if ib x1 4 then
(ex (d + 1) 15 37 [some (vr 2 0 0), some (vi x1), none, none, some (vi (nI 0))] [] (up (up O 2 0 2 (Int32.toNatClampNeg x1) x2) 2 0 1 (Int32.toNatClampNeg x1) x3))
else none)
else none)))
else
(some (nI 0, O))) := (ex_un d 15 300 0 [some (vr 2 0 0), some (vi x1), some (vi x2), some (vi x3)] [] O).trans rfl
set_option maxRecDepth 100000 in
theorem sX2_renew_37 (d : Nat) (O : Mem_) (x1 : Int32) (x4 : Int32) : ex (d + 1) 15 37 [some (vr 2 0 0), some (vi x1), none, none, some (vi x4)] [] O =
if x4 < (nI 40) then
(if ib x1 4 then
(bif (aty 2 (4 + (Int32.toNatClampNeg x1))).beq 0 then
(if ib x4 (aln 2 (4 + (Int32.toNatClampNeg x1))) then
(ex (d + 1) 15 37 [some (vr 2 0 0), some (vi x1), none, none, some (vi (x4 + (nI 1)))] [] (up O 2 0 (4 + (Int32.toNatClampNeg x1)) (Int32.toNatClampNeg x4) (nI 0)))
else none)
else none)
else none)
else
(some (nI 0, O)) := (ex_un d 15 300 37 [some (vr 2 0 0), some (vi x1), none, none, some (vi x4)] [] O).trans rfl
set_option maxRecDepth 100000 in
theorem sX2_write_0 (d : Nat) (O : Mem_) (x1 : Int32) (x2 : Int32) (x3 : Int32) : ex (d + 1) 16 0 [some (vr 2 0 0), some (vi x1), some (vi x2), some (vi x3)] [] O =
if x1 < nI 0 then
(some ((nI 1), O))
else
(if x1 < (nI 4) then
(if ib x1 4 then
(if (O 2 0 1 (Int32.toNatClampNeg x1)) = (oI none) then
(some ((nI 1), O))
else
(if x2 < nI 0 then
(some ((nI 2), O))
else
(if ib x1 4 then
(if x2 < (O 2 0 1 (Int32.toNatClampNeg x1)) then
(if x2 < (nI 40) then
(if ib x1 4 then
(if ib x1 4 then
(if (O 2 0 2 (Int32.toNatClampNeg x1)) = nI 0 then
(bif (aty 2 (4 + (Int32.toNatClampNeg x1))).beq 0 then
(if ib x2 (aln 2 (4 + (Int32.toNatClampNeg x1))) then
(some ((nI 0), (up O 2 0 (4 + (Int32.toNatClampNeg x1)) (Int32.toNatClampNeg x2) ((Int32.toInt8 x3).toInt32))))
else none)
else none)
else
(if ib x1 4 then
(if (O 2 0 2 (Int32.toNatClampNeg x1)) = (nI 1) then
(bif (aty 2 (4 + (Int32.toNatClampNeg x1))).beq 0 then
(if ib x2 (aln 2 (4 + (Int32.toNatClampNeg x1))) then
(some ((nI 0), (up O 2 0 (4 + (Int32.toNatClampNeg x1)) (Int32.toNatClampNeg x2) ((Int32.toInt16 x3).toInt32))))
else none)
else none)
else
(bif (aty 2 (4 + (Int32.toNatClampNeg x1))).beq 0 then
(if ib x2 (aln 2 (4 + (Int32.toNatClampNeg x1))) then
(some ((nI 0), (up O 2 0 (4 + (Int32.toNatClampNeg x1)) (Int32.toNatClampNeg x2) x3)))
else none)
else none))
else none))
else none)
else none)
else
(some ((nI 2), O)))
else
(some ((nI 2), O)))
else none)))
else none)
else
(some ((nI 1), O))) := (ex_un d 16 300 0 [some (vr 2 0 0), some (vi x1), some (vi x2), some (vi x3)] [] O).trans rfl
set_option maxRecDepth 100000 in
theorem sX2_refusal_0 (d : Nat) (O : Mem_) (x1 : Int32) (x2 : Int32) : ex (d + 1) 17 0 [some (vr 2 0 0), some (vi x1), some (vi x2)] [] O =
if x1 < nI 0 then
(some ((nI 1), O))
else
(if x1 < (nI 4) then
(if ib x1 4 then
(if (O 2 0 1 (Int32.toNatClampNeg x1)) = (oI none) then
(some ((nI 1), O))
else
(if ib x1 4 then
(if (O 2 0 2 (Int32.toNatClampNeg x1)) = x2 then
(some ((nI 0), O))
else
(some ((nI 3), O)))
else none))
else none)
else
(some ((nI 1), O))) := (ex_un d 17 300 0 [some (vr 2 0 0), some (vi x1), some (vi x2)] [] O).trans rfl
set_option maxRecDepth 100000 in
theorem sX2_wholeShowings_0 (d : Nat) (O : Mem_) (x1 : Int32) (x2 : Int32) (x3 : Int32) : ex (d + 1) 18 0 [some (vr 2 0 0), some (vi x1), some (vi x2), some (vi x3)] [] O =
if x1 < nI 0 then
(some ((nI 0), O))
else
(if x1 < (nI 4) then
(if x2 < nI 0 then
(some ((nI 0), O))
else
(if ib x1 4 then
(if (O 2 0 1 (Int32.toNatClampNeg x1)) < x2 then
(some ((nI 0), O))
else
(if ib x1 4 then
(if (nI 3) = nI 0 then none else some ((if (((O 2 0 1 (Int32.toNatClampNeg x1)) - x2) / (nI 3)) < x3 then (((O 2 0 1 (Int32.toNatClampNeg x1)) - x2) / (nI 3)) else x3), O))
else none))
else none))
else
(some ((nI 0), O))) := (ex_un d 18 300 0 [some (vr 2 0 0), some (vi x1), some (vi x2), some (vi x3)] [] O).trans rfl
set_option maxRecDepth 100000 in
theorem sX2_cell_0 (d : Nat) (O : Mem_) (x1 : Int32) (x2 : Int32) : ex (d + 1) 19 0 [some (vr 2 0 0), some (vi x1), some (vi x2)] [] O =
if x1 < nI 0 then
(some ((nI 0), O))
else
(if x1 < (nI 4) then
(if x2 < nI 0 then
(some ((nI 0), O))
else
(if x2 < (nI 40) then
(if ib x1 4 then
(bif (aty 2 (4 + (Int32.toNatClampNeg x1))).beq 0 then
(if ib x2 (aln 2 (4 + (Int32.toNatClampNeg x1))) then
(some ((O 2 0 (4 + (Int32.toNatClampNeg x1)) (Int32.toNatClampNeg x2)), O))
else none)
else none)
else none)
else
(some ((nI 0), O))))
else
(some ((nI 0), O))) := (ex_un d 19 300 0 [some (vr 2 0 0), some (vi x1), some (vi x2)] [] O).trans rfl
set_option maxRecDepth 100000 in
theorem sX3_put_0 (d : Nat) (O : Mem_) (x1 : Int32) : ex (d + 1) 20 0 [some (vr 3 0 0), some (vi x1)] [] O =
if (O 3 0 0 1) < nI 0 then
(some (nI 0, O))
else
(if (O 3 0 0 1) < (nI 400) then
(if ib (O 3 0 0 1) 400 then
(some (nI 0, (up (up O 3 0 1 (Int32.toNatClampNeg (O 3 0 0 1)) x1) 3 0 0 1 (((up O 3 0 1 (Int32.toNatClampNeg (O 3 0 0 1)) x1) 3 0 0 1) + (nI 1)))))
else none)
else
(some (nI 0, O))) := (ex_un d 20 300 0 [some (vr 3 0 0), some (vi x1)] [] O).trans rfl
set_option maxRecDepth 100000 in
theorem sX3_readInto_0 (d : Nat) (O : Mem_) (n1 : Nat) : ex (d + 1) 21 0 [some (vr 3 0 0), some (vr 4 n1 0)] [] O =
(ex d 36 0 [some (vr 4 n1 0)] [] O).bind fun r0 =>
(ex d 25 0 [some (vr 3 0 0)] [] (up (up (up (up r0.2 3 0 0 2 (nI 0)) 3 0 0 3 (nI 0)) 3 0 0 4 (nI 0)) 3 0 0 5 (nI 0))).bind fun r1 =>
ex (d + 1) 21 30 [some (vr 3 0 0), some (vr 4 n1 0), some (vi (nI 0))] [] r1.2 := (ex_un d 21 300 0 [some (vr 3 0 0), some (vr 4 n1 0)] [] O).trans rfl
set_option maxRecDepth 100000 in
theorem sX3_readInto_30 (d : Nat) (O : Mem_) (n1 : Nat) (x2 : Int32) : ex (d + 1) 21 30 [some (vr 3 0 0), some (vr 4 n1 0), some (vi x2)] [] O =
if x2 < (nI 400) then
(if (O 3 0 0 2) = nI 0 then
(if (O 3 0 0 6) = nI 0 then
(ex (d + 1) 21 72 [some (vr 3 0 0), some (vr 4 n1 0)] [] O)
else
((ex d 27 0 [some (vr 3 0 0), some (vr 4 n1 0)] [] O).bind fun r0 =>
ex (d + 1) 21 30 [some (vr 3 0 0), some (vr 4 n1 0), some (vi (x2 + (nI 1)))] [] (up r0.2 3 0 0 4 ((r0.2 3 0 0 4) + (nI 1)))))
else
(ex (d + 1) 21 72 [some (vr 3 0 0), some (vr 4 n1 0)] [] O))
else
(ex (d + 1) 21 72 [some (vr 3 0 0), some (vr 4 n1 0)] [] O) := (ex_un d 21 300 30 [some (vr 3 0 0), some (vr 4 n1 0), some (vi x2)] [] O).trans rfl
set_option maxRecDepth 100000 in
theorem sX3_readInto_72 (d : Nat) (O : Mem_) (n1 : Nat) : ex (d + 1) 21 72 [some (vr 3 0 0), some (vr 4 n1 0)] [] O =
if (O 3 0 0 2) = nI 0 then
((ex d 41 0 [some (vr 4 n1 0)] [] O).bind fun r0 =>
if (r0.2 3 0 0 2) = nI 0 then
(some ((nI 1), r0.2))
else
(some ((nI 0), r0.2)))
else
(if (O 3 0 0 2) = nI 0 then
(some ((nI 1), O))
else
(some ((nI 0), O))) := (ex_un d 21 300 72 [some (vr 3 0 0), some (vr 4 n1 0)] [] O).trans rfl
set_option maxRecDepth 100000 in
theorem sX3_blame_0 (d : Nat) (O : Mem_) (x1 : Int32) : ex (d + 1) 22 0 [some (vr 3 0 0), some (vi x1)] [] O =
some (nI 0, (up (up O 3 0 0 2 x1) 3 0 0 3 ((up O 3 0 0 2 x1) 3 0 0 7))) := (ex_un d 22 300 0 [some (vr 3 0 0), some (vi x1)] [] O).trans rfl
set_option maxRecDepth 100000 in
theorem sX3_byteAt_0 (d : Nat) (O : Mem_) (x1 : Int32) : ex (d + 1) 23 0 [some (vr 3 0 0), some (vi x1)] [] O =
if x1 < nI 0 then
(some ((nI 0), O))
else
(if x1 < (O 3 0 0 1) then
(if x1 < (nI 400) then
(if ib x1 400 then
(some ((O 3 0 1 (Int32.toNatClampNeg x1)), O))
else none)
else
(some ((nI 0), O)))
else
(some ((nI 0), O))) := (ex_un d 23 300 0 [some (vr 3 0 0), some (vi x1)] [] O).trans rfl
set_option maxRecDepth 100000 in
theorem sX3_tokenAt_0 (d : Nat) (O : Mem_) (x1 : Int32) : ex (d + 1) 24 0 [some (vr 3 0 0), some (vi x1)] [] O =
(ex d 23 0 [some (vr 3 0 0), some (vi x1)] [] O).bind fun r0 =>
if x1 < (r0.2 3 0 0 1) then
(if r0.1 < (nI 97) then
(ex (d + 1) 24 30 [none, none, some (vi r0.1)] [] r0.2)
else
(if (nI 122) < r0.1 then
(ex (d + 1) 24 30 [none, none, some (vi r0.1)] [] r0.2)
else
(some ((nI 1), r0.2))))
else
(some ((nI 0), r0.2)) := (ex_un d 24 300 0 [some (vr 3 0 0), some (vi x1)] [] O).trans rfl
set_option maxRecDepth 100000 in
theorem sX3_tokenAt_30 (d : Nat) (O : Mem_) (x2 : Int32) : ex (d + 1) 24 30 [none, none, some (vi x2)] [] O =
if x2 < (nI 48) then
(ex (d + 1) 24 44 [none, none, some (vi x2)] [] O)
else
(if (nI 57) < x2 then
(ex (d + 1) 24 44 [none, none, some (vi x2)] [] O)
else
(some ((nI 2), O))) := (ex_un d 24 300 30 [none, none, some (vi x2)] [] O).trans rfl
set_option maxRecDepth 100000 in
theorem sX3_tokenAt_44 (d : Nat) (O : Mem_) (x2 : Int32) : ex (d + 1) 24 44 [none, none, some (vi x2)] [] O =
if x2 = (nI 59) then
(some ((nI 3), O))
else
(if x2 = (nI 45) then
(some ((nI 4), O))
else
(some ((nI 5), O))) := (ex_un d 24 300 44 [none, none, some (vi x2)] [] O).trans rfl
set_option maxRecDepth 100000 in
theorem sX3_nextToken_0 (d : Nat) (O : Mem_)  : ex (d + 1) 25 0 [some (vr 3 0 0)] [] O =
if (O 3 0 0 5) < (O 3 0 0 1) then
((ex d 23 0 [some (vr 3 0 0), some (vi (O 3 0 0 5))] [] O).bind fun r0 =>
if r0.1 = (nI 32) then
(ex (d + 1) 25 0 [some (vr 3 0 0)] [] (up r0.2 3 0 0 5 ((r0.2 3 0 0 5) + (nI 1))))
else
(ex (d + 1) 25 37 [some (vr 3 0 0)] [] r0.2))
else
(ex (d + 1) 25 37 [some (vr 3 0 0)] [] O) := (ex_un d 25 300 0 [some (vr 3 0 0)] [] O).trans rfl
set_option maxRecDepth 100000 in
theorem sX3_nextToken_37 (d : Nat) (O : Mem_)  : ex (d + 1) 25 37 [some (vr 3 0 0)] [] O =
(ex d 24 0 [some (vr 3 0 0), some (vi ((up O 3 0 0 7 (O 3 0 0 5)) 3 0 0 5))] [] (up O 3 0 0 7 (O 3 0 0 5))).bind fun r0 =>
if ((up r0.2 3 0 0 6 r0.1) 3 0 0 6) = nI 0 then
(ex (d + 1) 25 74 [some (vr 3 0 0)] [] (up r0.2 3 0 0 6 r0.1))
else
(ex (d + 1) 25 74 [some (vr 3 0 0)] [] (up (up r0.2 3 0 0 6 r0.1) 3 0 0 5 (((up r0.2 3 0 0 6 r0.1) 3 0 0 5) + (nI 1)))) := (ex_un d 25 300 37 [some (vr 3 0 0)] [] O).trans rfl
set_option maxRecDepth 100000 in
theorem sX3_nextToken_74 (d : Nat) (O : Mem_)  : ex (d + 1) 25 74 [some (vr 3 0 0)] [] O =
if (O 3 0 0 5) < (O 3 0 0 1) then
(if (O 3 0 0 6) = (nI 1) then
(ex (d + 1) 25 101 [some (vr 3 0 0)] [] O)
else
(if (O 3 0 0 6) = (nI 2) then
(ex (d + 1) 25 101 [some (vr 3 0 0)] [] O)
else
(ex (d + 1) 25 129 [some (vr 3 0 0)] [] O)))
else
(ex (d + 1) 25 129 [some (vr 3 0 0)] [] O) := (ex_un d 25 300 74 [some (vr 3 0 0)] [] O).trans rfl
set_option maxRecDepth 100000 in
theorem sX3_nextToken_101 (d : Nat) (O : Mem_)  : ex (d + 1) 25 101 [some (vr 3 0 0)] [] O =
(ex d 24 0 [some (vr 3 0 0), some (vi (O 3 0 0 5))] [] O).bind fun r0 =>
if r0.1 = (r0.2 3 0 0 6) then
(ex (d + 1) 25 74 [some (vr 3 0 0)] [] (up r0.2 3 0 0 5 ((r0.2 3 0 0 5) + (nI 1))))
else
(ex (d + 1) 25 129 [some (vr 3 0 0)] [] r0.2) := (ex_un d 25 300 101 [some (vr 3 0 0)] [] O).trans rfl
set_option maxRecDepth 100000 in
theorem sX3_nextToken_129 (d : Nat) (O : Mem_)  : ex (d + 1) 25 129 [some (vr 3 0 0)] [] O =
if ((up O 3 0 0 8 (O 3 0 0 5)) 3 0 0 6) = (nI 5) then
(ex (d + 1) 25 166 [some (vr 3 0 0)] [] (up O 3 0 0 8 (O 3 0 0 5)))
else
(if ((up O 3 0 0 8 (O 3 0 0 5)) 3 0 0 6) = (nI 2) then
(if (nI 2) < (((up O 3 0 0 8 (O 3 0 0 5)) 3 0 0 8) - ((up O 3 0 0 8 (O 3 0 0 5)) 3 0 0 7)) then
(ex (d + 1) 25 166 [some (vr 3 0 0)] [] (up O 3 0 0 8 (O 3 0 0 5)))
else
(some (nI 0, (up O 3 0 0 8 (O 3 0 0 5)))))
else
(some (nI 0, (up O 3 0 0 8 (O 3 0 0 5))))) := (ex_un d 25 300 129 [some (vr 3 0 0)] [] O).trans rfl
set_option maxRecDepth 100000 in
theorem sX3_nextToken_166 (d : Nat) (O : Mem_)  : ex (d + 1) 25 166 [some (vr 3 0 0)] [] O =
(ex d 22 0 [some (vr 3 0 0), some (vi (nI 1))] [] O).bind fun r0 =>
some (nI 0, r0.2) := (ex_un d 25 300 166 [some (vr 3 0 0)] [] O).trans rfl
set_option maxRecDepth 100000 in
theorem sX3_isNamed_0 (d : Nat) (O : Mem_) (n1 : Nat) : ex (d + 1) 26 0 [some (vr 3 0 0), some (vr 9 n1 0)] [] O =
if (O 3 0 0 6) = (nI 1) then
(if (nI (sT.getD n1 []).length) = ((O 3 0 0 8) - (O 3 0 0 7)) then
(ex (d + 1) 26 28 [some (vr 3 0 0), some (vr 9 n1 0), some (vi (nI 0))] [] O)
else
(some ((nI 0), O)))
else
(some ((nI 0), O)) := (ex_un d 26 300 0 [some (vr 3 0 0), some (vr 9 n1 0)] [] O).trans rfl
set_option maxRecDepth 100000 in
theorem sX3_isNamed_28 (d : Nat) (O : Mem_) (n1 : Nat) (x2 : Int32) : ex (d + 1) 26 28 [some (vr 3 0 0), some (vr 9 n1 0), some (vi x2)] [] O =
if x2 < (nI (sT.getD n1 []).length) then
((if ib x2 (sT.getD n1 []).length then some ((sT.getD n1 []).getD (Int32.toNatClampNeg x2) 0, O) else none).bind fun r1 =>
(ex d 23 0 [some (vr 3 0 0), some (vi ((r1.2 3 0 0 7) + x2))] [] r1.2).bind fun r2 =>
if r1.1 = r2.1 then
(ex (d + 1) 26 28 [some (vr 3 0 0), some (vr 9 n1 0), some (vi (x2 + (nI 1)))] [] r2.2)
else
(some ((nI 0), r2.2)))
else
(some ((nI 1), O)) := (ex_un d 26 300 28 [some (vr 3 0 0), some (vr 9 n1 0), some (vi x2)] [] O).trans rfl
set_option maxRecDepth 100000 in
theorem sX3_readLine_0 (d : Nat) (O : Mem_) (n1 : Nat) : ex (d + 1) 27 0 [some (vr 3 0 0), some (vr 4 n1 0)] [] O =
(ex d 28 0 [some (vr 3 0 0)] [] O).bind fun r0 =>
(ex d 26 0 [some (vr 3 0 0), some (vr 9 0 0)] [] r0.2).bind fun r1 =>
if r1.1 = nI 0 then
((ex d 26 0 [some (vr 3 0 0), some (vr 9 1 0)] [] r1.2).bind fun r2 =>
if r2.1 = nI 0 then
((ex d 26 0 [some (vr 3 0 0), some (vr 9 2 0)] [] r2.2).bind fun r3 =>
if r3.1 = nI 0 then
(if r0.1 = (oI none) then
((ex d 22 0 [some (vr 3 0 0), some (vi (nI 2))] [] r3.2).bind fun r4 =>
ex (d + 1) 27 76 [some (vr 3 0 0)] [] r4.2)
else
((ex d 32 0 [some (vr 3 0 0), some (vr 4 n1 0), some (vi r0.1)] [] r3.2).bind fun r5 =>
ex (d + 1) 27 76 [some (vr 3 0 0)] [] r5.2))
else
((ex d 31 0 [some (vr 3 0 0), some (vr 4 n1 0)] [] r3.2).bind fun r6 =>
ex (d + 1) 27 76 [some (vr 3 0 0)] [] r6.2))
else
((ex d 30 0 [some (vr 3 0 0), some (vr 4 n1 0)] [] r2.2).bind fun r7 =>
ex (d + 1) 27 76 [some (vr 3 0 0)] [] r7.2))
else
((ex d 29 0 [some (vr 3 0 0), some (vr 4 n1 0)] [] r1.2).bind fun r8 =>
ex (d + 1) 27 76 [some (vr 3 0 0)] [] r8.2) := (ex_un d 27 300 0 [some (vr 3 0 0), some (vr 4 n1 0)] [] O).trans rfl
set_option maxRecDepth 100000 in
theorem sX3_readLine_76 (d : Nat) (O : Mem_)  : ex (d + 1) 27 76 [some (vr 3 0 0)] [] O =
if (O 3 0 0 2) = nI 0 then
(if (O 3 0 0 6) = (nI 3) then
(ex (d + 1) 27 96 [some (vr 3 0 0)] [] O)
else
((ex d 22 0 [some (vr 3 0 0), some (vi (nI 2))] [] O).bind fun r0 =>
ex (d + 1) 27 96 [some (vr 3 0 0)] [] r0.2))
else
(ex (d + 1) 27 96 [some (vr 3 0 0)] [] O) := (ex_un d 27 300 76 [some (vr 3 0 0)] [] O).trans rfl
set_option maxRecDepth 100000 in
theorem sX3_readLine_96 (d : Nat) (O : Mem_)  : ex (d + 1) 27 96 [some (vr 3 0 0)] [] O =
if (O 3 0 0 2) = nI 0 then
((ex d 25 0 [some (vr 3 0 0)] [] O).bind fun r0 =>
some (nI 0, r0.2))
else
(some (nI 0, O)) := (ex_un d 27 300 96 [some (vr 3 0 0)] [] O).trans rfl
set_option maxRecDepth 100000 in
theorem sX3_sortNamed_0 (d : Nat) (O : Mem_)  : ex (d + 1) 28 0 [some (vr 3 0 0)] [] O =
(ex d 26 0 [some (vr 3 0 0), some (vr 9 3 0)] [] O).bind fun r0 =>
if r0.1 = nI 0 then
((ex d 26 0 [some (vr 3 0 0), some (vr 9 4 0)] [] r0.2).bind fun r1 =>
if r1.1 = nI 0 then
((ex d 26 0 [some (vr 3 0 0), some (vr 9 5 0)] [] r1.2).bind fun r2 =>
if r2.1 = nI 0 then
((ex d 26 0 [some (vr 3 0 0), some (vr 9 6 0)] [] r2.2).bind fun r3 =>
if r3.1 = nI 0 then
(some ((oI none), r3.2))
else
(some ((nI 3), r3.2)))
else
(some ((nI 2), r2.2)))
else
(some ((nI 1), r1.2)))
else
(some ((nI 0), r0.2)) := (ex_un d 28 300 0 [some (vr 3 0 0)] [] O).trans rfl
set_option maxRecDepth 100000 in
theorem sX3_readThing_0 (d : Nat) (O : Mem_) (n1 : Nat) : ex (d + 1) 29 0 [some (vr 3 0 0), some (vr 4 n1 0)] [] O =
if (O 4 n1 0 0) < (nI 8) then
((ex d 25 0 [some (vr 3 0 0)] [] O).bind fun r0 =>
(ex d 34 0 [some (vr 3 0 0), some (vi (nI 0))] [] r0.2).bind fun r1 =>
(ex d 37 0 [some (vr 4 n1 0), some (vi r1.1)] [] r1.2).bind fun r2 =>
some (nI 0, r2.2))
else
((ex d 22 0 [some (vr 3 0 0), some (vi (nI 5))] [] O).bind fun r3 =>
some (nI 0, r3.2)) := (ex_un d 29 300 0 [some (vr 3 0 0), some (vr 4 n1 0)] [] O).trans rfl
set_option maxRecDepth 100000 in
theorem sX3_readMeaning_0 (d : Nat) (O : Mem_) (n1 : Nat) : ex (d + 1) 30 0 [some (vr 3 0 0), some (vr 4 n1 0)] [] O =
if (O 4 n1 0 1) < (nI 12) then
((ex d 25 0 [some (vr 3 0 0)] [] O).bind fun r0 =>
(ex d 34 0 [some (vr 3 0 0), some (vi (nI 0))] [] r0.2).bind fun r1 =>
if (r1.2 3 0 0 2) = nI 0 then
((ex d 26 0 [some (vr 3 0 0), some (vr 9 7 0)] [] r1.2).bind fun r2 =>
if r2.1 = nI 0 then
(ex (d + 1) 30 53 [none, some (vr 4 n1 0), some (vi r1.1), some (vi (nI 0))] [] r2.2)
else
((ex d 25 0 [some (vr 3 0 0)] [] r2.2).bind fun r3 =>
(ex d 34 0 [some (vr 3 0 0), some (vi r1.1)] [] r3.2).bind fun r4 =>
ex (d + 1) 30 53 [none, some (vr 4 n1 0), some (vi r1.1), some (vi r4.1)] [] r4.2))
else
(ex (d + 1) 30 53 [none, some (vr 4 n1 0), some (vi r1.1), some (vi (nI 0))] [] r1.2))
else
((ex d 22 0 [some (vr 3 0 0), some (vi (nI 5))] [] O).bind fun r5 =>
some (nI 0, r5.2)) := (ex_un d 30 300 0 [some (vr 3 0 0), some (vr 4 n1 0)] [] O).trans rfl
set_option maxRecDepth 100000 in
theorem sX3_readMeaning_53 (d : Nat) (O : Mem_) (n1 : Nat) (x2 : Int32) (x3 : Int32) : ex (d + 1) 30 53 [none, some (vr 4 n1 0), some (vi x2), some (vi x3)] [] O =
(ex d 38 0 [some (vr 4 n1 0), some (vi x2), some (vi x3)] [] O).bind fun r0 =>
some (nI 0, r0.2) := (ex_un d 30 300 53 [none, some (vr 4 n1 0), some (vi x2), some (vi x3)] [] O).trans rfl
set_option maxRecDepth 100000 in
theorem sX3_readWord_0 (d : Nat) (O : Mem_) (n1 : Nat) : ex (d + 1) 31 0 [some (vr 3 0 0), some (vr 4 n1 0)] [] O =
if (O 4 n1 0 2) < (nI 4) then
((ex d 25 0 [some (vr 3 0 0)] [] O).bind fun r0 =>
(ex d 35 0 [some (vr 3 0 0), some (vi (r0.2 4 n1 0 1))] [] r0.2).bind fun r1 =>
(ex d 39 0 [some (vr 4 n1 0), some (vi r1.1)] [] r1.2).bind fun r2 =>
some (nI 0, r2.2))
else
((ex d 22 0 [some (vr 3 0 0), some (vi (nI 5))] [] O).bind fun r3 =>
some (nI 0, r3.2)) := (ex_un d 31 300 0 [some (vr 3 0 0), some (vr 4 n1 0)] [] O).trans rfl
set_option maxRecDepth 100000 in
theorem sX3_readKind_0 (d : Nat) (O : Mem_) (n1 : Nat) (x2 : Int32) : ex (d + 1) 32 0 [some (vr 3 0 0), some (vr 4 n1 0), some (vi x2)] [] O =
if (O 4 n1 0 3) < (nI 6) then
((ex d 40 0 [some (vr 4 n1 0), some (vi x2)] [] O).bind fun r0 =>
(ex d 25 0 [some (vr 3 0 0)] [] r0.2).bind fun r1 =>
ex (d + 1) 32 35 [some (vr 3 0 0), some (vr 4 n1 0), none, some (vi (O 4 n1 0 3)), some (vi (nI 0)), some (vi (nI 0))] [] r1.2)
else
((ex d 22 0 [some (vr 3 0 0), some (vi (nI 5))] [] O).bind fun r2 =>
some (nI 0, r2.2)) := (ex_un d 32 300 0 [some (vr 3 0 0), some (vr 4 n1 0), some (vi x2)] [] O).trans rfl
set_option maxRecDepth 100000 in
theorem sX3_readKind_35 (d : Nat) (O : Mem_) (n1 : Nat) (x3 : Int32) (x4 : Int32) (x5 : Int32) : ex (d + 1) 32 35 [some (vr 3 0 0), some (vr 4 n1 0), none, some (vi x3), some (vi x4), some (vi x5)] [] O =
if x5 < (nI 400) then
(if (O 3 0 0 2) = nI 0 then
(if (O 3 0 0 6) = (nI 1) then
((ex d 33 0 [some (vr 3 0 0)] [] O).bind fun r0 =>
if r0.1 = (oI none) then
(ex (d + 1) 32 81 [some (vr 3 0 0), none, none, none, none, none, some (vi r0.1)] [] r0.2)
else
((ex d 109 0 [some (vi r0.1), some (vi x4)] [] r0.2).bind fun r1 =>
if r1.1 = nI 0 then
((ex d 25 0 [some (vr 3 0 0)] [] r1.2).bind fun r2 =>
if r0.1 = (nI 1) then
((ex d 34 0 [some (vr 3 0 0), some (vi (nI 0))] [] r2.2).bind fun r3 =>
if ib x3 6 then
(ex (d + 1) 32 35 [some (vr 3 0 0), some (vr 4 n1 0), none, some (vi x3), some (vi (x4 ||| ((nI 1) <<< (r0.1 &&& (31:Int32))))), some (vi (x5 + (nI 1)))] [] (up r3.2 4 n1 15 (Int32.toNatClampNeg x3) r3.1))
else none)
else
(if r0.1 = (nI 2) then
((ex d 35 0 [some (vr 3 0 0), some (vi (r2.2 4 n1 0 0))] [] r2.2).bind fun r4 =>
if ib x3 6 then
(ex (d + 1) 32 35 [some (vr 3 0 0), some (vr 4 n1 0), none, some (vi x3), some (vi (x4 ||| ((nI 1) <<< (r0.1 &&& (31:Int32))))), some (vi (x5 + (nI 1)))] [] (up r4.2 4 n1 16 (Int32.toNatClampNeg x3) r4.1))
else none)
else
(if r0.1 = (nI 4) then
((ex d 35 0 [some (vr 3 0 0), some (vi (nI 10))] [] r2.2).bind fun r5 =>
if ib x3 6 then
(ex (d + 1) 32 35 [some (vr 3 0 0), some (vr 4 n1 0), none, some (vi x3), some (vi (x4 ||| ((nI 1) <<< (r0.1 &&& (31:Int32))))), some (vi (x5 + (nI 1)))] [] (up r5.2 4 n1 18 (Int32.toNatClampNeg x3) r5.1))
else none)
else
(if ib x3 6 then
(ex (d + 1) 32 35 [some (vr 3 0 0), some (vr 4 n1 0), none, some (vi x3), some (vi (x4 ||| ((nI 1) <<< (r0.1 &&& (31:Int32))))), some (vi (x5 + (nI 1)))] [] (up r2.2 4 n1 17 (Int32.toNatClampNeg x3) (nI 1)))
else none))))
else
(ex (d + 1) 32 81 [some (vr 3 0 0), none, none, none, none, none, some (vi r0.1)] [] r1.2)))
else
(some (nI 0, O)))
else
(some (nI 0, O)))
else
(some (nI 0, O)) := (ex_un d 32 300 35 [some (vr 3 0 0), some (vr 4 n1 0), none, some (vi x3), some (vi x4), some (vi x5)] [] O).trans rfl
set_option maxRecDepth 100000 in
theorem sX3_readKind_81 (d : Nat) (O : Mem_) (x6 : Int32) : ex (d + 1) 32 81 [some (vr 3 0 0), none, none, none, none, none, some (vi x6)] [] O =
if x6 = (oI none) then
((ex d 22 0 [some (vr 3 0 0), some (vi (nI 2))] [] O).bind fun r0 =>
some (nI 0, r0.2))
else
((ex d 22 0 [some (vr 3 0 0), some (vi (nI 4))] [] O).bind fun r1 =>
some (nI 0, r1.2)) := (ex_un d 32 300 81 [some (vr 3 0 0), none, none, none, none, none, some (vi x6)] [] O).trans rfl
set_option maxRecDepth 100000 in
theorem sX3_withNamed_0 (d : Nat) (O : Mem_)  : ex (d + 1) 33 0 [some (vr 3 0 0)] [] O =
(ex d 26 0 [some (vr 3 0 0), some (vr 9 8 0)] [] O).bind fun r0 =>
if r0.1 = nI 0 then
((ex d 26 0 [some (vr 3 0 0), some (vr 9 9 0)] [] r0.2).bind fun r1 =>
if r1.1 = nI 0 then
((ex d 26 0 [some (vr 3 0 0), some (vr 9 10 0)] [] r1.2).bind fun r2 =>
if r2.1 = nI 0 then
((ex d 26 0 [some (vr 3 0 0), some (vr 9 11 0)] [] r2.2).bind fun r3 =>
if r3.1 = nI 0 then
(some ((oI none), r3.2))
else
(some ((nI 4), r3.2)))
else
(some ((nI 3), r2.2)))
else
(some ((nI 2), r1.2)))
else
(some ((nI 1), r0.2)) := (ex_un d 33 300 0 [some (vr 3 0 0)] [] O).trans rfl
set_option maxRecDepth 100000 in
theorem sX3_takeLetters_0 (d : Nat) (O : Mem_) (x1 : Int32) : ex (d + 1) 34 0 [some (vr 3 0 0), some (vi x1)] [] O =
if (O 3 0 0 2) = nI 0 then
(if (O 3 0 0 6) = (nI 1) then
(ex (d + 1) 34 39 [some (vr 3 0 0), some (vi x1), some (vi (nI 0)), some (vi (O 3 0 0 7))] [] O)
else
(if (O 3 0 0 6) = (nI 4) then
(ex (d + 1) 34 39 [some (vr 3 0 0), some (vi x1), some (vi (nI 0)), some (vi (O 3 0 0 7))] [] O)
else
((ex d 22 0 [some (vr 3 0 0), some (vi (nI 2))] [] O).bind fun r0 =>
some ((nI 0), r0.2))))
else
(some ((nI 0), O)) := (ex_un d 34 300 0 [some (vr 3 0 0), some (vi x1)] [] O).trans rfl
set_option maxRecDepth 100000 in
theorem sX3_takeLetters_39 (d : Nat) (O : Mem_) (x1 : Int32) (x2 : Int32) (x3 : Int32) : ex (d + 1) 34 39 [some (vr 3 0 0), some (vi x1), some (vi x2), some (vi x3)] [] O =
if x3 < (O 3 0 0 8) then
(if (O 3 0 0 6) = (nI 1) then
((ex d 23 0 [some (vr 3 0 0), some (vi x3)] [] O).bind fun r0 =>
if (r0.1 - (nI 97)) < (nI 8) then
((ex d 109 0 [some (vi (r0.1 - (nI 97))), some (vi (x2 ||| x1))] [] r0.2).bind fun r1 =>
if r1.1 = nI 0 then
(ex (d + 1) 34 39 [some (vr 3 0 0), some (vi x1), some (vi (x2 ||| ((nI 1) <<< ((r0.1 - (nI 97)) &&& (31:Int32))))), some (vi (x3 + (nI 1)))] [] r1.2)
else
(ex (d + 1) 34 83 [some (vr 3 0 0)] [] r1.2))
else
(ex (d + 1) 34 83 [some (vr 3 0 0)] [] r0.2))
else
(ex (d + 1) 34 103 [some (vr 3 0 0), none, some (vi x2)] [] O))
else
(ex (d + 1) 34 103 [some (vr 3 0 0), none, some (vi x2)] [] O) := (ex_un d 34 300 39 [some (vr 3 0 0), some (vi x1), some (vi x2), some (vi x3)] [] O).trans rfl
set_option maxRecDepth 100000 in
theorem sX3_takeLetters_83 (d : Nat) (O : Mem_)  : ex (d + 1) 34 83 [some (vr 3 0 0)] [] O =
(ex d 22 0 [some (vr 3 0 0), some (vi (nI 3))] [] O).bind fun r0 =>
some ((nI 0), r0.2) := (ex_un d 34 300 83 [some (vr 3 0 0)] [] O).trans rfl
set_option maxRecDepth 100000 in
theorem sX3_takeLetters_103 (d : Nat) (O : Mem_) (x2 : Int32) : ex (d + 1) 34 103 [some (vr 3 0 0), none, some (vi x2)] [] O =
(ex d 25 0 [some (vr 3 0 0)] [] O).bind fun r0 =>
some (x2, r0.2) := (ex_un d 34 300 103 [some (vr 3 0 0), none, some (vi x2)] [] O).trans rfl
set_option maxRecDepth 100000 in
theorem sX3_takeNumber_0 (d : Nat) (O : Mem_) (x1 : Int32) : ex (d + 1) 35 0 [some (vr 3 0 0), some (vi x1)] [] O =
if (O 3 0 0 2) = nI 0 then
(if (O 3 0 0 6) = (nI 2) then
(ex (d + 1) 35 31 [some (vr 3 0 0), some (vi x1), some (vi (nI 0)), some (vi (O 3 0 0 7))] [] O)
else
((ex d 22 0 [some (vr 3 0 0), some (vi (nI 2))] [] O).bind fun r0 =>
some ((nI 0), r0.2)))
else
(some ((nI 0), O)) := (ex_un d 35 300 0 [some (vr 3 0 0), some (vi x1)] [] O).trans rfl
set_option maxRecDepth 100000 in
theorem sX3_takeNumber_31 (d : Nat) (O : Mem_) (x1 : Int32) (x2 : Int32) (x3 : Int32) : ex (d + 1) 35 31 [some (vr 3 0 0), some (vi x1), some (vi x2), some (vi x3)] [] O =
if x3 < (O 3 0 0 8) then
((ex d 23 0 [some (vr 3 0 0), some (vi x3)] [] O).bind fun r0 =>
ex (d + 1) 35 31 [some (vr 3 0 0), some (vi x1), some (vi (((x2 * (nI 10)) + r0.1) - (nI 48))), some (vi (x3 + (nI 1)))] [] r0.2)
else
(if x2 < x1 then
((ex d 25 0 [some (vr 3 0 0)] [] O).bind fun r1 =>
some (x2, r1.2))
else
((ex d 22 0 [some (vr 3 0 0), some (vi (nI 3))] [] O).bind fun r2 =>
some ((nI 0), r2.2))) := (ex_un d 35 300 31 [some (vr 3 0 0), some (vi x1), some (vi x2), some (vi x3)] [] O).trans rfl
set_option maxRecDepth 100000 in
theorem sX4_empty_0 (d : Nat) (O : Mem_) (n0 : Nat) : ex (d + 1) 36 0 [some (vr 4 n0 0)] [] O =
some (nI 0, (up (up (up (up O 4 n0 0 0 (nI 0)) 4 n0 0 1 (nI 0)) 4 n0 0 2 (nI 0)) 4 n0 0 3 (nI 0))) := (ex_un d 36 300 0 [some (vr 4 n0 0)] [] O).trans rfl
set_option maxRecDepth 100000 in
theorem sX4_addThing_0 (d : Nat) (O : Mem_) (n0 : Nat) (x1 : Int32) : ex (d + 1) 37 0 [some (vr 4 n0 0), some (vi x1)] [] O =
if (O 4 n0 0 0) < (nI 8) then
(if ib (O 4 n0 0 0) 8 then
(some (nI 0, (up (up O 4 n0 5 (Int32.toNatClampNeg (O 4 n0 0 0)) x1) 4 n0 0 0 (((up O 4 n0 5 (Int32.toNatClampNeg (O 4 n0 0 0)) x1) 4 n0 0 0) + (nI 1)))))
else none)
else
(some (nI 0, O)) := (ex_un d 37 300 0 [some (vr 4 n0 0), some (vi x1)] [] O).trans rfl
set_option maxRecDepth 100000 in
theorem sX4_addMeaning_0 (d : Nat) (O : Mem_) (n0 : Nat) (x1 : Int32) (x2 : Int32) : ex (d + 1) 38 0 [some (vr 4 n0 0), some (vi x1), some (vi x2)] [] O =
if (O 4 n0 0 1) < (nI 12) then
(if ib (O 4 n0 0 1) 12 then
(if ib ((up O 4 n0 7 (Int32.toNatClampNeg (O 4 n0 0 1)) x1) 4 n0 0 1) 12 then
((ex d 217 0 [some (vi (x1 ||| x2))] [] (up (up O 4 n0 7 (Int32.toNatClampNeg (O 4 n0 0 1)) x1) 4 n0 8 (Int32.toNatClampNeg ((up O 4 n0 7 (Int32.toNatClampNeg (O 4 n0 0 1)) x1) 4 n0 0 1)) x2)).bind fun r0 =>
if ib ((up (up O 4 n0 7 (Int32.toNatClampNeg (O 4 n0 0 1)) x1) 4 n0 8 (Int32.toNatClampNeg ((up O 4 n0 7 (Int32.toNatClampNeg (O 4 n0 0 1)) x1) 4 n0 0 1)) x2) 4 n0 0 1) 12 then
(some (nI 0, (up (up r0.2 4 n0 9 (Int32.toNatClampNeg ((up (up O 4 n0 7 (Int32.toNatClampNeg (O 4 n0 0 1)) x1) 4 n0 8 (Int32.toNatClampNeg ((up O 4 n0 7 (Int32.toNatClampNeg (O 4 n0 0 1)) x1) 4 n0 0 1)) x2) 4 n0 0 1)) r0.1) 4 n0 0 1 (((up r0.2 4 n0 9 (Int32.toNatClampNeg ((up (up O 4 n0 7 (Int32.toNatClampNeg (O 4 n0 0 1)) x1) 4 n0 8 (Int32.toNatClampNeg ((up O 4 n0 7 (Int32.toNatClampNeg (O 4 n0 0 1)) x1) 4 n0 0 1)) x2) 4 n0 0 1)) r0.1) 4 n0 0 1) + (nI 1)))))
else none)
else none)
else none)
else
(some (nI 0, O)) := (ex_un d 38 300 0 [some (vr 4 n0 0), some (vi x1), some (vi x2)] [] O).trans rfl
set_option maxRecDepth 100000 in
theorem sX4_addSound_0 (d : Nat) (O : Mem_) (n0 : Nat) (x1 : Int32) : ex (d + 1) 39 0 [some (vr 4 n0 0), some (vi x1)] [] O =
if (O 4 n0 0 2) < (nI 4) then
(if ib (O 4 n0 0 2) 4 then
(some (nI 0, (up (up O 4 n0 13 (Int32.toNatClampNeg (O 4 n0 0 2)) x1) 4 n0 0 2 (((up O 4 n0 13 (Int32.toNatClampNeg (O 4 n0 0 2)) x1) 4 n0 0 2) + (nI 1)))))
else none)
else
(some (nI 0, O)) := (ex_un d 39 300 0 [some (vr 4 n0 0), some (vi x1)] [] O).trans rfl
set_option maxRecDepth 100000 in
theorem sX4_addKind_0 (d : Nat) (O : Mem_) (n0 : Nat) (x1 : Int32) : ex (d + 1) 40 0 [some (vr 4 n0 0), some (vi x1)] [] O =
if (O 4 n0 0 3) < (nI 6) then
(if ib (O 4 n0 0 3) 6 then
(if ib ((up O 4 n0 14 (Int32.toNatClampNeg (O 4 n0 0 3)) x1) 4 n0 0 3) 6 then
(if ib ((up (up O 4 n0 14 (Int32.toNatClampNeg (O 4 n0 0 3)) x1) 4 n0 15 (Int32.toNatClampNeg ((up O 4 n0 14 (Int32.toNatClampNeg (O 4 n0 0 3)) x1) 4 n0 0 3)) (nI 255)) 4 n0 0 3) 6 then
(if ib ((up (up (up O 4 n0 14 (Int32.toNatClampNeg (O 4 n0 0 3)) x1) 4 n0 15 (Int32.toNatClampNeg ((up O 4 n0 14 (Int32.toNatClampNeg (O 4 n0 0 3)) x1) 4 n0 0 3)) (nI 255)) 4 n0 16 (Int32.toNatClampNeg ((up (up O 4 n0 14 (Int32.toNatClampNeg (O 4 n0 0 3)) x1) 4 n0 15 (Int32.toNatClampNeg ((up O 4 n0 14 (Int32.toNatClampNeg (O 4 n0 0 3)) x1) 4 n0 0 3)) (nI 255)) 4 n0 0 3)) (oI none)) 4 n0 0 3) 6 then
(if ib ((up (up (up (up O 4 n0 14 (Int32.toNatClampNeg (O 4 n0 0 3)) x1) 4 n0 15 (Int32.toNatClampNeg ((up O 4 n0 14 (Int32.toNatClampNeg (O 4 n0 0 3)) x1) 4 n0 0 3)) (nI 255)) 4 n0 16 (Int32.toNatClampNeg ((up (up O 4 n0 14 (Int32.toNatClampNeg (O 4 n0 0 3)) x1) 4 n0 15 (Int32.toNatClampNeg ((up O 4 n0 14 (Int32.toNatClampNeg (O 4 n0 0 3)) x1) 4 n0 0 3)) (nI 255)) 4 n0 0 3)) (oI none)) 4 n0 17 (Int32.toNatClampNeg ((up (up (up O 4 n0 14 (Int32.toNatClampNeg (O 4 n0 0 3)) x1) 4 n0 15 (Int32.toNatClampNeg ((up O 4 n0 14 (Int32.toNatClampNeg (O 4 n0 0 3)) x1) 4 n0 0 3)) (nI 255)) 4 n0 16 (Int32.toNatClampNeg ((up (up O 4 n0 14 (Int32.toNatClampNeg (O 4 n0 0 3)) x1) 4 n0 15 (Int32.toNatClampNeg ((up O 4 n0 14 (Int32.toNatClampNeg (O 4 n0 0 3)) x1) 4 n0 0 3)) (nI 255)) 4 n0 0 3)) (oI none)) 4 n0 0 3)) (nI 0)) 4 n0 0 3) 6 then
(some (nI 0, (up (up (up (up (up (up O 4 n0 14 (Int32.toNatClampNeg (O 4 n0 0 3)) x1) 4 n0 15 (Int32.toNatClampNeg ((up O 4 n0 14 (Int32.toNatClampNeg (O 4 n0 0 3)) x1) 4 n0 0 3)) (nI 255)) 4 n0 16 (Int32.toNatClampNeg ((up (up O 4 n0 14 (Int32.toNatClampNeg (O 4 n0 0 3)) x1) 4 n0 15 (Int32.toNatClampNeg ((up O 4 n0 14 (Int32.toNatClampNeg (O 4 n0 0 3)) x1) 4 n0 0 3)) (nI 255)) 4 n0 0 3)) (oI none)) 4 n0 17 (Int32.toNatClampNeg ((up (up (up O 4 n0 14 (Int32.toNatClampNeg (O 4 n0 0 3)) x1) 4 n0 15 (Int32.toNatClampNeg ((up O 4 n0 14 (Int32.toNatClampNeg (O 4 n0 0 3)) x1) 4 n0 0 3)) (nI 255)) 4 n0 16 (Int32.toNatClampNeg ((up (up O 4 n0 14 (Int32.toNatClampNeg (O 4 n0 0 3)) x1) 4 n0 15 (Int32.toNatClampNeg ((up O 4 n0 14 (Int32.toNatClampNeg (O 4 n0 0 3)) x1) 4 n0 0 3)) (nI 255)) 4 n0 0 3)) (oI none)) 4 n0 0 3)) (nI 0)) 4 n0 18 (Int32.toNatClampNeg ((up (up (up (up O 4 n0 14 (Int32.toNatClampNeg (O 4 n0 0 3)) x1) 4 n0 15 (Int32.toNatClampNeg ((up O 4 n0 14 (Int32.toNatClampNeg (O 4 n0 0 3)) x1) 4 n0 0 3)) (nI 255)) 4 n0 16 (Int32.toNatClampNeg ((up (up O 4 n0 14 (Int32.toNatClampNeg (O 4 n0 0 3)) x1) 4 n0 15 (Int32.toNatClampNeg ((up O 4 n0 14 (Int32.toNatClampNeg (O 4 n0 0 3)) x1) 4 n0 0 3)) (nI 255)) 4 n0 0 3)) (oI none)) 4 n0 17 (Int32.toNatClampNeg ((up (up (up O 4 n0 14 (Int32.toNatClampNeg (O 4 n0 0 3)) x1) 4 n0 15 (Int32.toNatClampNeg ((up O 4 n0 14 (Int32.toNatClampNeg (O 4 n0 0 3)) x1) 4 n0 0 3)) (nI 255)) 4 n0 16 (Int32.toNatClampNeg ((up (up O 4 n0 14 (Int32.toNatClampNeg (O 4 n0 0 3)) x1) 4 n0 15 (Int32.toNatClampNeg ((up O 4 n0 14 (Int32.toNatClampNeg (O 4 n0 0 3)) x1) 4 n0 0 3)) (nI 255)) 4 n0 0 3)) (oI none)) 4 n0 0 3)) (nI 0)) 4 n0 0 3)) (nI 1)) 4 n0 0 3 (((up (up (up (up (up O 4 n0 14 (Int32.toNatClampNeg (O 4 n0 0 3)) x1) 4 n0 15 (Int32.toNatClampNeg ((up O 4 n0 14 (Int32.toNatClampNeg (O 4 n0 0 3)) x1) 4 n0 0 3)) (nI 255)) 4 n0 16 (Int32.toNatClampNeg ((up (up O 4 n0 14 (Int32.toNatClampNeg (O 4 n0 0 3)) x1) 4 n0 15 (Int32.toNatClampNeg ((up O 4 n0 14 (Int32.toNatClampNeg (O 4 n0 0 3)) x1) 4 n0 0 3)) (nI 255)) 4 n0 0 3)) (oI none)) 4 n0 17 (Int32.toNatClampNeg ((up (up (up O 4 n0 14 (Int32.toNatClampNeg (O 4 n0 0 3)) x1) 4 n0 15 (Int32.toNatClampNeg ((up O 4 n0 14 (Int32.toNatClampNeg (O 4 n0 0 3)) x1) 4 n0 0 3)) (nI 255)) 4 n0 16 (Int32.toNatClampNeg ((up (up O 4 n0 14 (Int32.toNatClampNeg (O 4 n0 0 3)) x1) 4 n0 15 (Int32.toNatClampNeg ((up O 4 n0 14 (Int32.toNatClampNeg (O 4 n0 0 3)) x1) 4 n0 0 3)) (nI 255)) 4 n0 0 3)) (oI none)) 4 n0 0 3)) (nI 0)) 4 n0 18 (Int32.toNatClampNeg ((up (up (up (up O 4 n0 14 (Int32.toNatClampNeg (O 4 n0 0 3)) x1) 4 n0 15 (Int32.toNatClampNeg ((up O 4 n0 14 (Int32.toNatClampNeg (O 4 n0 0 3)) x1) 4 n0 0 3)) (nI 255)) 4 n0 16 (Int32.toNatClampNeg ((up (up O 4 n0 14 (Int32.toNatClampNeg (O 4 n0 0 3)) x1) 4 n0 15 (Int32.toNatClampNeg ((up O 4 n0 14 (Int32.toNatClampNeg (O 4 n0 0 3)) x1) 4 n0 0 3)) (nI 255)) 4 n0 0 3)) (oI none)) 4 n0 17 (Int32.toNatClampNeg ((up (up (up O 4 n0 14 (Int32.toNatClampNeg (O 4 n0 0 3)) x1) 4 n0 15 (Int32.toNatClampNeg ((up O 4 n0 14 (Int32.toNatClampNeg (O 4 n0 0 3)) x1) 4 n0 0 3)) (nI 255)) 4 n0 16 (Int32.toNatClampNeg ((up (up O 4 n0 14 (Int32.toNatClampNeg (O 4 n0 0 3)) x1) 4 n0 15 (Int32.toNatClampNeg ((up O 4 n0 14 (Int32.toNatClampNeg (O 4 n0 0 3)) x1) 4 n0 0 3)) (nI 255)) 4 n0 0 3)) (oI none)) 4 n0 0 3)) (nI 0)) 4 n0 0 3)) (nI 1)) 4 n0 0 3) + (nI 1)))))
else none)
else none)
else none)
else none)
else none)
else
(some (nI 0, O)) := (ex_un d 40 300 0 [some (vr 4 n0 0), some (vi x1)] [] O).trans rfl
set_option maxRecDepth 100000 in
theorem sX4_settle_0 (d : Nat) (O : Mem_) (n0 : Nat) : ex (d + 1) 41 0 [some (vr 4 n0 0)] [] O =
ex (d + 1) 41 2 [some (vr 4 n0 0), some (vi (nI 0))] [] O := (ex_un d 41 300 0 [some (vr 4 n0 0)] [] O).trans rfl
set_option maxRecDepth 100000 in
theorem sX4_settle_2 (d : Nat) (O : Mem_) (n0 : Nat) (x1 : Int32) : ex (d + 1) 41 2 [some (vr 4 n0 0), some (vi x1)] [] O =
if x1 < (O 4 n0 0 0) then
(if ib x1 8 then
(ex (d + 1) 41 2 [some (vr 4 n0 0), some (vi (x1 + (nI 1)))] [] (up O 4 n0 6 (Int32.toNatClampNeg x1) (nI 0)))
else none)
else
(ex (d + 1) 41 25 [some (vr 4 n0 0), some (vi (nI 0))] [] O) := (ex_un d 41 300 2 [some (vr 4 n0 0), some (vi x1)] [] O).trans rfl
set_option maxRecDepth 100000 in
theorem sX4_settle_25 (d : Nat) (O : Mem_) (n0 : Nat) (x1 : Int32) : ex (d + 1) 41 25 [some (vr 4 n0 0), some (vi x1)] [] O =
if x1 < (O 4 n0 0 1) then
(if ib x1 12 then
(ex (d + 1) 41 42 [some (vr 4 n0 0), some (vi x1), some (vi (nI 0))] [] (up O 4 n0 10 (Int32.toNatClampNeg x1) (nI 0)))
else none)
else
(ex (d + 1) 41 126 [some (vr 4 n0 0), some (vi (nI 0))] [] O) := (ex_un d 41 300 25 [some (vr 4 n0 0), some (vi x1)] [] O).trans rfl
set_option maxRecDepth 100000 in
theorem sX4_settle_42 (d : Nat) (O : Mem_) (n0 : Nat) (x1 : Int32) (x2 : Int32) : ex (d + 1) 41 42 [some (vr 4 n0 0), some (vi x1), some (vi x2)] [] O =
if x2 < (O 4 n0 0 0) then
(if ib x2 8 then
(if ib x1 12 then
(if ib x1 12 then
(if ((O 4 n0 5 (Int32.toNatClampNeg x2)) &&& (O 4 n0 7 (Int32.toNatClampNeg x1))) = (O 4 n0 7 (Int32.toNatClampNeg x1)) then
(if ib x2 8 then
(if ib x1 12 then
(if ((O 4 n0 5 (Int32.toNatClampNeg x2)) &&& (O 4 n0 8 (Int32.toNatClampNeg x1))) = nI 0 then
(if ib x1 12 then
(if ib x1 12 then
(if ib x2 8 then
(if ib x2 8 then
(ex (d + 1) 41 42 [some (vr 4 n0 0), some (vi x1), some (vi (x2 + (nI 1)))] [] (up (up O 4 n0 10 (Int32.toNatClampNeg x1) ((O 4 n0 10 (Int32.toNatClampNeg x1)) ||| ((nI 1) <<< (x2 &&& (31:Int32))))) 4 n0 6 (Int32.toNatClampNeg x2) (((up O 4 n0 10 (Int32.toNatClampNeg x1) ((O 4 n0 10 (Int32.toNatClampNeg x1)) ||| ((nI 1) <<< (x2 &&& (31:Int32))))) 4 n0 6 (Int32.toNatClampNeg x2)) ||| ((nI 1) <<< (x1 &&& (31:Int32))))))
else none)
else none)
else none)
else none)
else
(ex (d + 1) 41 42 [some (vr 4 n0 0), some (vi x1), some (vi (x2 + (nI 1)))] [] O))
else none)
else none)
else
(ex (d + 1) 41 42 [some (vr 4 n0 0), some (vi x1), some (vi (x2 + (nI 1)))] [] O))
else none)
else none)
else none)
else
(ex (d + 1) 41 25 [some (vr 4 n0 0), some (vi (x1 + (nI 1)))] [] O) := (ex_un d 41 300 42 [some (vr 4 n0 0), some (vi x1), some (vi x2)] [] O).trans rfl
set_option maxRecDepth 100000 in
theorem sX4_settle_126 (d : Nat) (O : Mem_) (n0 : Nat) (x1 : Int32) : ex (d + 1) 41 126 [some (vr 4 n0 0), some (vi x1)] [] O =
if x1 < (O 4 n0 0 3) then
(if ib x1 6 then
(ex (d + 1) 41 143 [some (vr 4 n0 0), some (vi x1), some (vi (nI 0))] [] (up O 4 n0 19 (Int32.toNatClampNeg x1) (nI 0)))
else none)
else
((ex d 42 0 [some (vr 4 n0 0)] [] O).bind fun r0 =>
some (nI 0, r0.2)) := (ex_un d 41 300 126 [some (vr 4 n0 0), some (vi x1)] [] O).trans rfl
set_option maxRecDepth 100000 in
theorem sX4_settle_143 (d : Nat) (O : Mem_) (n0 : Nat) (x1 : Int32) (x2 : Int32) : ex (d + 1) 41 143 [some (vr 4 n0 0), some (vi x1), some (vi x2)] [] O =
if x2 < (O 4 n0 0 1) then
(if ib x2 12 then
(if ib x2 12 then
(if ib x1 6 then
(if (((O 4 n0 7 (Int32.toNatClampNeg x2)) ||| (O 4 n0 8 (Int32.toNatClampNeg x2))) &&& ((O 4 n0 15 (Int32.toNatClampNeg x1)) ^^^ (-1))) = nI 0 then
(if ib x1 6 then
(if ib x1 6 then
(ex (d + 1) 41 143 [some (vr 4 n0 0), some (vi x1), some (vi (x2 + (nI 1)))] [] (up O 4 n0 19 (Int32.toNatClampNeg x1) ((O 4 n0 19 (Int32.toNatClampNeg x1)) ||| ((nI 1) <<< (x2 &&& (31:Int32))))))
else none)
else none)
else
(ex (d + 1) 41 143 [some (vr 4 n0 0), some (vi x1), some (vi (x2 + (nI 1)))] [] O))
else none)
else none)
else none)
else
(ex (d + 1) 41 126 [some (vr 4 n0 0), some (vi (x1 + (nI 1)))] [] O) := (ex_un d 41 300 143 [some (vr 4 n0 0), some (vi x1), some (vi x2)] [] O).trans rfl
set_option maxRecDepth 100000 in
theorem sX4_settleMeanings_0 (d : Nat) (O : Mem_) (n0 : Nat) : ex (d + 1) 42 0 [some (vr 4 n0 0)] [] O =
ex (d + 1) 42 2 [some (vr 4 n0 0), some (vi (nI 0))] [] O := (ex_un d 42 300 0 [some (vr 4 n0 0)] [] O).trans rfl
set_option maxRecDepth 100000 in
theorem sX4_settleMeanings_2 (d : Nat) (O : Mem_) (n0 : Nat) (x1 : Int32) : ex (d + 1) 42 2 [some (vr 4 n0 0), some (vi x1)] [] O =
if x1 < (O 4 n0 0 1) then
(if ib x1 12 then
(ex (d + 1) 42 19 [some (vr 4 n0 0), some (vi x1), some (vi (nI 0))] [] (up O 4 n0 11 (Int32.toNatClampNeg x1) (nI 0)))
else none)
else
(ex (d + 1) 42 70 [some (vr 4 n0 0), some (vi (nI 0)), some (vi (nI 0))] [] O) := (ex_un d 42 300 2 [some (vr 4 n0 0), some (vi x1)] [] O).trans rfl
set_option maxRecDepth 100000 in
theorem sX4_settleMeanings_19 (d : Nat) (O : Mem_) (n0 : Nat) (x1 : Int32) (x2 : Int32) : ex (d + 1) 42 19 [some (vr 4 n0 0), some (vi x1), some (vi x2)] [] O =
if x2 < (O 4 n0 0 1) then
(if ib x1 12 then
(if ib x2 12 then
(if (O 4 n0 10 (Int32.toNatClampNeg x1)) = (O 4 n0 10 (Int32.toNatClampNeg x2)) then
(if ib x1 12 then
(if ib x1 12 then
(ex (d + 1) 42 19 [some (vr 4 n0 0), some (vi x1), some (vi (x2 + (nI 1)))] [] (up O 4 n0 11 (Int32.toNatClampNeg x1) ((O 4 n0 11 (Int32.toNatClampNeg x1)) ||| ((nI 1) <<< (x2 &&& (31:Int32))))))
else none)
else none)
else
(ex (d + 1) 42 19 [some (vr 4 n0 0), some (vi x1), some (vi (x2 + (nI 1)))] [] O))
else none)
else none)
else
(ex (d + 1) 42 2 [some (vr 4 n0 0), some (vi (x1 + (nI 1)))] [] O) := (ex_un d 42 300 19 [some (vr 4 n0 0), some (vi x1), some (vi x2)] [] O).trans rfl
set_option maxRecDepth 100000 in
theorem sX4_settleMeanings_70 (d : Nat) (O : Mem_) (n0 : Nat) (x1 : Int32) (x2 : Int32) : ex (d + 1) 42 70 [some (vr 4 n0 0), some (vi x1), some (vi x2)] [] O =
if (nI 8) < x2 then
(some (nI 0, O))
else
(ex (d + 1) 42 78 [some (vr 4 n0 0), some (vi x1), some (vi x2), some (vi (nI 0))] [] O) := (ex_un d 42 300 70 [some (vr 4 n0 0), some (vi x1), some (vi x2)] [] O).trans rfl
set_option maxRecDepth 100000 in
theorem sX4_settleMeanings_78 (d : Nat) (O : Mem_) (n0 : Nat) (x1 : Int32) (x2 : Int32) (x3 : Int32) : ex (d + 1) 42 78 [some (vr 4 n0 0), some (vi x1), some (vi x2), some (vi x3)] [] O =
if x3 < (O 4 n0 0 1) then
(if ib x3 12 then
(if (O 4 n0 9 (Int32.toNatClampNeg x3)) = x2 then
(if x1 < (nI 12) then
(if ib x1 12 then
(ex (d + 1) 42 78 [some (vr 4 n0 0), some (vi (x1 + (nI 1))), some (vi x2), some (vi (x3 + (nI 1)))] [] (up O 4 n0 12 (Int32.toNatClampNeg x1) x3))
else none)
else
(ex (d + 1) 42 78 [some (vr 4 n0 0), some (vi x1), some (vi x2), some (vi (x3 + (nI 1)))] [] O))
else
(ex (d + 1) 42 78 [some (vr 4 n0 0), some (vi x1), some (vi x2), some (vi (x3 + (nI 1)))] [] O))
else none)
else
(ex (d + 1) 42 70 [some (vr 4 n0 0), some (vi x1), some (vi (x2 + (nI 1)))] [] O) := (ex_un d 42 300 78 [some (vr 4 n0 0), some (vi x1), some (vi x2), some (vi x3)] [] O).trans rfl
set_option maxRecDepth 100000 in
theorem sX4_hasThing_0 (d : Nat) (O : Mem_) (n0 : Nat) (x1 : Int32) : ex (d + 1) 43 0 [some (vr 4 n0 0), some (vi x1)] [] O =
if x1 < nI 0 then
(some ((nI 0), O))
else
(if x1 < (O 4 n0 0 0) then
(some ((nI 1), O))
else
(some ((nI 0), O))) := (ex_un d 43 300 0 [some (vr 4 n0 0), some (vi x1)] [] O).trans rfl
set_option maxRecDepth 100000 in
theorem sX4_hasMeaning_0 (d : Nat) (O : Mem_) (n0 : Nat) (x1 : Int32) : ex (d + 1) 44 0 [some (vr 4 n0 0), some (vi x1)] [] O =
if x1 < nI 0 then
(some ((nI 0), O))
else
(if x1 < (O 4 n0 0 1) then
(some ((nI 1), O))
else
(some ((nI 0), O))) := (ex_un d 44 300 0 [some (vr 4 n0 0), some (vi x1)] [] O).trans rfl
set_option maxRecDepth 100000 in
theorem sX4_hasSound_0 (d : Nat) (O : Mem_) (n0 : Nat) (x1 : Int32) : ex (d + 1) 45 0 [some (vr 4 n0 0), some (vi x1)] [] O =
if x1 < nI 0 then
(some ((nI 0), O))
else
(if x1 < (O 4 n0 0 2) then
(some ((nI 1), O))
else
(some ((nI 0), O))) := (ex_un d 45 300 0 [some (vr 4 n0 0), some (vi x1)] [] O).trans rfl
set_option maxRecDepth 100000 in
theorem sX4_hasKind_0 (d : Nat) (O : Mem_) (n0 : Nat) (x1 : Int32) : ex (d + 1) 46 0 [some (vr 4 n0 0), some (vi x1)] [] O =
if x1 < nI 0 then
(some ((nI 0), O))
else
(if x1 < (O 4 n0 0 3) then
(some ((nI 1), O))
else
(some ((nI 0), O))) := (ex_un d 46 300 0 [some (vr 4 n0 0), some (vi x1)] [] O).trans rfl
set_option maxRecDepth 100000 in
theorem sX4_areKinds_0 (d : Nat) (O : Mem_) (n0 : Nat) (x1 : Int32) : ex (d + 1) 47 0 [some (vr 4 n0 0), some (vi x1)] [] O =
if x1 < nI 0 then
(some ((nI 0), O))
else
(if x1 < ((nI 1) <<< ((O 4 n0 0 3) &&& (31:Int32))) then
(some ((nI 1), O))
else
(some ((nI 0), O))) := (ex_un d 47 300 0 [some (vr 4 n0 0), some (vi x1)] [] O).trans rfl
set_option maxRecDepth 100000 in
theorem sX4_allThings_0 (d : Nat) (O : Mem_) (n0 : Nat) : ex (d + 1) 48 0 [some (vr 4 n0 0)] [] O =
some ((((nI 1) <<< ((O 4 n0 0 0) &&& (31:Int32))) - (nI 1)), O) := (ex_un d 48 300 0 [some (vr 4 n0 0)] [] O).trans rfl
set_option maxRecDepth 100000 in
theorem sX4_allMeanings_0 (d : Nat) (O : Mem_) (n0 : Nat) : ex (d + 1) 49 0 [some (vr 4 n0 0)] [] O =
some ((((nI 1) <<< ((O 4 n0 0 1) &&& (31:Int32))) - (nI 1)), O) := (ex_un d 49 300 0 [some (vr 4 n0 0)] [] O).trans rfl
set_option maxRecDepth 100000 in
theorem sX4_allKinds_0 (d : Nat) (O : Mem_) (n0 : Nat) : ex (d + 1) 50 0 [some (vr 4 n0 0)] [] O =
some ((((nI 1) <<< ((O 4 n0 0 3) &&& (31:Int32))) - (nI 1)), O) := (ex_un d 50 300 0 [some (vr 4 n0 0)] [] O).trans rfl
set_option maxRecDepth 100000 in
theorem sX4_plainest_0 (d : Nat) (O : Mem_) (n0 : Nat) (x1 : Int32) : ex (d + 1) 51 0 [some (vr 4 n0 0), some (vi x1)] [] O =
ex (d + 1) 51 2 [some (vr 4 n0 0), some (vi x1), some (vi (nI 0))] [] O := (ex_un d 51 300 0 [some (vr 4 n0 0), some (vi x1)] [] O).trans rfl
set_option maxRecDepth 100000 in
theorem sX4_plainest_2 (d : Nat) (O : Mem_) (n0 : Nat) (x1 : Int32) (x2 : Int32) : ex (d + 1) 51 2 [some (vr 4 n0 0), some (vi x1), some (vi x2)] [] O =
if x2 < (O 4 n0 0 1) then
(if ib x2 12 then
((ex d 109 0 [some (vi (O 4 n0 12 (Int32.toNatClampNeg x2))), some (vi x1)] [] O).bind fun r0 =>
if r0.1 = nI 0 then
(ex (d + 1) 51 2 [some (vr 4 n0 0), some (vi x1), some (vi (x2 + (nI 1)))] [] r0.2)
else
(if ib x2 12 then
(some ((r0.2 4 n0 12 (Int32.toNatClampNeg x2)), r0.2))
else none))
else none)
else
(some ((oI none), O)) := (ex_un d 51 300 2 [some (vr 4 n0 0), some (vi x1), some (vi x2)] [] O).trans rfl
set_option maxRecDepth 100000 in
theorem sX4_fitting_0 (d : Nat) (O : Mem_) (n0 : Nat) (x1 : Int32) (x2 : Int32) : ex (d + 1) 52 0 [some (vr 4 n0 0), some (vi x1), some (vi x2)] [] O =
(ex d 43 0 [some (vr 4 n0 0), some (vi x1)] [] O).bind fun r0 =>
if r0.1 = nI 0 then
(some ((nI 0), r0.2))
else
(if x2 = nI 0 then
((ex d 49 0 [some (vr 4 n0 0)] [] r0.2).bind fun r1 =>
if ib x1 8 then
(some ((r1.1 &&& ((r1.2 4 n0 6 (Int32.toNatClampNeg x1)) ^^^ (-1))), r1.2))
else none)
else
(if ib x1 8 then
(some ((r0.2 4 n0 6 (Int32.toNatClampNeg x1)), r0.2))
else none)) := (ex_un d 52 300 0 [some (vr 4 n0 0), some (vi x1), some (vi x2)] [] O).trans rfl
set_option maxRecDepth 100000 in
theorem sX4_targetThings_0 (d : Nat) (O : Mem_) (n0 : Nat) (x1 : Int32) : ex (d + 1) 53 0 [some (vr 4 n0 0), some (vi x1)] [] O =
(ex d 45 0 [some (vr 4 n0 0), some (vi x1)] [] O).bind fun r0 =>
if r0.1 = nI 0 then
(some ((nI 0), r0.2))
else
(if ib x1 4 then
((ex d 44 0 [some (vr 4 n0 0), some (vi (r0.2 4 n0 13 (Int32.toNatClampNeg x1)))] [] r0.2).bind fun r1 =>
if r1.1 = nI 0 then
(some ((nI 0), r1.2))
else
(if ib x1 4 then
(if ib (r1.2 4 n0 13 (Int32.toNatClampNeg x1)) 12 then
(some ((r1.2 4 n0 10 (Int32.toNatClampNeg (r1.2 4 n0 13 (Int32.toNatClampNeg x1)))), r1.2))
else none)
else none))
else none) := (ex_un d 53 300 0 [some (vr 4 n0 0), some (vi x1)] [] O).trans rfl
set_option maxRecDepth 100000 in
theorem sX4_likeTarget_0 (d : Nat) (O : Mem_) (n0 : Nat) (x1 : Int32) : ex (d + 1) 54 0 [some (vr 4 n0 0), some (vi x1)] [] O =
(ex d 45 0 [some (vr 4 n0 0), some (vi x1)] [] O).bind fun r0 =>
if r0.1 = nI 0 then
(some ((nI 0), r0.2))
else
(if ib x1 4 then
((ex d 44 0 [some (vr 4 n0 0), some (vi (r0.2 4 n0 13 (Int32.toNatClampNeg x1)))] [] r0.2).bind fun r1 =>
if r1.1 = nI 0 then
(some ((nI 0), r1.2))
else
(if ib x1 4 then
(if ib (r1.2 4 n0 13 (Int32.toNatClampNeg x1)) 12 then
(some ((r1.2 4 n0 11 (Int32.toNatClampNeg (r1.2 4 n0 13 (Int32.toNatClampNeg x1)))), r1.2))
else none)
else none))
else none) := (ex_un d 54 300 0 [some (vr 4 n0 0), some (vi x1)] [] O).trans rfl
set_option maxRecDepth 100000 in
theorem sX4_isTarget_0 (d : Nat) (O : Mem_) (n0 : Nat) (x1 : Int32) (x2 : Int32) : ex (d + 1) 55 0 [some (vr 4 n0 0), some (vi x1), some (vi x2)] [] O =
(ex d 53 0 [some (vr 4 n0 0), some (vi x1)] [] O).bind fun r0 =>
(ex d 109 0 [some (vi x2), some (vi r0.1)] [] r0.2).bind fun r1 =>
if r1.1 = nI 0 ∨ r1.1 = nI 1 then some (r1.1, r1.2) else none := (ex_un d 55 300 0 [some (vr 4 n0 0), some (vi x1), some (vi x2)] [] O).trans rfl
set_option maxRecDepth 100000 in
theorem sX4_kindsThatCan_0 (d : Nat) (O : Mem_) (n0 : Nat) (x1 : Int32) : ex (d + 1) 56 0 [some (vr 4 n0 0), some (vi x1)] [] O =
ex (d + 1) 56 4 [some (vr 4 n0 0), some (vi x1), some (vi (nI 0)), some (vi (nI 0))] [] O := (ex_un d 56 300 0 [some (vr 4 n0 0), some (vi x1)] [] O).trans rfl
set_option maxRecDepth 100000 in
theorem sX4_kindsThatCan_4 (d : Nat) (O : Mem_) (n0 : Nat) (x1 : Int32) (x2 : Int32) (x3 : Int32) : ex (d + 1) 56 4 [some (vr 4 n0 0), some (vi x1), some (vi x2), some (vi x3)] [] O =
if x3 < (O 4 n0 0 3) then
(if ib x3 6 then
((ex d 109 0 [some (vi x1), some (vi (O 4 n0 19 (Int32.toNatClampNeg x3)))] [] O).bind fun r0 =>
if r0.1 = nI 0 then
(ex (d + 1) 56 4 [some (vr 4 n0 0), some (vi x1), some (vi x2), some (vi (x3 + (nI 1)))] [] r0.2)
else
(ex (d + 1) 56 4 [some (vr 4 n0 0), some (vi x1), some (vi (x2 ||| ((nI 1) <<< (x3 &&& (31:Int32))))), some (vi (x3 + (nI 1)))] [] r0.2))
else none)
else
(some (x2, O)) := (ex_un d 56 300 4 [some (vr 4 n0 0), some (vi x1), some (vi x2), some (vi x3)] [] O).trans rfl
set_option maxRecDepth 100000 in
theorem sX4_kindsWithChance_0 (d : Nat) (O : Mem_) (n0 : Nat) : ex (d + 1) 57 0 [some (vr 4 n0 0)] [] O =
ex (d + 1) 57 4 [some (vr 4 n0 0), some (vi (nI 0)), some (vi (nI 0))] [] O := (ex_un d 57 300 0 [some (vr 4 n0 0)] [] O).trans rfl
set_option maxRecDepth 100000 in
theorem sX4_kindsWithChance_4 (d : Nat) (O : Mem_) (n0 : Nat) (x1 : Int32) (x2 : Int32) : ex (d + 1) 57 4 [some (vr 4 n0 0), some (vi x1), some (vi x2)] [] O =
if x2 < (O 4 n0 0 3) then
(if ib x2 6 then
(if nI 0 < (O 4 n0 18 (Int32.toNatClampNeg x2)) then
(ex (d + 1) 57 4 [some (vr 4 n0 0), some (vi (x1 ||| ((nI 1) <<< (x2 &&& (31:Int32))))), some (vi (x2 + (nI 1)))] [] O)
else
(ex (d + 1) 57 4 [some (vr 4 n0 0), some (vi x1), some (vi (x2 + (nI 1)))] [] O))
else none)
else
(some (x1, O)) := (ex_un d 57 300 4 [some (vr 4 n0 0), some (vi x1), some (vi x2)] [] O).trans rfl
set_option maxRecDepth 100000 in
theorem sX4_chances_0 (d : Nat) (O : Mem_) (n0 : Nat) (x1 : Int32) : ex (d + 1) 58 0 [some (vr 4 n0 0), some (vi x1)] [] O =
ex (d + 1) 58 4 [some (vr 4 n0 0), some (vi x1), some (vi (nI 0)), some (vi (nI 0))] [] O := (ex_un d 58 300 0 [some (vr 4 n0 0), some (vi x1)] [] O).trans rfl
set_option maxRecDepth 100000 in
theorem sX4_chances_4 (d : Nat) (O : Mem_) (n0 : Nat) (x1 : Int32) (x2 : Int32) (x3 : Int32) : ex (d + 1) 58 4 [some (vr 4 n0 0), some (vi x1), some (vi x2), some (vi x3)] [] O =
if x3 < (O 4 n0 0 3) then
((ex d 109 0 [some (vi x3), some (vi x1)] [] O).bind fun r0 =>
if r0.1 = nI 0 then
(ex (d + 1) 58 4 [some (vr 4 n0 0), some (vi x1), some (vi x2), some (vi (x3 + (nI 1)))] [] r0.2)
else
(if ib x3 6 then
(ex (d + 1) 58 4 [some (vr 4 n0 0), some (vi x1), some (vi (x2 + (r0.2 4 n0 18 (Int32.toNatClampNeg x3)))), some (vi (x3 + (nI 1)))] [] r0.2)
else none))
else
(some (x2, O)) := (ex_un d 58 300 4 [some (vr 4 n0 0), some (vi x1), some (vi x2), some (vi x3)] [] O).trans rfl
set_option maxRecDepth 100000 in
theorem sX4_fearedBy_0 (d : Nat) (O : Mem_) (n0 : Nat) (x1 : Int32) : ex (d + 1) 59 0 [some (vr 4 n0 0), some (vi x1)] [] O =
ex (d + 1) 59 4 [some (vr 4 n0 0), some (vi x1), some (vi (nI 0)), some (vi (nI 0))] [] O := (ex_un d 59 300 0 [some (vr 4 n0 0), some (vi x1)] [] O).trans rfl
set_option maxRecDepth 100000 in
theorem sX4_fearedBy_4 (d : Nat) (O : Mem_) (n0 : Nat) (x1 : Int32) (x2 : Int32) (x3 : Int32) : ex (d + 1) 59 4 [some (vr 4 n0 0), some (vi x1), some (vi x2), some (vi x3)] [] O =
if x3 < (O 4 n0 0 3) then
((ex d 109 0 [some (vi x3), some (vi x1)] [] O).bind fun r0 =>
if r0.1 = nI 0 then
(ex (d + 1) 59 4 [some (vr 4 n0 0), some (vi x1), some (vi x2), some (vi (x3 + (nI 1)))] [] r0.2)
else
(if ib x3 6 then
((ex d 43 0 [some (vr 4 n0 0), some (vi (r0.2 4 n0 16 (Int32.toNatClampNeg x3)))] [] r0.2).bind fun r1 =>
if r1.1 = nI 0 then
(ex (d + 1) 59 4 [some (vr 4 n0 0), some (vi x1), some (vi x2), some (vi (x3 + (nI 1)))] [] r1.2)
else
(if ib x3 6 then
(ex (d + 1) 59 4 [some (vr 4 n0 0), some (vi x1), some (vi (x2 ||| ((nI 1) <<< ((r1.2 4 n0 16 (Int32.toNatClampNeg x3)) &&& (31:Int32))))), some (vi (x3 + (nI 1)))] [] r1.2)
else none))
else none))
else
(some (x2, O)) := (ex_un d 59 300 4 [some (vr 4 n0 0), some (vi x1), some (vi x2), some (vi x3)] [] O).trans rfl
set_option maxRecDepth 100000 in
theorem sX5_findRow_0 (d : Nat) (O : Mem_) (n1 : Nat) (n2 : Nat) (x3 : Int32) (x4 : Int32) (x5 : Int32) : ex (d + 1) 60 0 [some (vr 5 0 0), some (vr 4 n1 0), some (vr 0 n2 0), some (vi x3), some (vi x4), some (vi x5)] [] O =
(ex d 61 0 [some (vr 4 n1 0), some (vr 0 n2 0), some (vi x3), some (vi x4)] [] O).bind fun r0 =>
if r0.1 = nI 0 then
((ex d 62 0 [some (vr 4 n1 0), some (vi x3)] [] (up (up r0.2 5 0 0 7 x3) 5 0 0 8 x4)).bind fun r1 =>
if ib (nI 0) 6 then
((ex d 1 0 [some (vr 0 (2 + (Int32.toNatClampNeg (nI 0))) 0), some (vr 0 n2 0)] [] (up r1.2 5 0 0 9 r1.1)).bind fun r2 =>
ex (d + 1) 60 46 [some (vr 5 0 0), some (vr 4 n1 0), none, none, none, some (vi x5), some (vi (nI 0))] [] r2.2)
else none)
else
(some ((nI 0), r0.2)) := (ex_un d 60 300 0 [some (vr 5 0 0), some (vr 4 n1 0), some (vr 0 n2 0), some (vi x3), some (vi x4), some (vi x5)] [] O).trans rfl
set_option maxRecDepth 100000 in
theorem sX5_findRow_46 (d : Nat) (O : Mem_) (n1 : Nat) (x5 : Int32) (x6 : Int32) : ex (d + 1) 60 46 [some (vr 5 0 0), some (vr 4 n1 0), none, none, none, some (vi x5), some (vi x6)] [] O =
if x5 < x6 then
(some ((nI 0), O))
else
(if (nI 5) < x6 then
(some ((nI 0), O))
else
((ex d 63 0 [some (vr 5 0 0), some (vr 4 n1 0), some (vi (nI 0))] [] (up O 5 0 0 1 x6)).bind fun r0 =>
if r0.1 = nI 0 then
(ex (d + 1) 60 46 [some (vr 5 0 0), some (vr 4 n1 0), none, none, none, some (vi x5), some (vi (x6 + (nI 1)))] [] r0.2)
else
(some ((nI 1), r0.2)))) := (ex_un d 60 300 46 [some (vr 5 0 0), some (vr 4 n1 0), none, none, none, some (vi x5), some (vi x6)] [] O).trans rfl
set_option maxRecDepth 100000 in
theorem sX5_isHopeless_0 (d : Nat) (O : Mem_) (n0 : Nat) (n1 : Nat) (x2 : Int32) (x3 : Int32) : ex (d + 1) 61 0 [some (vr 4 n0 0), some (vr 0 n1 0), some (vi x2), some (vi x3)] [] O =
ex (d + 1) 61 3 [some (vr 4 n0 0), some (vr 0 n1 0), some (vi x2), some (vi x3), some (vi (nI 0))] [] O := (ex_un d 61 300 0 [some (vr 4 n0 0), some (vr 0 n1 0), some (vi x2), some (vi x3)] [] O).trans rfl
set_option maxRecDepth 100000 in
theorem sX5_isHopeless_3 (d : Nat) (O : Mem_) (n0 : Nat) (n1 : Nat) (x2 : Int32) (x3 : Int32) (x4 : Int32) : ex (d + 1) 61 3 [some (vr 4 n0 0), some (vr 0 n1 0), some (vi x2), some (vi x3), some (vi x4)] [] O =
if x4 < (O 4 n0 0 3) then
((ex d 109 0 [some (vi x4), some (vi x2)] [] O).bind fun r0 =>
if r0.1 = nI 0 then
(ex (d + 1) 61 3 [some (vr 4 n0 0), some (vr 0 n1 0), some (vi x2), some (vi x3), some (vi (x4 + (nI 1)))] [] r0.2)
else
((ex d 8 0 [some (vr 0 n1 0), some (vr 4 n0 0), some (vi x4), some (vi x3)] [] r0.2).bind fun r1 =>
if r1.1 = nI 0 then
((ex d 6 0 [some (vr 0 n1 0), some (vr 4 n0 0), some (vi x4), some (vi x3)] [] r1.2).bind fun r2 =>
(ex d 54 0 [some (vr 4 n0 0), some (vi x3)] [] r2.2).bind fun r3 =>
if (r2.1 &&& r3.1) = nI 0 then
(ex (d + 1) 61 57 [some (vr 4 n0 0), some (vr 0 n1 0), some (vi x2), some (vi x3), some (vi x4)] [vi (nI 0)] r3.2)
else
(ex (d + 1) 61 57 [some (vr 4 n0 0), some (vr 0 n1 0), some (vi x2), some (vi x3), some (vi x4)] [vi (nI 1)] r3.2))
else
(ex (d + 1) 61 57 [some (vr 4 n0 0), some (vr 0 n1 0), some (vi x2), some (vi x3), some (vi x4)] [vi (nI 1)] r1.2)))
else
(some ((nI 0), O)) := (ex_un d 61 300 3 [some (vr 4 n0 0), some (vr 0 n1 0), some (vi x2), some (vi x3), some (vi x4)] [] O).trans rfl
set_option maxRecDepth 100000 in
theorem sX5_isHopeless_57 (d : Nat) (O : Mem_) (n0 : Nat) (n1 : Nat) (x2 : Int32) (x3 : Int32) (x4 : Int32) (y0 : Int32) : ex (d + 1) 61 57 [some (vr 4 n0 0), some (vr 0 n1 0), some (vi x2), some (vi x3), some (vi x4)] [vi y0] O =
if ib x4 6 then
(if (O 0 n1 5 (Int32.toNatClampNeg x4)) = (oI none) then
(if y0 = nI 0 then
(some ((nI 1), O))
else
(ex (d + 1) 61 3 [some (vr 4 n0 0), some (vr 0 n1 0), some (vi x2), some (vi x3), some (vi (x4 + (nI 1)))] [] O))
else
(some ((nI 1), O)))
else none := (ex_un d 61 300 57 [some (vr 4 n0 0), some (vr 0 n1 0), some (vi x2), some (vi x3), some (vi x4)] [vi y0] O).trans rfl
set_option maxRecDepth 100000 in
theorem sX5_thingsWorthShowing_0 (d : Nat) (O : Mem_) (n0 : Nat) (x1 : Int32) : ex (d + 1) 62 0 [some (vr 4 n0 0), some (vi x1)] [] O =
(ex d 59 0 [some (vr 4 n0 0), some (vi x1)] [] O).bind fun r0 =>
ex (d + 1) 62 11 [some (vr 4 n0 0), none, some (vi r0.1), some (vi (nI 0)), some (vi (nI 0))] [] r0.2 := (ex_un d 62 300 0 [some (vr 4 n0 0), some (vi x1)] [] O).trans rfl
set_option maxRecDepth 100000 in
theorem sX5_thingsWorthShowing_11 (d : Nat) (O : Mem_) (n0 : Nat) (x2 : Int32) (x3 : Int32) (x4 : Int32) : ex (d + 1) 62 11 [some (vr 4 n0 0), none, some (vi x2), some (vi x3), some (vi x4)] [] O =
if x4 < (O 4 n0 0 0) then
((ex d 109 0 [some (vi x4), some (vi x2)] [] O).bind fun r0 =>
if r0.1 = nI 0 then
(ex (d + 1) 62 39 [some (vr 4 n0 0), none, some (vi x2), some (vi x3), some (vi x4), some (vi (nI 1)), some (vi (nI 0))] [] r0.2)
else
(ex (d + 1) 62 39 [some (vr 4 n0 0), none, some (vi x2), some (vi x3), some (vi x4), some (vi (nI 0)), some (vi (nI 0))] [] r0.2))
else
(some (x3, O)) := (ex_un d 62 300 11 [some (vr 4 n0 0), none, some (vi x2), some (vi x3), some (vi x4)] [] O).trans rfl
set_option maxRecDepth 100000 in
theorem sX5_thingsWorthShowing_39 (d : Nat) (O : Mem_) (n0 : Nat) (x2 : Int32) (x3 : Int32) (x4 : Int32) (x5 : Int32) (x6 : Int32) : ex (d + 1) 62 39 [some (vr 4 n0 0), none, some (vi x2), some (vi x3), some (vi x4), some (vi x5), some (vi x6)] [] O =
if x6 < x4 then
((ex d 109 0 [some (vi x6), some (vi x3)] [] O).bind fun r0 =>
if r0.1 = nI 0 then
(ex (d + 1) 62 39 [some (vr 4 n0 0), none, some (vi x2), some (vi x3), some (vi x4), some (vi x5), some (vi (x6 + (nI 1)))] [] r0.2)
else
(if ib x6 8 then
(if ib x4 8 then
(if (r0.2 4 n0 6 (Int32.toNatClampNeg x6)) = (r0.2 4 n0 6 (Int32.toNatClampNeg x4)) then
(ex (d + 1) 62 39 [some (vr 4 n0 0), none, some (vi x2), some (vi x3), some (vi x4), some (vi (nI 0)), some (vi (x6 + (nI 1)))] [] r0.2)
else
(ex (d + 1) 62 39 [some (vr 4 n0 0), none, some (vi x2), some (vi x3), some (vi x4), some (vi x5), some (vi (x6 + (nI 1)))] [] r0.2))
else none)
else none))
else
(if x5 = nI 0 then
(ex (d + 1) 62 11 [some (vr 4 n0 0), none, some (vi x2), some (vi x3), some (vi (x4 + (nI 1)))] [] O)
else
(ex (d + 1) 62 11 [some (vr 4 n0 0), none, some (vi x2), some (vi (x3 ||| ((nI 1) <<< (x4 &&& (31:Int32))))), some (vi (x4 + (nI 1)))] [] O)) := (ex_un d 62 300 39 [some (vr 4 n0 0), none, some (vi x2), some (vi x3), some (vi x4), some (vi x5), some (vi x6)] [] O).trans rfl
set_option maxRecDepth 100000 in
theorem sX5_reaches_0 (d : Nat) (O : Mem_) (n1 : Nat) (x2 : Int32) : ex (d + 1) 63 0 [some (vr 5 0 0), some (vr 4 n1 0), some (vi x2)] [] O =
if x2 < (O 5 0 0 1) then
(if x2 < (nI 5) then
(ex (d + 1) 63 34 [some (vr 5 0 0), some (vr 4 n1 0), some (vi x2), some (vi (nI 0))] [] O)
else
(ex (d + 1) 63 13 [some (vr 5 0 0), some (vr 4 n1 0), some (vi x2)] [] O))
else
(ex (d + 1) 63 13 [some (vr 5 0 0), some (vr 4 n1 0), some (vi x2)] [] O) := (ex_un d 63 300 0 [some (vr 5 0 0), some (vr 4 n1 0), some (vi x2)] [] O).trans rfl
set_option maxRecDepth 100000 in
theorem sX5_reaches_13 (d : Nat) (O : Mem_) (n1 : Nat) (x2 : Int32) : ex (d + 1) 63 13 [some (vr 5 0 0), some (vr 4 n1 0), some (vi x2)] [] O =
if ib x2 6 then
((ex d 9 0 [some (vr 0 (2 + (Int32.toNatClampNeg x2)) 0), some (vr 4 n1 0), some (vi (O 5 0 0 7)), some (vi (O 5 0 0 8))] [] O).bind fun r0 =>
if r0.1 = nI 0 ∨ r0.1 = nI 1 then some (r0.1, r0.2) else none)
else none := (ex_un d 63 300 13 [some (vr 5 0 0), some (vr 4 n1 0), some (vi x2)] [] O).trans rfl
set_option maxRecDepth 100000 in
theorem sX5_reaches_34 (d : Nat) (O : Mem_) (n1 : Nat) (x2 : Int32) (x3 : Int32) : ex (d + 1) 63 34 [some (vr 5 0 0), some (vr 4 n1 0), some (vi x2), some (vi x3)] [] O =
if x3 < (O 4 n1 0 0) then
((ex d 109 0 [some (vi x3), some (vi (O 5 0 0 9))] [] O).bind fun r0 =>
if r0.1 = nI 0 then
(ex (d + 1) 63 34 [some (vr 5 0 0), some (vr 4 n1 0), some (vi x2), some (vi (x3 + (nI 1)))] [] r0.2)
else
(if ib (x2 + (nI 1)) 6 then
(if ib x2 6 then
((ex d 1 0 [some (vr 0 (2 + (Int32.toNatClampNeg (x2 + (nI 1)))) 0), some (vr 0 (2 + (Int32.toNatClampNeg x2)) 0)] [] r0.2).bind fun r1 =>
if ib x2 5 then
((ex d 55 0 [some (vr 4 n1 0), some (vi ((up r1.2 5 0 1 (Int32.toNatClampNeg x2) x3) 5 0 0 8)), some (vi x3)] [] (up r1.2 5 0 1 (Int32.toNatClampNeg x2) x3)).bind fun r2 =>
(ex d 2 0 [some (vr 0 (2 + (Int32.toNatClampNeg (x2 + (nI 1)))) 0), some (vr 4 n1 0), some (vi ((up r1.2 5 0 1 (Int32.toNatClampNeg x2) x3) 5 0 0 7)), some (vi ((up r1.2 5 0 1 (Int32.toNatClampNeg x2) x3) 5 0 0 8)), some (vi x3), some (vi r2.1)] [] r2.2).bind fun r3 =>
if r3.1 = nI 0 then
(ex (d + 1) 63 34 [some (vr 5 0 0), some (vr 4 n1 0), some (vi x2), some (vi (x3 + (nI 1)))] [] r3.2)
else
((ex d 63 0 [some (vr 5 0 0), some (vr 4 n1 0), some (vi (x2 + (nI 1)))] [] r3.2).bind fun r4 =>
if r4.1 = nI 0 then
(ex (d + 1) 63 34 [some (vr 5 0 0), some (vr 4 n1 0), some (vi x2), some (vi (x3 + (nI 1)))] [] r4.2)
else
(some ((nI 1), r4.2))))
else none)
else none)
else none))
else
(some ((nI 0), O)) := (ex_un d 63 300 34 [some (vr 5 0 0), some (vr 4 n1 0), some (vi x2), some (vi x3)] [] O).trans rfl
set_option maxRecDepth 100000 in
theorem sX5_forgetOrder_0 (d : Nat) (O : Mem_) (n1 : Nat) : ex (d + 1) 64 0 [some (vr 5 0 0), some (vr 4 n1 0)] [] O =
if ib (nI 0) 5 then
((ex d 0 0 [some (vr 0 (8 + (Int32.toNatClampNeg (nI 0))) 0), some (vr 4 n1 0)] [] (up O 5 0 0 3 (nI 1000))).bind fun r0 =>
some (nI 0, r0.2))
else none := (ex_un d 64 300 0 [some (vr 5 0 0), some (vr 4 n1 0)] [] O).trans rfl
set_option maxRecDepth 100000 in
theorem sX5_hasOrder_0 (d : Nat) (O : Mem_)  : ex (d + 1) 65 0 [some (vr 5 0 0)] [] O =
if (O 5 0 0 3) = (nI 1000) then
(some ((nI 0), O))
else
(some ((nI 1), O)) := (ex_un d 65 300 0 [some (vr 5 0 0)] [] O).trans rfl
set_option maxRecDepth 100000 in
theorem sX5_tryOrders_0 (d : Nat) (O : Mem_) (n1 : Nat) (x2 : Int32) (x3 : Int32) (x4 : Int32) (x5 : Int32) : ex (d + 1) 66 0 [some (vr 5 0 0), some (vr 4 n1 0), some (vi x2), some (vi x3), some (vi x4), some (vi x5)] [] O =
if x3 < (O 4 n1 0 2) then
(if x3 < (nI 4) then
(ex (d + 1) 66 37 [some (vr 5 0 0), some (vr 4 n1 0), some (vi x2), some (vi x3), some (vi x4), some (vi x5), some (vi (nI 0))] [] O)
else
(ex (d + 1) 66 13 [some (vr 5 0 0), none, none, none, none, some (vi x5)] [] O))
else
(ex (d + 1) 66 13 [some (vr 5 0 0), none, none, none, none, some (vi x5)] [] O) := (ex_un d 66 300 0 [some (vr 5 0 0), some (vr 4 n1 0), some (vi x2), some (vi x3), some (vi x4), some (vi x5)] [] O).trans rfl
set_option maxRecDepth 100000 in
theorem sX5_tryOrders_13 (d : Nat) (O : Mem_) (x5 : Int32) : ex (d + 1) 66 13 [some (vr 5 0 0), none, none, none, none, some (vi x5)] [] O =
some (nI 0, (cpy (up O 5 0 0 3 x5) 5 0 5 5 0 3 0 0 4)) := (ex_un d 66 300 13 [some (vr 5 0 0), none, none, none, none, some (vi x5)] [] O).trans rfl
set_option maxRecDepth 100000 in
theorem sX5_tryOrders_37 (d : Nat) (O : Mem_) (n1 : Nat) (x2 : Int32) (x3 : Int32) (x4 : Int32) (x5 : Int32) (x6 : Int32) : ex (d + 1) 66 37 [some (vr 5 0 0), some (vr 4 n1 0), some (vi x2), some (vi x3), some (vi x4), some (vi x5), some (vi x6)] [] O =
if x6 < (O 4 n1 0 2) then
((ex d 109 0 [some (vi x6), some (vi x4)] [] O).bind fun r0 =>
if r0.1 = nI 0 then
(if ib x3 5 then
((ex d 60 0 [some (vr 5 0 0), some (vr 4 n1 0), some (vr 0 (8 + (Int32.toNatClampNeg x3)) 0), some (vi x2), some (vi x6), some (vi (nI 3))] [] r0.2).bind fun r1 =>
if r1.1 = nI 0 then
(ex (d + 1) 66 37 [some (vr 5 0 0), some (vr 4 n1 0), some (vi x2), some (vi x3), some (vi x4), some (vi x5), some (vi (x6 + (nI 1)))] [] r1.2)
else
(if (x5 + (r1.2 5 0 0 1)) < (r1.2 5 0 0 3) then
(if ib (x3 + (nI 1)) 5 then
(if ib (r1.2 5 0 0 1) 6 then
((ex d 1 0 [some (vr 0 (8 + (Int32.toNatClampNeg (x3 + (nI 1)))) 0), some (vr 0 (2 + (Int32.toNatClampNeg (r1.2 5 0 0 1))) 0)] [] r1.2).bind fun r2 =>
if ib x3 4 then
((ex d 66 0 [some (vr 5 0 0), some (vr 4 n1 0), some (vi x2), some (vi (x3 + (nI 1))), some (vi (x4 ||| ((nI 1) <<< (x6 &&& (31:Int32))))), some (vi (x5 + (r1.2 5 0 0 1)))] [] (up r2.2 5 0 5 (Int32.toNatClampNeg x3) x6)).bind fun r3 =>
ex (d + 1) 66 37 [some (vr 5 0 0), some (vr 4 n1 0), some (vi x2), some (vi x3), some (vi x4), some (vi x5), some (vi (x6 + (nI 1)))] [] r3.2)
else none)
else none)
else none)
else
(ex (d + 1) 66 37 [some (vr 5 0 0), some (vr 4 n1 0), some (vi x2), some (vi x3), some (vi x4), some (vi x5), some (vi (x6 + (nI 1)))] [] r1.2)))
else none)
else
(ex (d + 1) 66 37 [some (vr 5 0 0), some (vr 4 n1 0), some (vi x2), some (vi x3), some (vi x4), some (vi x5), some (vi (x6 + (nI 1)))] [] r0.2))
else
(some (nI 0, O)) := (ex_un d 66 300 37 [some (vr 5 0 0), some (vr 4 n1 0), some (vi x2), some (vi x3), some (vi x4), some (vi x5), some (vi x6)] [] O).trans rfl
set_option maxRecDepth 100000 in
theorem sJ6_bitCount_0f7a4_0 (d : Nat) (O : Mem_) (x0 : Int32) : ex (d + 1) 217 0 [some (vi x0)] [] O =
some (((((((((x0 - (((Int32.toUInt32 x0 >>> (Int32.toUInt32 (nI 1) &&& Int32.toUInt32 31)).toInt32) &&& (nI 1431655765))) &&& (nI 858993459)) + (((Int32.toUInt32 (x0 - (((Int32.toUInt32 x0 >>> (Int32.toUInt32 (nI 1) &&& Int32.toUInt32 31)).toInt32) &&& (nI 1431655765))) >>> (Int32.toUInt32 (nI 2) &&& Int32.toUInt32 31)).toInt32) &&& (nI 858993459))) + ((Int32.toUInt32 (((x0 - (((Int32.toUInt32 x0 >>> (Int32.toUInt32 (nI 1) &&& Int32.toUInt32 31)).toInt32) &&& (nI 1431655765))) &&& (nI 858993459)) + (((Int32.toUInt32 (x0 - (((Int32.toUInt32 x0 >>> (Int32.toUInt32 (nI 1) &&& Int32.toUInt32 31)).toInt32) &&& (nI 1431655765))) >>> (Int32.toUInt32 (nI 2) &&& Int32.toUInt32 31)).toInt32) &&& (nI 858993459))) >>> (Int32.toUInt32 (nI 4) &&& Int32.toUInt32 31)).toInt32)) &&& (nI 252645135)) + ((Int32.toUInt32 (((((x0 - (((Int32.toUInt32 x0 >>> (Int32.toUInt32 (nI 1) &&& Int32.toUInt32 31)).toInt32) &&& (nI 1431655765))) &&& (nI 858993459)) + (((Int32.toUInt32 (x0 - (((Int32.toUInt32 x0 >>> (Int32.toUInt32 (nI 1) &&& Int32.toUInt32 31)).toInt32) &&& (nI 1431655765))) >>> (Int32.toUInt32 (nI 2) &&& Int32.toUInt32 31)).toInt32) &&& (nI 858993459))) + ((Int32.toUInt32 (((x0 - (((Int32.toUInt32 x0 >>> (Int32.toUInt32 (nI 1) &&& Int32.toUInt32 31)).toInt32) &&& (nI 1431655765))) &&& (nI 858993459)) + (((Int32.toUInt32 (x0 - (((Int32.toUInt32 x0 >>> (Int32.toUInt32 (nI 1) &&& Int32.toUInt32 31)).toInt32) &&& (nI 1431655765))) >>> (Int32.toUInt32 (nI 2) &&& Int32.toUInt32 31)).toInt32) &&& (nI 858993459))) >>> (Int32.toUInt32 (nI 4) &&& Int32.toUInt32 31)).toInt32)) &&& (nI 252645135)) >>> (Int32.toUInt32 (nI 8) &&& Int32.toUInt32 31)).toInt32)) + ((Int32.toUInt32 ((((((x0 - (((Int32.toUInt32 x0 >>> (Int32.toUInt32 (nI 1) &&& Int32.toUInt32 31)).toInt32) &&& (nI 1431655765))) &&& (nI 858993459)) + (((Int32.toUInt32 (x0 - (((Int32.toUInt32 x0 >>> (Int32.toUInt32 (nI 1) &&& Int32.toUInt32 31)).toInt32) &&& (nI 1431655765))) >>> (Int32.toUInt32 (nI 2) &&& Int32.toUInt32 31)).toInt32) &&& (nI 858993459))) + ((Int32.toUInt32 (((x0 - (((Int32.toUInt32 x0 >>> (Int32.toUInt32 (nI 1) &&& Int32.toUInt32 31)).toInt32) &&& (nI 1431655765))) &&& (nI 858993459)) + (((Int32.toUInt32 (x0 - (((Int32.toUInt32 x0 >>> (Int32.toUInt32 (nI 1) &&& Int32.toUInt32 31)).toInt32) &&& (nI 1431655765))) >>> (Int32.toUInt32 (nI 2) &&& Int32.toUInt32 31)).toInt32) &&& (nI 858993459))) >>> (Int32.toUInt32 (nI 4) &&& Int32.toUInt32 31)).toInt32)) &&& (nI 252645135)) + ((Int32.toUInt32 (((((x0 - (((Int32.toUInt32 x0 >>> (Int32.toUInt32 (nI 1) &&& Int32.toUInt32 31)).toInt32) &&& (nI 1431655765))) &&& (nI 858993459)) + (((Int32.toUInt32 (x0 - (((Int32.toUInt32 x0 >>> (Int32.toUInt32 (nI 1) &&& Int32.toUInt32 31)).toInt32) &&& (nI 1431655765))) >>> (Int32.toUInt32 (nI 2) &&& Int32.toUInt32 31)).toInt32) &&& (nI 858993459))) + ((Int32.toUInt32 (((x0 - (((Int32.toUInt32 x0 >>> (Int32.toUInt32 (nI 1) &&& Int32.toUInt32 31)).toInt32) &&& (nI 1431655765))) &&& (nI 858993459)) + (((Int32.toUInt32 (x0 - (((Int32.toUInt32 x0 >>> (Int32.toUInt32 (nI 1) &&& Int32.toUInt32 31)).toInt32) &&& (nI 1431655765))) >>> (Int32.toUInt32 (nI 2) &&& Int32.toUInt32 31)).toInt32) &&& (nI 858993459))) >>> (Int32.toUInt32 (nI 4) &&& Int32.toUInt32 31)).toInt32)) &&& (nI 252645135)) >>> (Int32.toUInt32 (nI 8) &&& Int32.toUInt32 31)).toInt32)) >>> (Int32.toUInt32 (nI 16) &&& Int32.toUInt32 31)).toInt32)) &&& (nI 63)), O) := (ex_un d 217 300 0 [some (vi x0)] [] O).trans rfl
end
section
set_option maxRecDepth 100000 in
theorem sX6_feed_0 (d : Nat) (O : Mem_) (x1 : Int64) : ex (d + 1) 67 0 [some (vr 6 0 0), some (vl x1), none] [] O =
if (nI 392) < (O 3 0 0 1) then
(some ((-3), O))
else
(ex (d + 1) 67 19 [some (vr 6 0 0), some (vl x1), none, some (vi (nI 7))] [] O) := (ex_un d 67 300 0 [some (vr 6 0 0), some (vl x1), none] [] O).trans rfl
set_option maxRecDepth 100000 in
theorem sX6_feed_19 (d : Nat) (O : Mem_) (x1 : Int64) (x3 : Int32) : ex (d + 1) 67 19 [some (vr 6 0 0), some (vl x1), none, some (vi x3)] [] O =
if x3 < nI 0 then
(some ((O 3 0 0 1), O))
else
((ex d 20 0 [some (vr 3 0 0), some (vi ((Int64.toInt32 (((Int64.toUInt64 x1) >>> ((Int32.toInt64 ((nI 8) * x3)).toUInt64 &&& Int64.toUInt64 63)).toInt64)) &&& (nI 255)))] [] O).bind fun r0 =>
ex (d + 1) 67 19 [some (vr 6 0 0), some (vl x1), none, some (vi (x3 + (-1)))] [] r0.2) := (ex_un d 67 300 19 [some (vr 6 0 0), some (vl x1), none, some (vi x3)] [] O).trans rfl
set_option maxRecDepth 100000 in
theorem sX6_end_0 (d : Nat) (O : Mem_) (x1 : Int32) : ex (d + 1) 68 0 [some (vr 6 0 0), some (vi x1)] [] O =
if x1 < nI 0 then
(some ((-1), O))
else
(if (O 3 0 0 1) < x1 then
(some ((-1), O))
else
(some ((O 3 0 0 1), (up O 3 0 0 1 x1)))) := (ex_un d 68 300 0 [some (vr 6 0 0), some (vi x1)] [] O).trans rfl
set_option maxRecDepth 100000 in
theorem sX6_text_0 (d : Nat) (O : Mem_)  : ex (d + 1) 69 0 [some (vr 6 0 0)] [] O =
(ex d 21 0 [some (vr 3 0 0), some (vr 4 (sel (O 6 0 0 2)) 0)] [] O).bind fun r0 =>
if r0.1 = nI 0 then
(some (((-10) - ((up r0.2 3 0 0 1 (nI 0)) 3 0 0 3)), (up r0.2 3 0 0 1 (nI 0))))
else
(ex (d + 1) 69 55 [some (vr 6 0 0), none, none, some (vi (nI 0))] [] (up (up (up r0.2 3 0 0 1 (nI 0)) 6 0 0 1 (nI (sel ((up r0.2 3 0 0 1 (nI 0)) 6 0 0 2)))) 6 0 0 2 (nI (sel ((up r0.2 3 0 0 1 (nI 0)) 6 0 0 1))))) := (ex_un d 69 300 0 [some (vr 6 0 0)] [] O).trans rfl
set_option maxRecDepth 100000 in
theorem sX6_text_55 (d : Nat) (O : Mem_) (x3 : Int32) : ex (d + 1) 69 55 [some (vr 6 0 0), none, none, some (vi x3)] [] O =
if x3 < (nI 2) then
(if ib x3 2 then
(ex (d + 1) 69 55 [some (vr 6 0 0), none, none, some (vi (x3 + (nI 1)))] [] (up O 1 (1 + (Int32.toNatClampNeg x3)) 0 8 (nI 0)))
else none)
else
((ex d 13 0 [some (vr 1 0 0), some (vr 4 (sel (O 6 0 0 1)) 0)] [] O).bind fun r0 =>
(ex d 0 0 [some (vr 0 0 0), some (vr 4 (sel (r0.2 6 0 0 1)) 0)] [] r0.2).bind fun r1 =>
some ((r1.2 3 0 0 4), r1.2)) := (ex_un d 69 300 55 [some (vr 6 0 0), none, none, some (vi x3)] [] O).trans rfl
set_option maxRecDepth 100000 in
theorem sX6_fault_0 (d : Nat) (O : Mem_)  : ex (d + 1) 70 0 [some (vr 6 0 0)] [] O =
some ((O 3 0 0 2), O) := (ex_un d 70 300 0 [some (vr 6 0 0)] [] O).trans rfl
set_option maxRecDepth 100000 in
theorem sX6_thing_0 (d : Nat) (O : Mem_) (x1 : Int32) : ex (d + 1) 71 0 [some (vr 6 0 0), some (vi x1)] [] O =
(ex d 43 0 [some (vr 4 (sel (O 6 0 0 1)) 0), some (vi x1)] [] O).bind fun r0 =>
if r0.1 = nI 0 then
(some ((-1), r0.2))
else
(if ib x1 8 then
(some ((r0.2 4 (sel (r0.2 6 0 0 1)) 5 (Int32.toNatClampNeg x1)), r0.2))
else none) := (ex_un d 71 300 0 [some (vr 6 0 0), some (vi x1)] [] O).trans rfl
set_option maxRecDepth 100000 in
theorem sX6_meaning_0 (d : Nat) (O : Mem_) (x1 : Int32) (x2 : Int32) : ex (d + 1) 72 0 [some (vr 6 0 0), some (vi x1), some (vi x2)] [] O =
(ex d 44 0 [some (vr 4 (sel (O 6 0 0 1)) 0), some (vi x1)] [] O).bind fun r0 =>
if r0.1 = nI 0 then
(some ((-1), r0.2))
else
(if x2 = (nI 0) then
(if ib x1 12 then
(some ((r0.2 4 (sel (r0.2 6 0 0 1)) 7 (Int32.toNatClampNeg x1)), r0.2))
else none)
else if x2 = (nI 1) then
(if ib x1 12 then
(some ((r0.2 4 (sel (r0.2 6 0 0 1)) 8 (Int32.toNatClampNeg x1)), r0.2))
else none)
else if x2 = (nI 2) then
(if ib x1 12 then
(some ((r0.2 4 (sel (r0.2 6 0 0 1)) 9 (Int32.toNatClampNeg x1)), r0.2))
else none)
else if x2 = (nI 3) then
(if ib x1 12 then
(some ((r0.2 4 (sel (r0.2 6 0 0 1)) 10 (Int32.toNatClampNeg x1)), r0.2))
else none)
else if x2 = (nI 4) then
((ex d 56 0 [some (vr 4 (sel (r0.2 6 0 0 1)) 0), some (vi x1)] [] r0.2).bind fun r1 =>
some (r1.1, r1.2))
else 
(some ((-1), r0.2))) := (ex_un d 72 300 0 [some (vr 6 0 0), some (vi x1), some (vi x2)] [] O).trans rfl
set_option maxRecDepth 100000 in
theorem sX6_word_0 (d : Nat) (O : Mem_) (x1 : Int32) : ex (d + 1) 73 0 [some (vr 6 0 0), some (vi x1)] [] O =
(ex d 45 0 [some (vr 4 (sel (O 6 0 0 1)) 0), some (vi x1)] [] O).bind fun r0 =>
if r0.1 = nI 0 then
(some ((-1), r0.2))
else
(if ib x1 4 then
(some ((r0.2 4 (sel (r0.2 6 0 0 1)) 13 (Int32.toNatClampNeg x1)), r0.2))
else none) := (ex_un d 73 300 0 [some (vr 6 0 0), some (vi x1)] [] O).trans rfl
set_option maxRecDepth 100000 in
theorem sX6_kind_0 (d : Nat) (O : Mem_) (x1 : Int32) (x2 : Int32) : ex (d + 1) 74 0 [some (vr 6 0 0), some (vi x1), some (vi x2)] [] O =
(ex d 46 0 [some (vr 4 (sel (O 6 0 0 1)) 0), some (vi x1)] [] O).bind fun r0 =>
if r0.1 = nI 0 then
(some ((-1), r0.2))
else
(if x2 = (nI 0) then
(if ib x1 6 then
(some ((r0.2 4 (sel (r0.2 6 0 0 1)) 14 (Int32.toNatClampNeg x1)), r0.2))
else none)
else if x2 = (nI 1) then
(if ib x1 6 then
(some ((r0.2 4 (sel (r0.2 6 0 0 1)) 15 (Int32.toNatClampNeg x1)), r0.2))
else none)
else if x2 = (nI 2) then
(if ib x1 6 then
(some ((r0.2 4 (sel (r0.2 6 0 0 1)) 16 (Int32.toNatClampNeg x1)), r0.2))
else none)
else if x2 = (nI 3) then
(if ib x1 6 then
(if (r0.2 4 (sel (r0.2 6 0 0 1)) 17 (Int32.toNatClampNeg x1)) = nI 0 then
(some ((nI 0), r0.2))
else
(some ((nI 1), r0.2)))
else none)
else if x2 = (nI 4) then
(if ib x1 6 then
(some ((r0.2 4 (sel (r0.2 6 0 0 1)) 18 (Int32.toNatClampNeg x1)), r0.2))
else none)
else if x2 = (nI 5) then
(if ib x1 6 then
(some ((r0.2 4 (sel (r0.2 6 0 0 1)) 19 (Int32.toNatClampNeg x1)), r0.2))
else none)
else 
(some ((-1), r0.2))) := (ex_un d 74 300 0 [some (vr 6 0 0), some (vi x1), some (vi x2)] [] O).trans rfl
set_option maxRecDepth 100000 in
theorem sX6_show_0 (d : Nat) (O : Mem_) (x1 : Int32) (x2 : Int32) (x3 : Int32) : ex (d + 1) 75 0 [some (vr 6 0 0), some (vi x1), some (vi x2), some (vi x3)] [] O =
(ex d 45 0 [some (vr 4 (sel (O 6 0 0 1)) 0), some (vi x1)] [] O).bind fun r0 =>
if r0.1 = nI 0 then
(some ((-1), r0.2))
else
((ex d 43 0 [some (vr 4 (sel (r0.2 6 0 0 1)) 0), some (vi x2)] [] r0.2).bind fun r1 =>
if r1.1 = nI 0 then
(some ((-1), r1.2))
else
(if (r1.2 1 0 0 0) < (nI 24) then
((ex d 111 0 [some (vr 6 0 0), some (vi x1), some (vi x2), some (vi x3)] [] r1.2).bind fun r2 =>
some ((r2.2 1 0 0 0), r2.2))
else
(some ((-3), r1.2)))) := (ex_un d 75 300 0 [some (vr 6 0 0), some (vi x1), some (vi x2), some (vi x3)] [] O).trans rfl
set_option maxRecDepth 100000 in
theorem sX6_teach_0 (d : Nat) (O : Mem_) (x1 : Int32) (x2 : Int32) : ex (d + 1) 76 0 [some (vr 6 0 0), some (vi x1), some (vi x2)] [] O =
(ex d 55 0 [some (vr 4 (sel (O 6 0 0 1)) 0), some (vi x1), some (vi x2)] [] O).bind fun r0 =>
(ex d 75 0 [some (vr 6 0 0), some (vi x1), some (vi x2), some (vi r0.1)] [] r0.2).bind fun r1 =>
some (r1.1, r1.2) := (ex_un d 76 300 0 [some (vr 6 0 0), some (vi x1), some (vi x2)] [] O).trans rfl
set_option maxRecDepth 100000 in
theorem sX6_undo_0 (d : Nat) (O : Mem_)  : ex (d + 1) 77 0 [some (vr 6 0 0)] [] O =
if nI 0 < (O 1 0 0 0) then
((ex d 112 0 [some (vr 6 0 0)] [] (up O 1 0 0 0 ((O 1 0 0 0) - (nI 1)))).bind fun r0 =>
some ((r0.2 1 0 0 0), r0.2))
else
(some ((oI none), O)) := (ex_un d 77 300 0 [some (vr 6 0 0)] [] O).trans rfl
set_option maxRecDepth 100000 in
theorem sX6_clear_0 (d : Nat) (O : Mem_)  : ex (d + 1) 78 0 [some (vr 6 0 0)] [] O =
(ex d 50 0 [some (vr 4 (sel ((up O 1 0 0 0 (nI 0)) 6 0 0 1)) 0)] [] (up O 1 0 0 0 (nI 0))).bind fun r0 =>
(ex d 112 0 [some (vr 6 0 0)] [] (up r0.2 1 0 0 4 r0.1)).bind fun r1 =>
some ((O 1 0 0 0), r1.2) := (ex_un d 78 300 0 [some (vr 6 0 0)] [] O).trans rfl
set_option maxRecDepth 100000 in
theorem sX6_shown_0 (d : Nat) (O : Mem_) (x1 : Int32) (x2 : Int32) : ex (d + 1) 79 0 [some (vr 6 0 0), some (vi x1), some (vi x2)] [] O =
if x1 < nI 0 then
(some ((-1), O))
else
(if x1 < (O 1 0 0 0) then
(if x1 < (nI 24) then
(if x2 = (nI 0) then
(if ib x1 24 then
(some ((O 1 0 2 (Int32.toNatClampNeg x1)), O))
else none)
else if x2 = (nI 1) then
(if ib x1 24 then
(some ((O 1 0 3 (Int32.toNatClampNeg x1)), O))
else none)
else if x2 = (nI 2) then
(if ib x1 24 then
(if (O 1 0 4 (Int32.toNatClampNeg x1)) = nI 0 then
(some ((nI 0), O))
else
(some ((nI 1), O)))
else none)
else 
(some ((-1), O)))
else
(some ((-1), O)))
else
(some ((-1), O))) := (ex_un d 79 300 0 [some (vr 6 0 0), some (vi x1), some (vi x2)] [] O).trans rfl
set_option maxRecDepth 100000 in
theorem sX6_thinks_0 (d : Nat) (O : Mem_) (x1 : Int32) (x2 : Int32) : ex (d + 1) 80 0 [some (vr 6 0 0), some (vi x1), some (vi x2)] [] O =
(ex d 46 0 [some (vr 4 (sel (O 6 0 0 1)) 0), some (vi x1)] [] O).bind fun r0 =>
if r0.1 = nI 0 then
(some ((-1), r0.2))
else
((ex d 45 0 [some (vr 4 (sel (r0.2 6 0 0 1)) 0), some (vi x2)] [] r0.2).bind fun r1 =>
if r1.1 = nI 0 then
(some ((-1), r1.2))
else
((ex d 7 0 [some (vr 0 0 0), some (vi x1), some (vi x2)] [] r1.2).bind fun r2 =>
some (r2.1, r2.2))) := (ex_un d 80 300 0 [some (vr 6 0 0), some (vi x1), some (vi x2)] [] O).trans rfl
set_option maxRecDepth 100000 in
theorem sX6_fits_0 (d : Nat) (O : Mem_) (x1 : Int32) (x2 : Int32) : ex (d + 1) 81 0 [some (vr 6 0 0), some (vi x1), some (vi x2)] [] O =
(ex d 46 0 [some (vr 4 (sel (O 6 0 0 1)) 0), some (vi x1)] [] O).bind fun r0 =>
if r0.1 = nI 0 then
(some ((-1), r0.2))
else
((ex d 45 0 [some (vr 4 (sel (r0.2 6 0 0 1)) 0), some (vi x2)] [] r0.2).bind fun r1 =>
if r1.1 = nI 0 then
(some ((-1), r1.2))
else
(if ib x2 4 then
(if ib x1 6 then
(some (((r1.2 0 0 6 (Int32.toNatClampNeg x2)) &&& (r1.2 4 (sel (r1.2 6 0 0 1)) 19 (Int32.toNatClampNeg x1))), r1.2))
else none)
else none)) := (ex_un d 81 300 0 [some (vr 6 0 0), some (vi x1), some (vi x2)] [] O).trans rfl
set_option maxRecDepth 100000 in
theorem sX6_same_0 (d : Nat) (O : Mem_) (x1 : Int32) (x2 : Int32) : ex (d + 1) 82 0 [some (vr 6 0 0), some (vi x1), some (vi x2)] [] O =
(ex d 46 0 [some (vr 4 (sel (O 6 0 0 1)) 0), some (vi x1)] [] O).bind fun r0 =>
if r0.1 = nI 0 then
(some ((-1), r0.2))
else
((ex d 45 0 [some (vr 4 (sel (r0.2 6 0 0 1)) 0), some (vi x2)] [] r0.2).bind fun r1 =>
if r1.1 = nI 0 then
(some ((-1), r1.2))
else
((ex d 8 0 [some (vr 0 0 0), some (vr 4 (sel (r1.2 6 0 0 1)) 0), some (vi x1), some (vi x2)] [] r1.2).bind fun r2 =>
if r2.1 = nI 0 then
(some ((nI 0), r2.2))
else
(some ((nI 1), r2.2)))) := (ex_un d 82 300 0 [some (vr 6 0 0), some (vi x1), some (vi x2)] [] O).trans rfl
set_option maxRecDepth 100000 in
theorem sX6_fled_0 (d : Nat) (O : Mem_) (x1 : Int32) : ex (d + 1) 83 0 [some (vr 6 0 0), some (vi x1)] [] O =
(ex d 46 0 [some (vr 4 (sel (O 6 0 0 1)) 0), some (vi x1)] [] O).bind fun r0 =>
if r0.1 = nI 0 then
(some ((-1), r0.2))
else
(if ib x1 6 then
(some ((r0.2 0 0 5 (Int32.toNatClampNeg x1)), r0.2))
else none) := (ex_un d 83 300 0 [some (vr 6 0 0), some (vi x1)] [] O).trans rfl
set_option maxRecDepth 100000 in
theorem sX6_against_0 (d : Nat) (O : Mem_) (x1 : Int32) (x2 : Int32) : ex (d + 1) 84 0 [some (vr 6 0 0), some (vi x1), some (vi x2)] [] O =
(ex d 46 0 [some (vr 4 (sel (O 6 0 0 1)) 0), some (vi x1)] [] O).bind fun r0 =>
if r0.1 = nI 0 then
(some ((-1), r0.2))
else
((ex d 45 0 [some (vr 4 (sel (r0.2 6 0 0 1)) 0), some (vi x2)] [] r0.2).bind fun r1 =>
if r1.1 = nI 0 then
(some ((-1), r1.2))
else
(if ib ((x1 * (nI 4)) + x2) 24 then
(some ((r1.2 0 0 3 (Int32.toNatClampNeg ((x1 * (nI 4)) + x2))), r1.2))
else none)) := (ex_un d 84 300 0 [some (vr 6 0 0), some (vi x1), some (vi x2)] [] O).trans rfl
set_option maxRecDepth 100000 in
theorem sX6_common_0 (d : Nat) (O : Mem_) (x1 : Int32) : ex (d + 1) 85 0 [some (vr 6 0 0), some (vi x1)] [] O =
(ex d 47 0 [some (vr 4 (sel (O 6 0 0 1)) 0), some (vi x1)] [] O).bind fun r0 =>
if r0.1 = nI 0 then
(some ((-1), r0.2))
else
(ex (d + 1) 85 17 [some (vr 6 0 0), some (vi x1), some (vi (nI 0)), some (vi (nI 0))] [] r0.2) := (ex_un d 85 300 0 [some (vr 6 0 0), some (vi x1)] [] O).trans rfl
set_option maxRecDepth 100000 in
theorem sX6_common_17 (d : Nat) (O : Mem_) (x1 : Int32) (x2 : Int32) (x3 : Int32) : ex (d + 1) 85 17 [some (vr 6 0 0), some (vi x1), some (vi x2), some (vi x3)] [] O =
if x3 < (O 4 (sel (O 6 0 0 1)) 0 2) then
((ex d 9 0 [some (vr 0 0 0), some (vr 4 (sel (O 6 0 0 1)) 0), some (vi x1), some (vi x3)] [] O).bind fun r0 =>
if r0.1 = nI 0 then
(ex (d + 1) 85 17 [some (vr 6 0 0), some (vi x1), some (vi x2), some (vi (x3 + (nI 1)))] [] r0.2)
else
(ex (d + 1) 85 17 [some (vr 6 0 0), some (vi x1), some (vi (x2 ||| ((nI 1) <<< (x3 &&& (31:Int32))))), some (vi (x3 + (nI 1)))] [] r0.2))
else
(some (x2, O)) := (ex_un d 85 300 17 [some (vr 6 0 0), some (vi x1), some (vi x2), some (vi x3)] [] O).trans rfl
set_option maxRecDepth 100000 in
theorem sX6_teaching_0 (d : Nat) (O : Mem_) (x1 : Int32) (x2 : Int32) (x3 : Int32) : ex (d + 1) 86 0 [some (vr 6 0 0), some (vi x1), some (vi x2), some (vi x3)] [] O =
(ex d 47 0 [some (vr 4 (sel (O 6 0 0 1)) 0), some (vi x1)] [] O).bind fun r0 =>
if r0.1 = nI 0 then
(some ((-1), r0.2))
else
((ex d 45 0 [some (vr 4 (sel (r0.2 6 0 0 1)) 0), some (vi x2)] [] r0.2).bind fun r1 =>
if r1.1 = nI 0 then
(some ((-1), r1.2))
else
(if x3 = nI 0 then
(ex (d + 1) 86 48 [some (vr 6 0 0), some (vi x1), some (vi x2), some (vi x3), some (vi (x3 - (nI 10)))] [] r1.2)
else
(if x3 < (nI 10) then
(some ((-1), r1.2))
else
(if (x3 - (nI 10)) < (nI 5) then
(ex (d + 1) 86 48 [some (vr 6 0 0), some (vi x1), some (vi x2), some (vi x3), some (vi (x3 - (nI 10)))] [] r1.2)
else
(some ((-1), r1.2)))))) := (ex_un d 86 300 0 [some (vr 6 0 0), some (vi x1), some (vi x2), some (vi x3)] [] O).trans rfl
set_option maxRecDepth 100000 in
theorem sX6_teaching_48 (d : Nat) (O : Mem_) (x1 : Int32) (x2 : Int32) (x3 : Int32) (x4 : Int32) : ex (d + 1) 86 48 [some (vr 6 0 0), some (vi x1), some (vi x2), some (vi x3), some (vi x4)] [] O =
(ex d 60 0 [some (vr 5 0 0), some (vr 4 (sel (O 6 0 0 1)) 0), some (vr 0 0 0), some (vi x1), some (vi x2), some (vi (nI 5))] [] O).bind fun r0 =>
if x3 = nI 0 then
(if r0.1 = nI 0 then
(some ((oI none), r0.2))
else
(some ((r0.2 5 0 0 1), r0.2)))
else
(if r0.1 = nI 0 then
(some ((-1), r0.2))
else
(if x4 < (r0.2 5 0 0 1) then
(if ib x4 5 then
(some ((r0.2 5 0 1 (Int32.toNatClampNeg x4)), r0.2))
else none)
else
(some ((-1), r0.2)))) := (ex_un d 86 300 48 [some (vr 6 0 0), some (vi x1), some (vi x2), some (vi x3), some (vi x4)] [] O).trans rfl
set_option maxRecDepth 100000 in
theorem sX6_never_0 (d : Nat) (O : Mem_) (x1 : Int32) (x2 : Int32) : ex (d + 1) 87 0 [some (vr 6 0 0), some (vi x1), some (vi x2)] [] O =
(ex d 46 0 [some (vr 4 (sel (O 6 0 0 1)) 0), some (vi x1)] [] O).bind fun r0 =>
if r0.1 = nI 0 then
(some ((-1), r0.2))
else
((ex d 45 0 [some (vr 4 (sel (r0.2 6 0 0 1)) 0), some (vi x2)] [] r0.2).bind fun r1 =>
if r1.1 = nI 0 then
(some ((-1), r1.2))
else
(if ib x1 6 then
((ex d 54 0 [some (vr 4 (sel (r1.2 6 0 0 1)) 0), some (vi x2)] [] r1.2).bind fun r2 =>
if ((r1.2 4 (sel (r1.2 6 0 0 1)) 19 (Int32.toNatClampNeg x1)) &&& r2.1) = nI 0 then
(some ((nI 1), r2.2))
else
(some ((nI 0), r2.2)))
else none)) := (ex_un d 87 300 0 [some (vr 6 0 0), some (vi x1), some (vi x2)] [] O).trans rfl
set_option maxRecDepth 100000 in
theorem sX6_order_0 (d : Nat) (O : Mem_) (x1 : Int32) (x2 : Int32) : ex (d + 1) 88 0 [some (vr 6 0 0), some (vi x1), some (vi x2)] [] O =
(ex d 47 0 [some (vr 4 (sel (O 6 0 0 1)) 0), some (vi x1)] [] O).bind fun r0 =>
if r0.1 = nI 0 then
(some ((-1), r0.2))
else
(if x2 = nI 0 then
(ex (d + 1) 88 41 [some (vr 6 0 0), some (vi x1), some (vi x2), some (vi (x2 - (nI 10)))] [] r0.2)
else
(if x2 < (nI 10) then
(some ((-1), r0.2))
else
(if (x2 - (nI 10)) < (r0.2 4 (sel (r0.2 6 0 0 1)) 0 2) then
(ex (d + 1) 88 41 [some (vr 6 0 0), some (vi x1), some (vi x2), some (vi (x2 - (nI 10)))] [] r0.2)
else
(some ((-1), r0.2))))) := (ex_un d 88 300 0 [some (vr 6 0 0), some (vi x1), some (vi x2)] [] O).trans rfl
set_option maxRecDepth 100000 in
theorem sX6_order_41 (d : Nat) (O : Mem_) (x1 : Int32) (x2 : Int32) (x3 : Int32) : ex (d + 1) 88 41 [some (vr 6 0 0), some (vi x1), some (vi x2), some (vi x3)] [] O =
(ex d 64 0 [some (vr 5 0 0), some (vr 4 (sel (O 6 0 0 1)) 0)] [] O).bind fun r0 =>
(ex d 66 0 [some (vr 5 0 0), some (vr 4 (sel (r0.2 6 0 0 1)) 0), some (vi x1), some (vi (nI 0)), some (vi (nI 0)), some (vi (nI 0))] [] r0.2).bind fun r1 =>
(ex d 65 0 [some (vr 5 0 0)] [] r1.2).bind fun r2 =>
if r2.1 = nI 0 then
(some ((oI none), r2.2))
else
(if x2 = nI 0 then
(some ((r2.2 5 0 0 3), r2.2))
else
(if ib x3 4 then
(some ((r2.2 5 0 3 (Int32.toNatClampNeg x3)), r2.2))
else none)) := (ex_un d 88 300 41 [some (vr 6 0 0), some (vi x1), some (vi x2), some (vi x3)] [] O).trans rfl
set_option maxRecDepth 100000 in
theorem sX6_first_0 (d : Nat) (O : Mem_) (x1 : Int32) (x2 : Int32) : ex (d + 1) 89 0 [some (vr 6 0 0), some (vi x1), some (vi x2)] [] O =
(ex d 45 0 [some (vr 4 (sel (O 6 0 0 1)) 0), some (vi x1)] [] O).bind fun r0 =>
if r0.1 = nI 0 then
(some ((-1), r0.2))
else
(if x2 < nI 0 then
(some ((-1), r0.2))
else
(if (nI 2) < x2 then
(some ((-1), r0.2))
else
((ex d 57 0 [some (vr 4 (sel (r0.2 6 0 0 1)) 0)] [] r0.2).bind fun r1 =>
(ex d 59 0 [some (vr 4 (sel (r0.2 6 0 0 1)) 0), some (vi r1.1)] [] r1.2).bind fun r2 =>
ex (d + 1) 89 47 [some (vr 6 0 0), some (vi x1), some (vi x2), some (vi r2.1), some (vi (oI none)), some (vi (-1)), some (vi (nI 0))] [] r2.2))) := (ex_un d 89 300 0 [some (vr 6 0 0), some (vi x1), some (vi x2)] [] O).trans rfl
set_option maxRecDepth 100000 in
theorem sX6_first_47 (d : Nat) (O : Mem_) (x1 : Int32) (x2 : Int32) (x3 : Int32) (x4 : Int32) (x5 : Int32) (x6 : Int32) : ex (d + 1) 89 47 [some (vr 6 0 0), some (vi x1), some (vi x2), some (vi x3), some (vi x4), some (vi x5), some (vi x6)] [] O =
if x6 < (O 4 (sel (O 6 0 0 1)) 0 0) then
((ex d 109 0 [some (vi x6), some (vi x3)] [] O).bind fun r0 =>
if r0.1 = nI 0 then
((ex d 113 0 [some (vr 6 0 0), some (vi x1), some (vi x6)] [] r0.2).bind fun r1 =>
if x5 < r1.1 then
(ex (d + 1) 89 47 [some (vr 6 0 0), some (vi x1), some (vi x2), some (vi x3), some (vi x6), some (vi r1.1), some (vi (x6 + (nI 1)))] [] r1.2)
else
(ex (d + 1) 89 47 [some (vr 6 0 0), some (vi x1), some (vi x2), some (vi x3), some (vi x4), some (vi x5), some (vi (x6 + (nI 1)))] [] r1.2))
else
(ex (d + 1) 89 47 [some (vr 6 0 0), some (vi x1), some (vi x2), some (vi x3), some (vi x4), some (vi x5), some (vi (x6 + (nI 1)))] [] r0.2))
else
((ex d 50 0 [some (vr 4 (sel (O 6 0 0 1)) 0)] [] O).bind fun r2 =>
(ex d 58 0 [some (vr 4 (sel (O 6 0 0 1)) 0), some (vi r2.1)] [] r2.2).bind fun r3 =>
if x4 = (oI none) then
(some ((oI none), r3.2))
else
(if r3.1 = nI 0 then
(some ((oI none), r3.2))
else
(if x2 = nI 0 then
(some (x4, r3.2))
else
(if x2 = (nI 2) then
((ex d 110 0 [some (vi x5), some (vi r3.1), some (vi (nI 1))] [] r3.2).bind fun r4 =>
some (r4.1, r4.2))
else
((ex d 110 0 [some (vi x5), some (vi r3.1), some (vi (nI 0))] [] r3.2).bind fun r5 =>
some (r5.1, r5.2)))))) := (ex_un d 89 300 47 [some (vr 6 0 0), some (vi x1), some (vi x2), some (vi x3), some (vi x4), some (vi x5), some (vi x6)] [] O).trans rfl
set_option maxRecDepth 100000 in
theorem sX6_fears_0 (d : Nat) (O : Mem_) (x1 : Int32) : ex (d + 1) 90 0 [some (vr 6 0 0), some (vi x1)] [] O =
if x1 = (nI 0) then
((ex d 57 0 [some (vr 4 (sel (O 6 0 0 1)) 0)] [] O).bind fun r0 =>
(ex d 59 0 [some (vr 4 (sel (O 6 0 0 1)) 0), some (vi r0.1)] [] r0.2).bind fun r1 =>
some (r1.1, r1.2))
else if x1 = (nI 1) then
((ex d 48 0 [some (vr 4 (sel (O 6 0 0 1)) 0)] [] O).bind fun r2 =>
(ex d 50 0 [some (vr 4 (sel (r2.2 6 0 0 1)) 0)] [] r2.2).bind fun r3 =>
(ex d 59 0 [some (vr 4 (sel (r2.2 6 0 0 1)) 0), some (vi r3.1)] [] r3.2).bind fun r4 =>
some ((r2.1 &&& (r4.1 ^^^ (-1))), r4.2))
else 
(some ((-1), O)) := (ex_un d 90 300 0 [some (vr 6 0 0), some (vi x1)] [] O).trans rfl
set_option maxRecDepth 100000 in
theorem sX6_answer_0 (d : Nat) (O : Mem_) (x1 : Int32) (x2 : Int32) (x3 : Int32) : ex (d + 1) 91 0 [some (vr 6 0 0), some (vi x1), some (vi x2), some (vi x3)] [] O =
(ex d 46 0 [some (vr 4 (sel (O 6 0 0 1)) 0), some (vi x1)] [] O).bind fun r0 =>
if r0.1 = nI 0 then
(some ((-1), r0.2))
else
((ex d 45 0 [some (vr 4 (sel (r0.2 6 0 0 1)) 0), some (vi x2)] [] r0.2).bind fun r1 =>
if r1.1 = nI 0 then
(some ((-1), r1.2))
else
((ex d 43 0 [some (vr 4 (sel (r1.2 6 0 0 1)) 0), some (vi x3)] [] r1.2).bind fun r2 =>
if r2.1 = nI 0 then
(some ((-1), r2.2))
else
((ex d 11 0 [some (vr 0 0 0), some (vr 4 (sel (r2.2 6 0 0 1)) 0), some (vi x1), some (vi x2), some (vi x3)] [] r2.2).bind fun r3 =>
some (r3.1, r3.2)))) := (ex_un d 91 300 0 [some (vr 6 0 0), some (vi x1), some (vi x2), some (vi x3)] [] O).trans rfl
set_option maxRecDepth 100000 in
theorem sX6_heard_0 (d : Nat) (O : Mem_) (x1 : Int32) (x2 : Int32) (x3 : Int32) : ex (d + 1) 92 0 [some (vr 6 0 0), some (vi x1), some (vi x2), some (vi x3)] [] O =
(ex d 45 0 [some (vr 4 (sel (O 6 0 0 1)) 0), some (vi x1)] [] O).bind fun r0 =>
if r0.1 = nI 0 then
(some ((-1), r0.2))
else
((ex d 43 0 [some (vr 4 (sel (r0.2 6 0 0 1)) 0), some (vi x2)] [] r0.2).bind fun r1 =>
if r1.1 = nI 0 then
(some ((-1), r1.2))
else
(if x3 = nI 0 then
(ex (d + 1) 92 41 [some (vr 6 0 0), some (vi x1), some (vi x2), some (vi x3)] [] r1.2)
else
(if x3 = (nI 1) then
(ex (d + 1) 92 41 [some (vr 6 0 0), some (vi x1), some (vi x2), some (vi x3)] [] r1.2)
else
(if x3 = (oI none) then
(ex (d + 1) 92 41 [some (vr 6 0 0), some (vi x1), some (vi x2), some (vi x3)] [] r1.2)
else
(some ((-1), r1.2)))))) := (ex_un d 92 300 0 [some (vr 6 0 0), some (vi x1), some (vi x2), some (vi x3)] [] O).trans rfl
set_option maxRecDepth 100000 in
theorem sX6_heard_41 (d : Nat) (O : Mem_) (x1 : Int32) (x2 : Int32) (x3 : Int32) : ex (d + 1) 92 41 [some (vr 6 0 0), some (vi x1), some (vi x2), some (vi x3)] [] O =
(ex d 12 0 [some (vr 0 0 0), some (vr 4 (sel (O 6 0 0 1)) 0), some (vi x1), some (vi x2), some (vi x3)] [] O).bind fun r0 =>
some (((up r0.2 1 0 0 4 ((O 1 0 0 4) &&& r0.1)) 1 0 0 4), (up r0.2 1 0 0 4 ((O 1 0 0 4) &&& r0.1))) := (ex_un d 92 300 41 [some (vr 6 0 0), some (vi x1), some (vi x2), some (vi x3)] [] O).trans rfl
set_option maxRecDepth 100000 in
theorem sX6_left_0 (d : Nat) (O : Mem_) (x1 : Int32) : ex (d + 1) 93 0 [some (vr 6 0 0), some (vi x1)] [] O =
if x1 = (nI 0) then
(some ((O 1 0 0 4), O))
else if x1 = (nI 1) then
((ex d 58 0 [some (vr 4 (sel (O 6 0 0 1)) 0), some (vi (O 1 0 0 4))] [] O).bind fun r0 =>
some (r0.1, r0.2))
else if x1 = (nI 2) then
((ex d 50 0 [some (vr 4 (sel (O 6 0 0 1)) 0)] [] O).bind fun r1 =>
(ex d 58 0 [some (vr 4 (sel (O 6 0 0 1)) 0), some (vi r1.1)] [] r1.2).bind fun r2 =>
some (r2.1, r2.2))
else 
(some ((-1), O)) := (ex_un d 93 300 0 [some (vr 6 0 0), some (vi x1)] [] O).trans rfl
set_option maxRecDepth 100000 in
theorem sX6_ask_0 (d : Nat) (O : Mem_) (x1 : Int32) : ex (d + 1) 94 0 [some (vr 6 0 0), some (vi x1)] [] O =
if x1 < nI 0 then
(some ((-1), O))
else
(if (nI 2) < x1 then
(some ((-1), O))
else
(if (O 1 0 0 4) = nI 0 then
(some ((oI none), O))
else
(ex (d + 1) 94 37 [some (vr 6 0 0), some (vi x1), some (vi (oI none)), some (vi (oI none)), some (vi (oI none)), some (vi (nI 0))] [] O))) := (ex_un d 94 300 0 [some (vr 6 0 0), some (vi x1)] [] O).trans rfl
set_option maxRecDepth 100000 in
theorem sX6_ask_37 (d : Nat) (O : Mem_) (x1 : Int32) (x2 : Int32) (x3 : Int32) (x4 : Int32) (x5 : Int32) : ex (d + 1) 94 37 [some (vr 6 0 0), some (vi x1), some (vi x2), some (vi x3), some (vi x4), some (vi x5)] [] O =
if x5 < (O 4 (sel (O 6 0 0 1)) 0 2) then
(ex (d + 1) 94 52 [some (vr 6 0 0), some (vi x1), some (vi x2), some (vi x3), some (vi x4), some (vi x5), some (vi (nI 0))] [] O)
else
(if x1 = nI 0 then
(some (x2, O))
else
(if x1 = (nI 1) then
(some (x3, O))
else
(some (x4, O)))) := (ex_un d 94 300 37 [some (vr 6 0 0), some (vi x1), some (vi x2), some (vi x3), some (vi x4), some (vi x5)] [] O).trans rfl
set_option maxRecDepth 100000 in
theorem sX6_ask_52 (d : Nat) (O : Mem_) (x1 : Int32) (x2 : Int32) (x3 : Int32) (x4 : Int32) (x5 : Int32) (x6 : Int32) : ex (d + 1) 94 52 [some (vr 6 0 0), some (vi x1), some (vi x2), some (vi x3), some (vi x4), some (vi x5), some (vi x6)] [] O =
if x6 < (O 4 (sel (O 6 0 0 1)) 0 0) then
((ex d 114 0 [some (vr 6 0 0), some (vi x5), some (vi x6)] [] O).bind fun r0 =>
if x4 = (oI none) then
(ex (d + 1) 94 52 [some (vr 6 0 0), some (vi x1), some (vi x5), some (vi x6), some (vi r0.1), some (vi x5), some (vi (x6 + (nI 1)))] [] r0.2)
else
(if r0.1 < x4 then
(ex (d + 1) 94 52 [some (vr 6 0 0), some (vi x1), some (vi x5), some (vi x6), some (vi r0.1), some (vi x5), some (vi (x6 + (nI 1)))] [] r0.2)
else
(ex (d + 1) 94 52 [some (vr 6 0 0), some (vi x1), some (vi x2), some (vi x3), some (vi x4), some (vi x5), some (vi (x6 + (nI 1)))] [] r0.2)))
else
(ex (d + 1) 94 37 [some (vr 6 0 0), some (vi x1), some (vi x2), some (vi x3), some (vi x4), some (vi (x5 + (nI 1)))] [] O) := (ex_un d 94 300 52 [some (vr 6 0 0), some (vi x1), some (vi x2), some (vi x3), some (vi x4), some (vi x5), some (vi x6)] [] O).trans rfl
set_option maxRecDepth 100000 in
theorem sX6_sure_0 (d : Nat) (O : Mem_) (x1 : Int32) (x2 : Int32) : ex (d + 1) 95 0 [some (vr 6 0 0), some (vi x1), some (vi x2)] [] O =
(ex d 45 0 [some (vr 4 (sel (O 6 0 0 1)) 0), some (vi x1)] [] O).bind fun r0 =>
if r0.1 = nI 0 then
(some ((-1), r0.2))
else
(if x2 < nI 0 then
(some ((-1), r0.2))
else
(if (nI 1) < x2 then
(some ((-1), r0.2))
else
((ex d 48 0 [some (vr 4 (sel (r0.2 6 0 0 1)) 0)] [] r0.2).bind fun r1 =>
ex (d + 1) 95 33 [some (vr 6 0 0), some (vi x1), some (vi x2), some (vi r1.1), some (vi (nI 0))] [] r1.2))) := (ex_un d 95 300 0 [some (vr 6 0 0), some (vi x1), some (vi x2)] [] O).trans rfl
set_option maxRecDepth 100000 in
theorem sX6_sure_33 (d : Nat) (O : Mem_) (x1 : Int32) (x2 : Int32) (x3 : Int32) (x4 : Int32) : ex (d + 1) 95 33 [some (vr 6 0 0), some (vi x1), some (vi x2), some (vi x3), some (vi x4)] [] O =
if x4 < ((nI 1) <<< ((O 4 (sel (O 6 0 0 1)) 0 0) &&& (31:Int32))) then
((ex d 217 0 [some (vi x4)] [] O).bind fun r0 =>
(ex d 217 0 [some (vi x3)] [] r0.2).bind fun r1 =>
if r0.1 < r1.1 then
((ex d 115 0 [some (vr 6 0 0), some (vi x1), some (vi x4)] [] r1.2).bind fun r2 =>
if r2.1 = nI 0 then
(ex (d + 1) 95 33 [some (vr 6 0 0), some (vi x1), some (vi x2), some (vi x3), some (vi (x4 + (nI 1)))] [] r2.2)
else
(ex (d + 1) 95 33 [some (vr 6 0 0), some (vi x1), some (vi x2), some (vi x4), some (vi (x4 + (nI 1)))] [] r2.2))
else
(ex (d + 1) 95 33 [some (vr 6 0 0), some (vi x1), some (vi x2), some (vi x3), some (vi (x4 + (nI 1)))] [] r1.2))
else
(if x2 = nI 0 then
((ex d 217 0 [some (vi x3)] [] O).bind fun r3 =>
some (r3.1, r3.2))
else
(some (x3, O))) := (ex_un d 95 300 33 [some (vr 6 0 0), some (vi x1), some (vi x2), some (vi x3), some (vi x4)] [] O).trans rfl
set_option maxRecDepth 100000 in
theorem sX6_likely_0 (d : Nat) (O : Mem_) (x1 : Int32) (x2 : Int32) : ex (d + 1) 96 0 [some (vr 6 0 0), some (vi x1), some (vi x2)] [] O =
(ex d 45 0 [some (vr 4 (sel (O 6 0 0 1)) 0), some (vi x1)] [] O).bind fun r0 =>
if r0.1 = nI 0 then
(some ((-1), r0.2))
else
(if x2 < nI 0 then
(some ((-1), r0.2))
else
(if (nI 1) < x2 then
(some ((-1), r0.2))
else
((ex d 50 0 [some (vr 4 (sel (r0.2 6 0 0 1)) 0)] [] r0.2).bind fun r1 =>
(ex d 58 0 [some (vr 4 (sel (r0.2 6 0 0 1)) 0), some (vi r1.1)] [] r1.2).bind fun r2 =>
if r2.1 = nI 0 then
(some ((oI none), r2.2))
else
((ex d 10 0 [some (vr 0 0 0), some (vr 4 (sel (r2.2 6 0 0 1)) 0), some (vi x1)] [] r2.2).bind fun r3 =>
if x2 = (nI 1) then
((ex d 110 0 [some (vi r3.1), some (vi r2.1), some (vi (nI 1))] [] r3.2).bind fun r4 =>
some (r4.1, r4.2))
else
((ex d 110 0 [some (vi r3.1), some (vi r2.1), some (vi (nI 0))] [] r3.2).bind fun r5 =>
some (r5.1, r5.2)))))) := (ex_un d 96 300 0 [some (vr 6 0 0), some (vi x1), some (vi x2)] [] O).trans rfl
set_option maxRecDepth 100000 in
theorem sX6_theirs_0 (d : Nat) (O : Mem_) (x1 : Int32) (x2 : Int32) : ex (d + 1) 97 0 [some (vr 6 0 0), some (vi x1), some (vi x2)] [] O =
(ex d 43 0 [some (vr 4 (sel (O 6 0 0 1)) 0), some (vi x1)] [] O).bind fun r0 =>
if r0.1 = nI 0 then
(some ((-1), r0.2))
else
(if (r0.2 1 0 0 5) < (nI 12) then
(if ib (r0.2 1 0 0 5) 12 then
(if ib ((up r0.2 1 0 7 (Int32.toNatClampNeg (r0.2 1 0 0 5)) x1) 1 0 0 5) 12 then
(if x2 = nI 0 ∨ x2 = nI 1 then
(some (((up (up (up r0.2 1 0 7 (Int32.toNatClampNeg (r0.2 1 0 0 5)) x1) 1 0 8 (Int32.toNatClampNeg ((up r0.2 1 0 7 (Int32.toNatClampNeg (r0.2 1 0 0 5)) x1) 1 0 0 5)) x2) 1 0 0 5 (((up (up r0.2 1 0 7 (Int32.toNatClampNeg (r0.2 1 0 0 5)) x1) 1 0 8 (Int32.toNatClampNeg ((up r0.2 1 0 7 (Int32.toNatClampNeg (r0.2 1 0 0 5)) x1) 1 0 0 5)) x2) 1 0 0 5) + (nI 1))) 1 0 0 5), (up (up (up r0.2 1 0 7 (Int32.toNatClampNeg (r0.2 1 0 0 5)) x1) 1 0 8 (Int32.toNatClampNeg ((up r0.2 1 0 7 (Int32.toNatClampNeg (r0.2 1 0 0 5)) x1) 1 0 0 5)) x2) 1 0 0 5 (((up (up r0.2 1 0 7 (Int32.toNatClampNeg (r0.2 1 0 0 5)) x1) 1 0 8 (Int32.toNatClampNeg ((up r0.2 1 0 7 (Int32.toNatClampNeg (r0.2 1 0 0 5)) x1) 1 0 0 5)) x2) 1 0 0 5) + (nI 1)))))
else none)
else none)
else none)
else
(some ((-3), r0.2))) := (ex_un d 97 300 0 [some (vr 6 0 0), some (vi x1), some (vi x2)] [] O).trans rfl
set_option maxRecDepth 100000 in
theorem sX6_hush_0 (d : Nat) (O : Mem_)  : ex (d + 1) 98 0 [some (vr 6 0 0)] [] O =
some ((O 1 0 0 5), (up O 1 0 0 5 (nI 0))) := (ex_un d 98 300 0 [some (vr 6 0 0)] [] O).trans rfl
set_option maxRecDepth 100000 in
theorem sX6_meant_0 (d : Nat) (O : Mem_) (x1 : Int32) : ex (d + 1) 99 0 [some (vr 6 0 0), some (vi x1)] [] O =
(ex d 116 0 [some (vr 6 0 0)] [] O).bind fun r0 =>
if x1 = (nI 0) then
((ex d 217 0 [some (vi r0.1)] [] r0.2).bind fun r1 =>
some (r1.1, r1.2))
else if x1 = (nI 1) then
((ex d 51 0 [some (vr 4 (sel (r0.2 6 0 0 1)) 0), some (vi r0.1)] [] r0.2).bind fun r2 =>
some (r2.1, r2.2))
else if x1 = (nI 2) then
(some (r0.1, r0.2))
else if x1 = (nI 3) then
(if r0.1 = nI 0 then
(some ((oI none), r0.2))
else
((ex d 117 0 [some (vr 6 0 0), some (vi r0.1)] [] r0.2).bind fun r3 =>
some (r3.1, r3.2)))
else 
(some ((-1), r0.2)) := (ex_un d 99 300 0 [some (vr 6 0 0), some (vi x1)] [] O).trans rfl
set_option maxRecDepth 100000 in
theorem sX6_build_0 (d : Nat) (O : Mem_) (x1 : Int32) (x2 : Int32) : ex (d + 1) 100 0 [some (vr 6 0 0), some (vi x1), some (vi x2)] [] O =
(ex d 44 0 [some (vr 4 (sel (O 6 0 0 1)) 0), some (vi x1)] [] O).bind fun r0 =>
if r0.1 = nI 0 then
(some ((-1), r0.2))
else
(if x2 < nI 0 then
(some ((-1), r0.2))
else
(if (nI 2) < x2 then
(some ((-1), r0.2))
else
(ex (d + 1) 100 24 [some (vr 6 0 0), some (vi x1), some (vi x2), some (vi (nI 1))] [] r0.2))) := (ex_un d 100 300 0 [some (vr 6 0 0), some (vi x1), some (vi x2)] [] O).trans rfl
set_option maxRecDepth 100000 in
theorem sX6_build_24 (d : Nat) (O : Mem_) (x1 : Int32) (x2 : Int32) (x3 : Int32) : ex (d + 1) 100 24 [some (vr 6 0 0), some (vi x1), some (vi x2), some (vi x3)] [] O =
if (nI 3) < x3 then
(some ((oI none), O))
else
(ex (d + 1) 100 32 [some (vr 6 0 0), some (vi x1), some (vi x2), some (vi x3), some (vi (nI 0))] [] O) := (ex_un d 100 300 24 [some (vr 6 0 0), some (vi x1), some (vi x2), some (vi x3)] [] O).trans rfl
set_option maxRecDepth 100000 in
theorem sX6_build_32 (d : Nat) (O : Mem_) (x1 : Int32) (x2 : Int32) (x3 : Int32) (x4 : Int32) : ex (d + 1) 100 32 [some (vr 6 0 0), some (vi x1), some (vi x2), some (vi x3), some (vi x4)] [] O =
if x4 < (O 4 (sel (O 6 0 0 1)) 0 2) then
(if ib x1 12 then
((ex d 118 0 [some (vr 6 0 0), some (vi (O 4 (sel (O 6 0 0 1)) 10 (Int32.toNatClampNeg x1))), some (vi x3), some (vi x4)] [] O).bind fun r0 =>
if r0.1 = (-1) then
(ex (d + 1) 100 32 [some (vr 6 0 0), some (vi x1), some (vi x2), some (vi x3), some (vi (x4 + (nI 1)))] [] r0.2)
else
(if x2 = nI 0 then
(some (x3, r0.2))
else
(if x2 = (nI 1) then
(some (x4, r0.2))
else
(some (r0.1, r0.2)))))
else none)
else
(ex (d + 1) 100 24 [some (vr 6 0 0), some (vi x1), some (vi x2), some (vi (x3 + (nI 1)))] [] O) := (ex_un d 100 300 32 [some (vr 6 0 0), some (vi x1), some (vi x2), some (vi x3), some (vi x4)] [] O).trans rfl
set_option maxRecDepth 100000 in
theorem sX6_draw_0 (d : Nat) (O : Mem_) (x1 : Int32) : ex (d + 1) 101 0 [some (vr 6 0 0), some (vi x1)] [] O =
(ex d 50 0 [some (vr 4 (sel (O 6 0 0 1)) 0)] [] O).bind fun r0 =>
(ex d 58 0 [some (vr 4 (sel (O 6 0 0 1)) 0), some (vi r0.1)] [] r0.2).bind fun r1 =>
if nI 0 < r1.1 then
(if r1.1 = nI 0 then none else ex (d + 1) 101 44 [some (vr 6 0 0), none, none, some (vi ((((Int32.toUInt32 ((x1 * (nI 1103515245)) + (nI 12345)) >>> (Int32.toUInt32 (nI 16) &&& Int32.toUInt32 31)).toInt32) &&& (nI 32767)) - (((Int32.toUInt32 ((x1 * (nI 1103515245)) + (nI 12345)) >>> (Int32.toUInt32 (nI 16) &&& Int32.toUInt32 31)).toInt32) &&& (nI 32767)) / r1.1 * r1.1)), some (vi (nI 0))] [] r1.2)
else
(some ((oI none), r1.2)) := (ex_un d 101 300 0 [some (vr 6 0 0), some (vi x1)] [] O).trans rfl
set_option maxRecDepth 100000 in
theorem sX6_draw_44 (d : Nat) (O : Mem_) (x3 : Int32) (x4 : Int32) : ex (d + 1) 101 44 [some (vr 6 0 0), none, none, some (vi x3), some (vi x4)] [] O =
if x4 < (O 4 (sel (O 6 0 0 1)) 0 3) then
(if ib x4 6 then
(if (x3 - (O 4 (sel (O 6 0 0 1)) 18 (Int32.toNatClampNeg x4))) < nI 0 then
(some (x4, O))
else
(ex (d + 1) 101 44 [some (vr 6 0 0), none, none, some (vi (x3 - (O 4 (sel (O 6 0 0 1)) 18 (Int32.toNatClampNeg x4)))), some (vi (x4 + (nI 1)))] [] O))
else none)
else
(some ((oI none), O)) := (ex_un d 101 300 44 [some (vr 6 0 0), none, none, some (vi x3), some (vi x4)] [] O).trans rfl
set_option maxRecDepth 100000 in
theorem sX6_keep_0 (d : Nat) (O : Mem_) (x1 : Int32) : ex (d + 1) 102 0 [some (vr 6 0 0), some (vi x1)] [] O =
if x1 < nI 0 then
(some ((-1), O))
else
(if x1 < (nI 2) then
(if ib x1 2 then
(if (O 1 (1 + (Int32.toNatClampNeg x1)) 0 8) = nI 0 then
(ex (d + 1) 102 28 [some (vr 6 0 0), some (vi x1)] [vi (nI 0)] O)
else
(ex (d + 1) 102 28 [some (vr 6 0 0), some (vi x1)] [vi (nI 1)] O))
else none)
else
(some ((-1), O))) := (ex_un d 102 300 0 [some (vr 6 0 0), some (vi x1)] [] O).trans rfl
set_option maxRecDepth 100000 in
theorem sX6_keep_28 (d : Nat) (O : Mem_) (x1 : Int32) (y0 : Int32) : ex (d + 1) 102 28 [some (vr 6 0 0), some (vi x1)] [vi y0] O =
if ib x1 2 then
((ex d 14 0 [some (vr 1 (1 + (Int32.toNatClampNeg x1)) 0), some (vr 1 0 0)] [] O).bind fun r0 =>
if ib x1 2 then
(some (y0, (up r0.2 1 (1 + (Int32.toNatClampNeg x1)) 0 8 (nI 1))))
else none)
else none := (ex_un d 102 300 28 [some (vr 6 0 0), some (vi x1)] [vi y0] O).trans rfl
set_option maxRecDepth 100000 in
theorem sX6_back_0 (d : Nat) (O : Mem_) (x1 : Int32) : ex (d + 1) 103 0 [some (vr 6 0 0), some (vi x1)] [] O =
if x1 < nI 0 then
(some ((-1), O))
else
(if x1 < (nI 2) then
(if ib x1 2 then
(if (O 1 (1 + (Int32.toNatClampNeg x1)) 0 8) = nI 0 then
(some ((-2), O))
else
(if ib x1 2 then
((ex d 14 0 [some (vr 1 0 0), some (vr 1 (1 + (Int32.toNatClampNeg x1)) 0)] [] O).bind fun r0 =>
(ex d 112 0 [some (vr 6 0 0)] [] r0.2).bind fun r1 =>
some ((r1.2 1 0 0 0), r1.2))
else none))
else none)
else
(some ((-1), O))) := (ex_un d 103 300 0 [some (vr 6 0 0), some (vi x1)] [] O).trans rfl
set_option maxRecDepth 100000 in
theorem sX6_sheet_0 (d : Nat) (O : Mem_) (x1 : Int32) (x2 : Int32) (x3 : Int32) : ex (d + 1) 104 0 [some (vr 6 0 0), some (vi x1), some (vi x2), some (vi x3)] [] O =
if x1 < nI 0 then
(some ((-1), O))
else
(if x1 < (nI 4) then
(if x2 < nI 0 then
(some ((-1), O))
else
(if x2 < (nI 3) then
(if (nI 40) < x3 then
(some ((-1), O))
else
(if x3 < nI 0 then
(some ((-14), O))
else
((ex d 15 0 [some (vr 2 0 0), some (vi x1), some (vi x2), some (vi x3)] [] O).bind fun r0 =>
some ((nI 1), r0.2))))
else
(some ((-1), O))))
else
(some ((-1), O))) := (ex_un d 104 300 0 [some (vr 6 0 0), some (vi x1), some (vi x2), some (vi x3)] [] O).trans rfl
set_option maxRecDepth 100000 in
theorem sX6_lay_0 (d : Nat) (O : Mem_) (x1 : Int32) (x2 : Int32) (x3 : Int32) : ex (d + 1) 105 0 [some (vr 6 0 0), some (vi x1), some (vi x2), some (vi x3)] [] O =
if x1 < nI 0 then
(some ((-1), O))
else
(if x1 < (nI 4) then
((ex d 16 0 [some (vr 2 0 0), some (vi x1), some (vi x2), some (vi x3)] [] O).bind fun r0 =>
if r0.1 = nI 0 then
(some ((nI 1), r0.2))
else
(some (((-10) - r0.1), r0.2)))
else
(some ((-1), O))) := (ex_un d 105 300 0 [some (vr 6 0 0), some (vi x1), some (vi x2), some (vi x3)] [] O).trans rfl
set_option maxRecDepth 100000 in
theorem sX6_read_0 (d : Nat) (O : Mem_) (x1 : Int32) (x2 : Int32) (x3 : Int32) (x4 : Int32) : ex (d + 1) 106 0 [some (vr 6 0 0), some (vi x1), some (vi x2), some (vi x3), some (vi x4)] [] O =
if x1 < nI 0 then
(some ((-1), O))
else
(if x1 < (nI 4) then
(if x2 < nI 0 then
(some ((-1), O))
else
(if x2 < (nI 3) then
(if x4 < nI 0 then
(some ((-1), O))
else
(if (nI 13) < x4 then
(some ((-1), O))
else
(if x4 = nI 0 then
(ex (d + 1) 106 50 [some (vr 6 0 0), some (vi x1), none, some (vi x3), some (vi x4)] [vi (nI 0)] O)
else
((ex d 17 0 [some (vr 2 0 0), some (vi x1), some (vi x2)] [] O).bind fun r0 =>
ex (d + 1) 106 50 [some (vr 6 0 0), some (vi x1), none, some (vi x3), some (vi x4)] [vi r0.1] r0.2))))
else
(some ((-1), O))))
else
(some ((-1), O))) := (ex_un d 106 300 0 [some (vr 6 0 0), some (vi x1), some (vi x2), some (vi x3), some (vi x4)] [] O).trans rfl
set_option maxRecDepth 100000 in
theorem sX6_read_50 (d : Nat) (O : Mem_) (x1 : Int32) (x3 : Int32) (x4 : Int32) (y0 : Int32) : ex (d + 1) 106 50 [some (vr 6 0 0), some (vi x1), none, some (vi x3), some (vi x4)] [vi y0] O =
if y0 = nI 0 then
((ex d 18 0 [some (vr 2 0 0), some (vi x1), some (vi x3), some (vi x4)] [] O).bind fun r0 =>
ex (d + 1) 106 72 [some (vr 6 0 0), some (vi x1), none, some (vi x3), some (vi x4), some (vi y0)] [vi r0.1] r0.2)
else
(ex (d + 1) 106 72 [some (vr 6 0 0), some (vi x1), none, some (vi x3), some (vi x4), some (vi y0)] [vi (nI 0)] O) := (ex_un d 106 300 50 [some (vr 6 0 0), some (vi x1), none, some (vi x3), some (vi x4)] [vi y0] O).trans rfl
set_option maxRecDepth 100000 in
theorem sX6_read_72 (d : Nat) (O : Mem_) (x1 : Int32) (x3 : Int32) (x4 : Int32) (x5 : Int32) (y0 : Int32) : ex (d + 1) 106 72 [some (vr 6 0 0), some (vi x1), none, some (vi x3), some (vi x4), some (vi x5)] [vi y0] O =
(ex d 119 0 [some (vr 6 0 0), some (vi x1), some (vi x3), some (vi y0)] [] O).bind fun r0 =>
if r0.1 = nI 0 then
(ex (d + 1) 106 95 [some (vr 6 0 0), some (vi x1), none, some (vi x3), some (vi x4), some (vi x5), some (vi y0), none, some (vi (nI 0))] [] r0.2)
else
(some (r0.1, r0.2)) := (ex_un d 106 300 72 [some (vr 6 0 0), some (vi x1), none, some (vi x3), some (vi x4), some (vi x5)] [vi y0] O).trans rfl
set_option maxRecDepth 100000 in
theorem sX6_read_95 (d : Nat) (O : Mem_) (x1 : Int32) (x3 : Int32) (x4 : Int32) (x5 : Int32) (x6 : Int32) (x8 : Int32) : ex (d + 1) 106 95 [some (vr 6 0 0), some (vi x1), none, some (vi x3), some (vi x4), some (vi x5), some (vi x6), none, some (vi x8)] [] O =
if x8 < x6 then
((ex d 19 0 [some (vr 2 0 0), some (vi x1), some (vi (x3 + ((nI 3) * x8)))] [] O).bind fun r0 =>
(ex d 19 0 [some (vr 2 0 0), some (vi x1), some (vi ((x3 + ((nI 3) * x8)) + (nI 1)))] [] r0.2).bind fun r1 =>
(ex d 19 0 [some (vr 2 0 0), some (vi x1), some (vi ((x3 + ((nI 3) * x8)) + (nI 2)))] [] r1.2).bind fun r2 =>
if r2.1 = (nI 1) then
(ex (d + 1) 106 154 [some (vr 6 0 0), some (vi x1), none, some (vi x3), some (vi x4), some (vi x5), some (vi x6), none, some (vi x8)] [vi (nI 1), vi r1.1, vi r0.1, vr 6 0 0] r2.2)
else
(ex (d + 1) 106 154 [some (vr 6 0 0), some (vi x1), none, some (vi x3), some (vi x4), some (vi x5), some (vi x6), none, some (vi x8)] [vi (nI 0), vi r1.1, vi r0.1, vr 6 0 0] r2.2))
else
(if x5 = nI 0 then
(if x6 < x4 then
(some (x6, (up O 6 0 0 9 (nI 2))))
else
(some (x6, (up O 6 0 0 9 (nI 0)))))
else
(some (x6, (up O 6 0 0 9 x5)))) := (ex_un d 106 300 95 [some (vr 6 0 0), some (vi x1), none, some (vi x3), some (vi x4), some (vi x5), some (vi x6), none, some (vi x8)] [] O).trans rfl
set_option maxRecDepth 100000 in
theorem sX6_read_154 (d : Nat) (O : Mem_) (x1 : Int32) (x3 : Int32) (x4 : Int32) (x5 : Int32) (x6 : Int32) (x8 : Int32) (y0 : Int32) (y1 : Int32) (y2 : Int32) : ex (d + 1) 106 154 [some (vr 6 0 0), some (vi x1), none, some (vi x3), some (vi x4), some (vi x5), some (vi x6), none, some (vi x8)] [vi y0, vi y1, vi y2, vr 6 0 0] O =
(ex d 111 0 [some (vr 6 0 0), some (vi y2), some (vi y1), some (vi y0)] [] O).bind fun r0 =>
ex (d + 1) 106 95 [some (vr 6 0 0), some (vi x1), none, some (vi x3), some (vi x4), some (vi x5), some (vi x6), none, some (vi (x8 + (nI 1)))] [] r0.2 := (ex_un d 106 300 154 [some (vr 6 0 0), some (vi x1), none, some (vi x3), some (vi x4), some (vi x5), some (vi x6), none, some (vi x8)] [vi y0, vi y1, vi y2, vr 6 0 0] O).trans rfl
set_option maxRecDepth 100000 in
theorem sX6_torn_0 (d : Nat) (O : Mem_)  : ex (d + 1) 107 0 [some (vr 6 0 0)] [] O =
some ((O 6 0 0 9), O) := (ex_un d 107 300 0 [some (vr 6 0 0)] [] O).trans rfl
set_option maxRecDepth 100000 in
theorem sX6_count_0 (d : Nat) (O : Mem_) (x1 : Int32) : ex (d + 1) 108 0 [some (vr 6 0 0), some (vi x1)] [] O =
if x1 = (nI 0) then
(some ((O 4 (sel (O 6 0 0 1)) 0 0), O))
else if x1 = (nI 1) then
(some ((O 4 (sel (O 6 0 0 1)) 0 1), O))
else if x1 = (nI 2) then
(some ((O 4 (sel (O 6 0 0 1)) 0 2), O))
else if x1 = (nI 3) then
(some ((O 4 (sel (O 6 0 0 1)) 0 3), O))
else if x1 = (nI 4) then
(some ((O 1 0 0 0), O))
else if x1 = (nI 5) then
(some ((O 1 0 0 5), O))
else if x1 = (nI 6) then
((ex d 120 0 [some (vr 6 0 0)] [] O).bind fun r0 =>
some (r0.1, r0.2))
else if x1 = (nI 7) then
(some ((O 3 0 0 1), O))
else if x1 = (nI 8) then
(if ib (nI 0) 4 then
(some ((O 2 0 1 (Int32.toNatClampNeg (nI 0))), O))
else none)
else 
(some ((-1), O)) := (ex_un d 108 300 0 [some (vr 6 0 0), some (vi x1)] [] O).trans rfl
set_option maxRecDepth 100000 in
theorem sX6_isIn_0 (d : Nat) (O : Mem_) (x0 : Int32) (x1 : Int32) : ex (d + 1) 109 0 [some (vi x0), some (vi x1)] [] O =
if x0 < nI 0 then
(some ((nI 0), O))
else
(if x0 < (nI 31) then
(if ((x1 >>> (x0 &&& (31:Int32))) &&& (nI 1)) = (nI 1) then
(some ((nI 1), O))
else
(some ((nI 0), O)))
else
(some ((nI 0), O))) := (ex_un d 109 300 0 [some (vi x0), some (vi x1)] [] O).trans rfl
set_option maxRecDepth 100000 in
theorem sX6_ofLowestTerms_0 (d : Nat) (O : Mem_) (x0 : Int32) (x1 : Int32) (x2 : Int32) : ex (d + 1) 110 0 [some (vi x0), some (vi x1), some (vi x2)] [] O =
ex (d + 1) 110 8 [some (vi x0), some (vi x1), some (vi x2), some (vi x1), some (vi x0), some (vi (nI 0))] [] O := (ex_un d 110 300 0 [some (vi x0), some (vi x1), some (vi x2)] [] O).trans rfl
set_option maxRecDepth 100000 in
theorem sX6_ofLowestTerms_8 (d : Nat) (O : Mem_) (x0 : Int32) (x1 : Int32) (x2 : Int32) (x3 : Int32) (x4 : Int32) (x5 : Int32) : ex (d + 1) 110 8 [some (vi x0), some (vi x1), some (vi x2), some (vi x3), some (vi x4), some (vi x5)] [] O =
if x5 < (nI 64) then
(if x4 = nI 0 then
(ex (d + 1) 110 39 [some (vi x0), some (vi x1), some (vi x2), some (vi x3)] [] O)
else
(if x4 = nI 0 then none else ex (d + 1) 110 8 [some (vi x0), some (vi x1), some (vi x2), some (vi x4), some (vi (x3 - x3 / x4 * x4)), some (vi (x5 + (nI 1)))] [] O))
else
(ex (d + 1) 110 39 [some (vi x0), some (vi x1), some (vi x2), some (vi x3)] [] O) := (ex_un d 110 300 8 [some (vi x0), some (vi x1), some (vi x2), some (vi x3), some (vi x4), some (vi x5)] [] O).trans rfl
set_option maxRecDepth 100000 in
theorem sX6_ofLowestTerms_39 (d : Nat) (O : Mem_) (x0 : Int32) (x1 : Int32) (x2 : Int32) (x3 : Int32) : ex (d + 1) 110 39 [some (vi x0), some (vi x1), some (vi x2), some (vi x3)] [] O =
if x3 = nI 0 then
(some ((nI 0), O))
else
(if x2 = nI 0 then
(if x3 = nI 0 then none else some ((x0 / x3), O))
else
(if x3 = nI 0 then none else some ((x1 / x3), O))) := (ex_un d 110 300 39 [some (vi x0), some (vi x1), some (vi x2), some (vi x3)] [] O).trans rfl
set_option maxRecDepth 100000 in
theorem sX6_takeShowing_0 (d : Nat) (O : Mem_) (x1 : Int32) (x2 : Int32) (x3 : Int32) : ex (d + 1) 111 0 [some (vr 6 0 0), some (vi x1), some (vi x2), some (vi x3)] [] O =
if (O 1 0 0 0) < nI 0 then
(some (nI 0, O))
else
(if (O 1 0 0 0) < (nI 24) then
(if ib (O 1 0 0 0) 24 then
(if ib (O 1 0 0 0) 24 then
(if ib (O 1 0 0 0) 24 then
(if x3 = nI 0 ∨ x3 = nI 1 then
((ex d 50 0 [some (vr 4 (sel ((up (up (up (up O 1 0 2 (Int32.toNatClampNeg (O 1 0 0 0)) x1) 1 0 3 (Int32.toNatClampNeg (O 1 0 0 0)) x2) 1 0 4 (Int32.toNatClampNeg (O 1 0 0 0)) x3) 1 0 0 0 (((up (up (up O 1 0 2 (Int32.toNatClampNeg (O 1 0 0 0)) x1) 1 0 3 (Int32.toNatClampNeg (O 1 0 0 0)) x2) 1 0 4 (Int32.toNatClampNeg (O 1 0 0 0)) x3) 1 0 0 0) + (nI 1))) 6 0 0 1)) 0)] [] (up (up (up (up O 1 0 2 (Int32.toNatClampNeg (O 1 0 0 0)) x1) 1 0 3 (Int32.toNatClampNeg (O 1 0 0 0)) x2) 1 0 4 (Int32.toNatClampNeg (O 1 0 0 0)) x3) 1 0 0 0 (((up (up (up O 1 0 2 (Int32.toNatClampNeg (O 1 0 0 0)) x1) 1 0 3 (Int32.toNatClampNeg (O 1 0 0 0)) x2) 1 0 4 (Int32.toNatClampNeg (O 1 0 0 0)) x3) 1 0 0 0) + (nI 1)))).bind fun r0 =>
(ex d 2 0 [some (vr 0 0 0), some (vr 4 (sel ((up (up (up (up O 1 0 2 (Int32.toNatClampNeg (O 1 0 0 0)) x1) 1 0 3 (Int32.toNatClampNeg (O 1 0 0 0)) x2) 1 0 4 (Int32.toNatClampNeg (O 1 0 0 0)) x3) 1 0 0 0 (((up (up (up O 1 0 2 (Int32.toNatClampNeg (O 1 0 0 0)) x1) 1 0 3 (Int32.toNatClampNeg (O 1 0 0 0)) x2) 1 0 4 (Int32.toNatClampNeg (O 1 0 0 0)) x3) 1 0 0 0) + (nI 1))) 6 0 0 1)) 0), some (vi r0.1), some (vi x1), some (vi x2), some (vi x3)] [] r0.2).bind fun r1 =>
some (nI 0, r1.2))
else none)
else none)
else none)
else none)
else
(some (nI 0, O))) := (ex_un d 111 300 0 [some (vr 6 0 0), some (vi x1), some (vi x2), some (vi x3)] [] O).trans rfl
set_option maxRecDepth 100000 in
theorem sX6_thinkAgain_0 (d : Nat) (O : Mem_)  : ex (d + 1) 112 0 [some (vr 6 0 0)] [] O =
(ex d 0 0 [some (vr 0 0 0), some (vr 4 (sel (O 6 0 0 1)) 0)] [] O).bind fun r0 =>
ex (d + 1) 112 13 [some (vr 6 0 0), some (vi (nI 0))] [] r0.2 := (ex_un d 112 300 0 [some (vr 6 0 0)] [] O).trans rfl
set_option maxRecDepth 100000 in
theorem sX6_thinkAgain_13 (d : Nat) (O : Mem_) (x1 : Int32) : ex (d + 1) 112 13 [some (vr 6 0 0), some (vi x1)] [] O =
if x1 < (O 1 0 0 0) then
(if x1 < (nI 24) then
((ex d 50 0 [some (vr 4 (sel (O 6 0 0 1)) 0)] [] O).bind fun r0 =>
if ib x1 24 then
(if ib x1 24 then
(if ib x1 24 then
((ex d 2 0 [some (vr 0 0 0), some (vr 4 (sel (O 6 0 0 1)) 0), some (vi r0.1), some (vi (r0.2 1 0 2 (Int32.toNatClampNeg x1))), some (vi (r0.2 1 0 3 (Int32.toNatClampNeg x1))), some (vi (r0.2 1 0 4 (Int32.toNatClampNeg x1)))] [] r0.2).bind fun r1 =>
ex (d + 1) 112 13 [some (vr 6 0 0), some (vi (x1 + (nI 1)))] [] r1.2)
else none)
else none)
else none)
else
(some (nI 0, O)))
else
(some (nI 0, O)) := (ex_un d 112 300 13 [some (vr 6 0 0), some (vi x1)] [] O).trans rfl
set_option maxRecDepth 100000 in
theorem sX6_chanceOfFirst_0 (d : Nat) (O : Mem_) (x1 : Int32) (x2 : Int32) : ex (d + 1) 113 0 [some (vr 6 0 0), some (vi x1), some (vi x2)] [] O =
(ex d 0 0 [some (vr 0 1 0), some (vr 4 (sel (O 6 0 0 1)) 0)] [] O).bind fun r0 =>
(ex d 50 0 [some (vr 4 (sel (r0.2 6 0 0 1)) 0)] [] r0.2).bind fun r1 =>
(ex d 55 0 [some (vr 4 (sel (r1.2 6 0 0 1)) 0), some (vi x1), some (vi x2)] [] r1.2).bind fun r2 =>
(ex d 2 0 [some (vr 0 1 0), some (vr 4 (sel (r0.2 6 0 0 1)) 0), some (vi r1.1), some (vi x1), some (vi x2), some (vi r2.1)] [] r2.2).bind fun r3 =>
(ex d 10 0 [some (vr 0 1 0), some (vr 4 (sel (r3.2 6 0 0 1)) 0), some (vi x1)] [] r3.2).bind fun r4 =>
some (r4.1, r4.2) := (ex_un d 113 300 0 [some (vr 6 0 0), some (vi x1), some (vi x2)] [] O).trans rfl
set_option maxRecDepth 100000 in
theorem sX6_greatestLeft_0 (d : Nat) (O : Mem_) (x1 : Int32) (x2 : Int32) : ex (d + 1) 114 0 [some (vr 6 0 0), some (vi x1), some (vi x2)] [] O =
(ex d 12 0 [some (vr 0 0 0), some (vr 4 (sel (O 6 0 0 1)) 0), some (vi x1), some (vi x2), some (vi (nI 1))] [] O).bind fun r0 =>
(ex d 58 0 [some (vr 4 (sel (O 6 0 0 1)) 0), some (vi ((O 1 0 0 4) &&& r0.1))] [] r0.2).bind fun r1 =>
(ex d 12 0 [some (vr 0 0 0), some (vr 4 (sel (r1.2 6 0 0 1)) 0), some (vi x1), some (vi x2), some (vi (nI 0))] [] r1.2).bind fun r2 =>
(ex d 58 0 [some (vr 4 (sel (r1.2 6 0 0 1)) 0), some (vi ((r1.2 1 0 0 4) &&& r2.1))] [] r2.2).bind fun r3 =>
(ex d 12 0 [some (vr 0 0 0), some (vr 4 (sel (r3.2 6 0 0 1)) 0), some (vi x1), some (vi x2), some (vi (oI none))] [] r3.2).bind fun r4 =>
(ex d 58 0 [some (vr 4 (sel (r3.2 6 0 0 1)) 0), some (vi ((r3.2 1 0 0 4) &&& r4.1))] [] r4.2).bind fun r5 =>
some ((if r1.1 < (if r3.1 < r5.1 then r5.1 else r3.1) then (if r3.1 < r5.1 then r5.1 else r3.1) else r1.1), r5.2) := (ex_un d 114 300 0 [some (vr 6 0 0), some (vi x1), some (vi x2)] [] O).trans rfl
set_option maxRecDepth 100000 in
theorem sX6_areSure_0 (d : Nat) (O : Mem_) (x1 : Int32) (x2 : Int32) : ex (d + 1) 115 0 [some (vr 6 0 0), some (vi x1), some (vi x2)] [] O =
(ex d 53 0 [some (vr 4 (sel (O 6 0 0 1)) 0), some (vi x1)] [] O).bind fun r0 =>
ex (d + 1) 115 12 [some (vr 6 0 0), none, some (vi x2), some (vi r0.1), some (vi (nI 0))] [] r0.2 := (ex_un d 115 300 0 [some (vr 6 0 0), some (vi x1), some (vi x2)] [] O).trans rfl
set_option maxRecDepth 100000 in
theorem sX6_areSure_12 (d : Nat) (O : Mem_) (x2 : Int32) (x3 : Int32) (x4 : Int32) : ex (d + 1) 115 12 [some (vr 6 0 0), none, some (vi x2), some (vi x3), some (vi x4)] [] O =
if x4 < (O 4 (sel (O 6 0 0 1)) 0 1) then
(if ib x4 12 then
(if (O 4 (sel (O 6 0 0 1)) 10 (Int32.toNatClampNeg x4)) = x3 then
(ex (d + 1) 115 55 [some (vr 6 0 0), none, some (vi x2), some (vi x3), some (vi x4)] [vi (nI 0)] O)
else
((ex d 56 0 [some (vr 4 (sel (O 6 0 0 1)) 0), some (vi x4)] [] O).bind fun r0 =>
if r0.1 = nI 0 then
(ex (d + 1) 115 55 [some (vr 6 0 0), none, some (vi x2), some (vi x3), some (vi x4)] [vi (nI 0)] r0.2)
else
(ex (d + 1) 115 55 [some (vr 6 0 0), none, some (vi x2), some (vi x3), some (vi x4)] [vi (nI 1)] r0.2)))
else none)
else
(some ((nI 1), O)) := (ex_un d 115 300 12 [some (vr 6 0 0), none, some (vi x2), some (vi x3), some (vi x4)] [] O).trans rfl
set_option maxRecDepth 100000 in
theorem sX6_areSure_55 (d : Nat) (O : Mem_) (x2 : Int32) (x3 : Int32) (x4 : Int32) (y0 : Int32) : ex (d + 1) 115 55 [some (vr 6 0 0), none, some (vi x2), some (vi x3), some (vi x4)] [vi y0] O =
if y0 = nI 0 then
(ex (d + 1) 115 12 [some (vr 6 0 0), none, some (vi x2), some (vi x3), some (vi (x4 + (nI 1)))] [] O)
else
(if ib x4 12 then
(if (((O 4 (sel (O 6 0 0 1)) 10 (Int32.toNatClampNeg x4)) ^^^ x3) &&& x2) = nI 0 then
(some ((nI 0), O))
else
(ex (d + 1) 115 12 [some (vr 6 0 0), none, some (vi x2), some (vi x3), some (vi (x4 + (nI 1)))] [] O))
else none) := (ex_un d 115 300 55 [some (vr 6 0 0), none, some (vi x2), some (vi x3), some (vi x4)] [vi y0] O).trans rfl
set_option maxRecDepth 100000 in
theorem sX6_fittingTheirs_0 (d : Nat) (O : Mem_)  : ex (d + 1) 116 0 [some (vr 6 0 0)] [] O =
(ex d 49 0 [some (vr 4 (sel (O 6 0 0 1)) 0)] [] O).bind fun r0 =>
ex (d + 1) 116 10 [some (vr 6 0 0), some (vi r0.1), some (vi (nI 0))] [] r0.2 := (ex_un d 116 300 0 [some (vr 6 0 0)] [] O).trans rfl
set_option maxRecDepth 100000 in
theorem sX6_fittingTheirs_10 (d : Nat) (O : Mem_) (x1 : Int32) (x2 : Int32) : ex (d + 1) 116 10 [some (vr 6 0 0), some (vi x1), some (vi x2)] [] O =
if x2 < (O 1 0 0 5) then
(if x2 < (nI 12) then
(if ib x2 12 then
(if ib x2 12 then
((ex d 52 0 [some (vr 4 (sel (O 6 0 0 1)) 0), some (vi (O 1 0 7 (Int32.toNatClampNeg x2))), some (vi (O 1 0 8 (Int32.toNatClampNeg x2)))] [] O).bind fun r0 =>
ex (d + 1) 116 10 [some (vr 6 0 0), some (vi (x1 &&& r0.1)), some (vi (x2 + (nI 1)))] [] r0.2)
else none)
else none)
else
(some (x1, O)))
else
(some (x1, O)) := (ex_un d 116 300 10 [some (vr 6 0 0), some (vi x1), some (vi x2)] [] O).trans rfl
set_option maxRecDepth 100000 in
theorem sX6_mostTelling_0 (d : Nat) (O : Mem_) (x1 : Int32) : ex (d + 1) 117 0 [some (vr 6 0 0), some (vi x1)] [] O =
ex (d + 1) 117 8 [some (vr 6 0 0), some (vi x1), some (vi (oI none)), some (vi (-1)), some (vi (nI 0))] [] O := (ex_un d 117 300 0 [some (vr 6 0 0), some (vi x1)] [] O).trans rfl
set_option maxRecDepth 100000 in
theorem sX6_mostTelling_8 (d : Nat) (O : Mem_) (x1 : Int32) (x2 : Int32) (x3 : Int32) (x4 : Int32) : ex (d + 1) 117 8 [some (vr 6 0 0), some (vi x1), some (vi x2), some (vi x3), some (vi x4)] [] O =
if x4 < (O 4 (sel (O 6 0 0 1)) 0 0) then
(if ib x4 8 then
((ex d 217 0 [some (vi (x1 &&& ((O 4 (sel (O 6 0 0 1)) 6 (Int32.toNatClampNeg x4)) ^^^ (-1))))] [] O).bind fun r0 =>
if ib x4 8 then
((ex d 217 0 [some (vi (x1 &&& (r0.2 4 (sel (r0.2 6 0 0 1)) 6 (Int32.toNatClampNeg x4))))] [] r0.2).bind fun r1 =>
if x3 < (if r1.1 < r0.1 then r1.1 else r0.1) then
(ex (d + 1) 117 8 [some (vr 6 0 0), some (vi x1), some (vi x4), some (vi (if r1.1 < r0.1 then r1.1 else r0.1)), some (vi (x4 + (nI 1)))] [] r1.2)
else
(ex (d + 1) 117 8 [some (vr 6 0 0), some (vi x1), some (vi x2), some (vi x3), some (vi (x4 + (nI 1)))] [] r1.2))
else none)
else none)
else
(some (x2, O)) := (ex_un d 117 300 8 [some (vr 6 0 0), some (vi x1), some (vi x2), some (vi x3), some (vi x4)] [] O).trans rfl
set_option maxRecDepth 100000 in
theorem sX6_otherSound_0 (d : Nat) (O : Mem_) (x1 : Int32) (x2 : Int32) (x3 : Int32) : ex (d + 1) 118 0 [some (vr 6 0 0), some (vi x1), some (vi x2), some (vi x3)] [] O =
(ex d 53 0 [some (vr 4 (sel (O 6 0 0 1)) 0), some (vi x3)] [] O).bind fun r0 =>
if x2 = (nI 1) then
(if r0.1 = x1 then
(some ((oI none), r0.2))
else
(some ((-1), r0.2)))
else
(ex (d + 1) 118 31 [some (vr 6 0 0), some (vi x1), some (vi x2), some (vi x3), some (vi r0.1), some (vi (nI 0))] [] r0.2) := (ex_un d 118 300 0 [some (vr 6 0 0), some (vi x1), some (vi x2), some (vi x3)] [] O).trans rfl
set_option maxRecDepth 100000 in
theorem sX6_otherSound_31 (d : Nat) (O : Mem_) (x1 : Int32) (x2 : Int32) (x3 : Int32) (x4 : Int32) (x5 : Int32) : ex (d + 1) 118 31 [some (vr 6 0 0), some (vi x1), some (vi x2), some (vi x3), some (vi x4), some (vi x5)] [] O =
if x5 < (O 4 (sel (O 6 0 0 1)) 0 2) then
((ex d 53 0 [some (vr 4 (sel (O 6 0 0 1)) 0), some (vi x5)] [] O).bind fun r0 =>
if x2 = (nI 2) then
(ex (d + 1) 118 74 [some (vr 6 0 0), some (vi x1), some (vi x2), some (vi x3), some (vi x4), some (vi x5)] [vi (x4 &&& r0.1)] r0.2)
else
(ex (d + 1) 118 74 [some (vr 6 0 0), some (vi x1), some (vi x2), some (vi x3), some (vi x4), some (vi x5)] [vi (x4 &&& (r0.1 ^^^ (-1)))] r0.2))
else
(some ((-1), O)) := (ex_un d 118 300 31 [some (vr 6 0 0), some (vi x1), some (vi x2), some (vi x3), some (vi x4), some (vi x5)] [] O).trans rfl
set_option maxRecDepth 100000 in
theorem sX6_otherSound_74 (d : Nat) (O : Mem_) (x1 : Int32) (x2 : Int32) (x3 : Int32) (x4 : Int32) (x5 : Int32) (y0 : Int32) : ex (d + 1) 118 74 [some (vr 6 0 0), some (vi x1), some (vi x2), some (vi x3), some (vi x4), some (vi x5)] [vi y0] O =
if x5 = x3 then
(ex (d + 1) 118 31 [some (vr 6 0 0), some (vi x1), some (vi x2), some (vi x3), some (vi x4), some (vi (x5 + (nI 1)))] [] O)
else
(if y0 = x1 then
(some (x5, O))
else
(ex (d + 1) 118 31 [some (vr 6 0 0), some (vi x1), some (vi x2), some (vi x3), some (vi x4), some (vi (x5 + (nI 1)))] [] O)) := (ex_un d 118 300 74 [some (vr 6 0 0), some (vi x1), some (vi x2), some (vi x3), some (vi x4), some (vi x5)] [vi y0] O).trans rfl
set_option maxRecDepth 100000 in
theorem sX6_firstWrongRead_0 (d : Nat) (O : Mem_) (x1 : Int32) (x2 : Int32) (x3 : Int32) : ex (d + 1) 119 0 [some (vr 6 0 0), some (vi x1), some (vi x2), some (vi x3)] [] O =
ex (d + 1) 119 3 [some (vr 6 0 0), some (vi x1), some (vi x2), some (vi x3), some (vi (nI 0))] [] O := (ex_un d 119 300 0 [some (vr 6 0 0), some (vi x1), some (vi x2), some (vi x3)] [] O).trans rfl
set_option maxRecDepth 100000 in
theorem sX6_firstWrongRead_3 (d : Nat) (O : Mem_) (x1 : Int32) (x2 : Int32) (x3 : Int32) (x4 : Int32) : ex (d + 1) 119 3 [some (vr 6 0 0), some (vi x1), some (vi x2), some (vi x3), some (vi x4)] [] O =
if x4 < x3 then
((ex d 19 0 [some (vr 2 0 0), some (vi x1), some (vi ((x2 + ((nI 3) * x4)) + (nI 2)))] [] O).bind fun r0 =>
(ex d 19 0 [some (vr 2 0 0), some (vi x1), some (vi (x2 + ((nI 3) * x4)))] [] r0.2).bind fun r1 =>
(ex d 45 0 [some (vr 4 (sel (r0.2 6 0 0 1)) 0), some (vi r1.1)] [] r1.2).bind fun r2 =>
if r2.1 = nI 0 then
(ex (d + 1) 119 78 [some (vr 6 0 0), some (vi x1), some (vi x2), some (vi x3), some (vi x4), none, some (vi r0.1)] [vi (nI 0)] r2.2)
else
((ex d 19 0 [some (vr 2 0 0), some (vi x1), some (vi ((x2 + ((nI 3) * x4)) + (nI 1)))] [] r2.2).bind fun r3 =>
(ex d 43 0 [some (vr 4 (sel (r2.2 6 0 0 1)) 0), some (vi r3.1)] [] r3.2).bind fun r4 =>
if r4.1 = nI 0 then
(ex (d + 1) 119 78 [some (vr 6 0 0), some (vi x1), some (vi x2), some (vi x3), some (vi x4), none, some (vi r0.1)] [vi (nI 0)] r4.2)
else
(ex (d + 1) 119 78 [some (vr 6 0 0), some (vi x1), some (vi x2), some (vi x3), some (vi x4), none, some (vi r0.1)] [vi (nI 1)] r4.2)))
else
(some ((nI 0), O)) := (ex_un d 119 300 3 [some (vr 6 0 0), some (vi x1), some (vi x2), some (vi x3), some (vi x4)] [] O).trans rfl
set_option maxRecDepth 100000 in
theorem sX6_firstWrongRead_78 (d : Nat) (O : Mem_) (x1 : Int32) (x2 : Int32) (x3 : Int32) (x4 : Int32) (x6 : Int32) (y0 : Int32) : ex (d + 1) 119 78 [some (vr 6 0 0), some (vi x1), some (vi x2), some (vi x3), some (vi x4), none, some (vi x6)] [vi y0] O =
if y0 = nI 0 then
(some (((-20) - x4), O))
else
(if x6 = nI 0 then
(ex (d + 1) 119 102 [some (vr 6 0 0), some (vi x1), some (vi x2), some (vi x3), some (vi x4)] [] O)
else
(if x6 = (nI 1) then
(ex (d + 1) 119 102 [some (vr 6 0 0), some (vi x1), some (vi x2), some (vi x3), some (vi x4)] [] O)
else
(some (((-20) - x4), O)))) := (ex_un d 119 300 78 [some (vr 6 0 0), some (vi x1), some (vi x2), some (vi x3), some (vi x4), none, some (vi x6)] [vi y0] O).trans rfl
set_option maxRecDepth 100000 in
theorem sX6_firstWrongRead_102 (d : Nat) (O : Mem_) (x1 : Int32) (x2 : Int32) (x3 : Int32) (x4 : Int32) : ex (d + 1) 119 102 [some (vr 6 0 0), some (vi x1), some (vi x2), some (vi x3), some (vi x4)] [] O =
if ((O 1 0 0 0) + x4) < (nI 24) then
(ex (d + 1) 119 3 [some (vr 6 0 0), some (vi x1), some (vi x2), some (vi x3), some (vi (x4 + (nI 1)))] [] O)
else
(some ((-3), O)) := (ex_un d 119 300 102 [some (vr 6 0 0), some (vi x1), some (vi x2), some (vi x3), some (vi x4)] [] O).trans rfl
set_option maxRecDepth 100000 in
theorem sX6_imagesKept_0 (d : Nat) (O : Mem_)  : ex (d + 1) 120 0 [some (vr 6 0 0)] [] O =
ex (d + 1) 120 4 [some (vr 6 0 0), some (vi (nI 0)), some (vi (nI 0))] [] O := (ex_un d 120 300 0 [some (vr 6 0 0)] [] O).trans rfl
set_option maxRecDepth 100000 in
theorem sX6_imagesKept_4 (d : Nat) (O : Mem_) (x1 : Int32) (x2 : Int32) : ex (d + 1) 120 4 [some (vr 6 0 0), some (vi x1), some (vi x2)] [] O =
if x2 < (nI 2) then
(if ib x2 2 then
(if (O 1 (1 + (Int32.toNatClampNeg x2)) 0 8) = nI 0 then
(ex (d + 1) 120 4 [some (vr 6 0 0), some (vi x1), some (vi (x2 + (nI 1)))] [] O)
else
(ex (d + 1) 120 4 [some (vr 6 0 0), some (vi (x1 + (nI 1))), some (vi (x2 + (nI 1)))] [] O))
else none)
else
(some (x1, O)) := (ex_un d 120 300 4 [some (vr 6 0 0), some (vi x1), some (vi x2)] [] O).trans rfl
end
section
set_option maxRecDepth 100000 in
theorem sX7_in_0 (d : Nat) (O : Mem_) (x0 : Int64) (x2 : Int64) (x4 : Int64) : ex (d + 1) 121 0 [some (vl x0), none, some (vl x2), none, some (vl x4), none] [] O =
if (lg_cmp x0 x2) < nI 0 then
(some ((nI 0), O))
else
(if nI 0 < (lg_cmp x0 x4) then
(some ((nI 0), O))
else
(some ((nI 1), O))) := (ex_un d 121 300 0 [some (vl x0), none, some (vl x2), none, some (vl x4), none] [] O).trans rfl
set_option maxRecDepth 100000 in
theorem sX7_flag_0 (d : Nat) (O : Mem_) (x0 : Int32) : ex (d + 1) 122 0 [some (vi x0)] [] O =
if x0 = nI 0 then
(some ((nI 0), O))
else
(some ((nI 1), O)) := (ex_un d 122 300 0 [some (vi x0)] [] O).trans rfl
set_option maxRecDepth 100000 in
theorem sX7_countOf_0 (d : Nat) (O : Mem_) (x0 : Int32) : ex (d + 1) 123 0 [some (vi x0)] [] O =
ex (d + 1) 123 4 [some (vi x0), some (vi (nI 0)), some (vi (nI 0))] [] O := (ex_un d 123 300 0 [some (vi x0)] [] O).trans rfl
set_option maxRecDepth 100000 in
theorem sX7_countOf_4 (d : Nat) (O : Mem_) (x0 : Int32) (x1 : Int32) (x2 : Int32) : ex (d + 1) 123 4 [some (vi x0), some (vi x1), some (vi x2)] [] O =
if x2 < (nI 16) then
(ex (d + 1) 123 4 [some (vi x0), some (vi (x1 + ((x0 >>> (x2 &&& (31:Int32))) &&& (nI 1)))), some (vi (x2 + (nI 1)))] [] O)
else
(some (x1, O)) := (ex_un d 123 300 4 [some (vi x0), some (vi x1), some (vi x2)] [] O).trans rfl
set_option maxRecDepth 100000 in
theorem sX7_firstDraft_0 (d : Nat) (O : Mem_)  : ex (d + 1) 124 0 [some (vr 7 0 0)] [] O =
some (nI 0, (up (up (up (up O 7 0 0 9 (nI 0)) 7 0 0 11 (nI 0)) 7 0 0 14 (nI 0)) 7 0 0 16 (nI 0))) := (ex_un d 124 300 0 [some (vr 7 0 0)] [] O).trans rfl
set_option maxRecDepth 100000 in
theorem sX7_keepDraft_0 (d : Nat) (O : Mem_)  : ex (d + 1) 125 0 [some (vr 7 0 0)] [] O =
ex (d + 1) 125 34 [some (vr 7 0 0), some (vi (nI 0))] [] (up (up (up (up O 7 0 0 0 (O 7 0 0 9)) 7 0 0 2 ((up O 7 0 0 0 (O 7 0 0 9)) 7 0 0 11)) 7 0 0 5 ((up (up O 7 0 0 0 (O 7 0 0 9)) 7 0 0 2 ((up O 7 0 0 0 (O 7 0 0 9)) 7 0 0 11)) 7 0 0 14)) 7 0 0 7 ((up (up (up O 7 0 0 0 (O 7 0 0 9)) 7 0 0 2 ((up O 7 0 0 0 (O 7 0 0 9)) 7 0 0 11)) 7 0 0 5 ((up (up O 7 0 0 0 (O 7 0 0 9)) 7 0 0 2 ((up O 7 0 0 0 (O 7 0 0 9)) 7 0 0 11)) 7 0 0 14)) 7 0 0 16)) := (ex_un d 125 300 0 [some (vr 7 0 0)] [] O).trans rfl
set_option maxRecDepth 100000 in
theorem sX7_keepDraft_34 (d : Nat) (O : Mem_) (x1 : Int32) : ex (d + 1) 125 34 [some (vr 7 0 0), some (vi x1)] [] O =
if x1 < (nI 8) then
(if ib x1 8 then
(if ib x1 8 then
(ex (d + 1) 125 34 [some (vr 7 0 0), some (vi (x1 + (nI 1)))] [] (up O 7 0 2 (Int32.toNatClampNeg x1) (O 7 0 11 (Int32.toNatClampNeg x1))))
else none)
else none)
else
(ex (d + 1) 125 60 [some (vr 7 0 0), some (vi (nI 0))] [] O) := (ex_un d 125 300 34 [some (vr 7 0 0), some (vi x1)] [] O).trans rfl
set_option maxRecDepth 100000 in
theorem sX7_keepDraft_60 (d : Nat) (O : Mem_) (x1 : Int32) : ex (d + 1) 125 60 [some (vr 7 0 0), some (vi x1)] [] O =
if x1 < (nI 12) then
(if ib x1 12 then
(if ib x1 12 then
(if ib x1 12 then
(if ib x1 12 then
(if ib x1 12 then
(ex (d + 1) 125 99 [some (vr 7 0 0), some (vi x1), some (vi (nI 0))] [] (up (up (up O 7 0 4 (Int32.toNatClampNeg x1) (O 7 0 13 (Int32.toNatClampNeg x1))) 7 0 5 (Int32.toNatClampNeg x1) ((up O 7 0 4 (Int32.toNatClampNeg x1) (O 7 0 13 (Int32.toNatClampNeg x1))) 7 0 14 (Int32.toNatClampNeg x1))) 7 0 19 (Int32.toNatClampNeg x1) (nI 0)))
else none)
else none)
else none)
else none)
else none)
else
(ex (d + 1) 125 175 [some (vr 7 0 0), some (vi (nI 0))] [] O) := (ex_un d 125 300 60 [some (vr 7 0 0), some (vi x1)] [] O).trans rfl
set_option maxRecDepth 100000 in
theorem sX7_keepDraft_99 (d : Nat) (O : Mem_) (x1 : Int32) (x2 : Int32) : ex (d + 1) 125 99 [some (vr 7 0 0), some (vi x1), some (vi x2)] [] O =
if x2 < (O 7 0 0 0) then
(if ib x1 12 then
(if ib x2 8 then
(if ib x1 12 then
(if ib x1 12 then
(if ((O 7 0 2 (Int32.toNatClampNeg x2)) &&& (O 7 0 4 (Int32.toNatClampNeg x1))) = (O 7 0 4 (Int32.toNatClampNeg x1)) then
(if ib x2 8 then
(if ib x1 12 then
(if ((O 7 0 2 (Int32.toNatClampNeg x2)) &&& (O 7 0 5 (Int32.toNatClampNeg x1))) = nI 0 then
(if ib x1 12 then
(ex (d + 1) 125 99 [some (vr 7 0 0), some (vi x1), some (vi (x2 + (nI 1)))] [] (up O 7 0 19 (Int32.toNatClampNeg x1) ((O 7 0 19 (Int32.toNatClampNeg x1)) ||| ((nI 1) <<< (x2 &&& (31:Int32))))))
else none)
else
(if ib x1 12 then
(ex (d + 1) 125 99 [some (vr 7 0 0), some (vi x1), some (vi (x2 + (nI 1)))] [] (up O 7 0 19 (Int32.toNatClampNeg x1) ((O 7 0 19 (Int32.toNatClampNeg x1)) ||| (nI 0))))
else none))
else none)
else none)
else
(if ib x1 12 then
(ex (d + 1) 125 99 [some (vr 7 0 0), some (vi x1), some (vi (x2 + (nI 1)))] [] (up O 7 0 19 (Int32.toNatClampNeg x1) ((O 7 0 19 (Int32.toNatClampNeg x1)) ||| (nI 0))))
else none))
else none)
else none)
else none)
else none)
else
(ex (d + 1) 125 60 [some (vr 7 0 0), some (vi (x1 + (nI 1)))] [] O) := (ex_un d 125 300 99 [some (vr 7 0 0), some (vi x1), some (vi x2)] [] O).trans rfl
set_option maxRecDepth 100000 in
theorem sX7_keepDraft_175 (d : Nat) (O : Mem_) (x1 : Int32) : ex (d + 1) 125 175 [some (vr 7 0 0), some (vi x1)] [] O =
if x1 < (nI 4) then
(if ib x1 4 then
(if ib x1 4 then
(ex (d + 1) 125 175 [some (vr 7 0 0), some (vi (x1 + (nI 1)))] [] (up O 7 0 7 (Int32.toNatClampNeg x1) (O 7 0 16 (Int32.toNatClampNeg x1))))
else none)
else none)
else
(ex (d + 1) 125 200 [some (vr 7 0 0), some (vi (nI 0))] [] O) := (ex_un d 125 300 175 [some (vr 7 0 0), some (vi x1)] [] O).trans rfl
set_option maxRecDepth 100000 in
theorem sX7_keepDraft_200 (d : Nat) (O : Mem_) (x1 : Int32) : ex (d + 1) 125 200 [some (vr 7 0 0), some (vi x1)] [] O =
if x1 < (nI 30) then
(if ib x1 30 then
(if ib x1 30 then
(ex (d + 1) 125 200 [some (vr 7 0 0), some (vi (x1 + (nI 1)))] [] (up O 7 0 9 (Int32.toNatClampNeg x1) (O 7 0 18 (Int32.toNatClampNeg x1))))
else none)
else none)
else
(if ib (nI 0) 2 then
(if ib (nI 1) 2 then
((ex d 162 0 [some (vr 7 0 0)] [] (up (up (up (up (up O 7 0 0 28 (nI 0)) 7 0 0 33 (((nI 1) <<< (((up O 7 0 0 28 (nI 0)) 7 0 0 7) &&& (31:Int32))) - (nI 1))) 7 0 0 34 (nI 0)) 7 0 38 (Int32.toNatClampNeg (nI 0)) (nI 0)) 7 0 38 (Int32.toNatClampNeg (nI 1)) (nI 0))).bind fun r0 =>
some (nI 0, r0.2))
else none)
else none) := (ex_un d 125 300 200 [some (vr 7 0 0), some (vi x1)] [] O).trans rfl
set_option maxRecDepth 100000 in
theorem sX7_feed_0 (d : Nat) (O : Mem_) (x1 : Int64) : ex (d + 1) 126 0 [some (vr 7 0 0), some (vl x1), none] [] O =
if (nI 400) < ((O 7 0 0 20) + (nI 8)) then
(some ((-3), O))
else
(ex (d + 1) 126 19 [some (vr 7 0 0), some (vl x1), none, some (vi (nI 56))] [] O) := (ex_un d 126 300 0 [some (vr 7 0 0), some (vl x1), none] [] O).trans rfl
set_option maxRecDepth 100000 in
theorem sX7_feed_19 (d : Nat) (O : Mem_) (x1 : Int64) (x3 : Int32) : ex (d + 1) 126 19 [some (vr 7 0 0), some (vl x1), none, some (vi x3)] [] O =
if x3 < nI 0 then
(some ((O 7 0 0 20), O))
else
(if ib (O 7 0 0 20) 400 then
(ex (d + 1) 126 19 [some (vr 7 0 0), some (vl x1), none, some (vi (x3 + (-8)))] [] (up (up O 7 0 20 (Int32.toNatClampNeg (O 7 0 0 20)) (Int64.toInt32 ((x1 >>> (Int32.toInt64 x3 &&& 63)) &&& (255)))) 7 0 0 20 (((up O 7 0 20 (Int32.toNatClampNeg (O 7 0 0 20)) (Int64.toInt32 ((x1 >>> (Int32.toInt64 x3 &&& 63)) &&& (255)))) 7 0 0 20) + (nI 1))))
else none) := (ex_un d 126 300 19 [some (vr 7 0 0), some (vl x1), none, some (vi x3)] [] O).trans rfl
set_option maxRecDepth 100000 in
theorem sX7_end_0 (d : Nat) (O : Mem_) (x1 : Int32) : ex (d + 1) 127 0 [some (vr 7 0 0), some (vi x1)] [] O =
(ex d 121 0 [some (vl (Int32.toInt64 x1)), none, some (vl 0), none, some (vl (Int32.toInt64 (O 7 0 0 20))), none] [] O).bind fun r0 =>
if r0.1 = nI 0 then
(some ((-1), r0.2))
else
(some ((r0.2 7 0 0 20), (up r0.2 7 0 0 20 x1))) := (ex_un d 127 300 0 [some (vr 7 0 0), some (vi x1)] [] O).trans rfl
set_option maxRecDepth 100000 in
theorem sX7_needs_0 (d : Nat) (O : Mem_) (x1 : Int32) (x2 : Int32) : ex (d + 1) 128 0 [some (vr 7 0 0), some (vi x1), some (vi x2)] [] O =
if x1 = nI 0 then
(if (O 7 0 0 25) = nI 0 then
(some (nI 0, (up (up O 7 0 0 25 x2) 7 0 0 26 ((up O 7 0 0 25 x2) 7 0 0 22))))
else
(some (nI 0, O)))
else
(some (nI 0, O)) := (ex_un d 128 300 0 [some (vr 7 0 0), some (vi x1), some (vi x2)] [] O).trans rfl
set_option maxRecDepth 100000 in
theorem sX7_look_0 (d : Nat) (O : Mem_) (x1 : Int32) : ex (d + 1) 129 0 [some (vr 7 0 0), some (vi x1)] [] O =
if x1 < (O 7 0 0 20) then
(if ib x1 400 then
(some ((O 7 0 20 (Int32.toNatClampNeg x1)), O))
else none)
else
(some ((-1), O)) := (ex_un d 129 300 0 [some (vr 7 0 0), some (vi x1)] [] O).trans rfl
set_option maxRecDepth 100000 in
theorem sX7_is_0 (d : Nat) (O : Mem_) (x1 : Int32) (x2 : Int32) (x3 : Int32) (x4 : Int32) (x5 : Int32) : ex (d + 1) 130 0 [some (vr 7 0 0), some (vi x1), some (vi x2), some (vi x3), some (vi x4), some (vi x5)] [] O =
if ((O 7 0 0 21) - (O 7 0 0 22)) = x1 then
((ex d 129 0 [some (vr 7 0 0), some (vi (O 7 0 0 22))] [] O).bind fun r0 =>
if r0.1 = x2 then
((ex d 129 0 [some (vr 7 0 0), some (vi ((r0.2 7 0 0 22) + (nI 1)))] [] r0.2).bind fun r1 =>
if r1.1 = x3 then
((ex d 129 0 [some (vr 7 0 0), some (vi ((r1.2 7 0 0 22) + (nI 2)))] [] r1.2).bind fun r2 =>
if r2.1 = x4 then
(if x1 < (nI 4) then
(some ((nI 1), r2.2))
else
((ex d 129 0 [some (vr 7 0 0), some (vi ((r2.2 7 0 0 22) + (nI 3)))] [] r2.2).bind fun r3 =>
if r3.1 = x5 then
(some ((nI 1), r3.2))
else
(some ((nI 0), r3.2))))
else
(some ((nI 0), r2.2)))
else
(some ((nI 0), r1.2)))
else
(some ((nI 0), r0.2)))
else
(some ((nI 0), O)) := (ex_un d 130 300 0 [some (vr 7 0 0), some (vi x1), some (vi x2), some (vi x3), some (vi x4), some (vi x5)] [] O).trans rfl
set_option maxRecDepth 100000 in
theorem sX7_goesOn_0 (d : Nat) (O : Mem_) (x1 : Int32) (x2 : Int32) (x3 : Int32) : ex (d + 1) 131 0 [some (vr 7 0 0), some (vi x1), some (vi x2), some (vi x3)] [] O =
(ex d 129 0 [some (vr 7 0 0), some (vi ((O 7 0 0 22) + (nI 4)))] [] O).bind fun r0 =>
if r0.1 = x1 then
(if x2 = nI 0 then
(ex (d + 1) 131 32 [some (vr 7 0 0), none, none, some (vi x3)] [] r0.2)
else
((ex d 129 0 [some (vr 7 0 0), some (vi ((r0.2 7 0 0 22) + (nI 5)))] [] r0.2).bind fun r1 =>
if r1.1 = x2 then
(ex (d + 1) 131 32 [some (vr 7 0 0), none, none, some (vi x3)] [] r1.2)
else
(some ((nI 0), r1.2))))
else
(some ((nI 0), r0.2)) := (ex_un d 131 300 0 [some (vr 7 0 0), some (vi x1), some (vi x2), some (vi x3)] [] O).trans rfl
set_option maxRecDepth 100000 in
theorem sX7_goesOn_32 (d : Nat) (O : Mem_) (x3 : Int32) : ex (d + 1) 131 32 [some (vr 7 0 0), none, none, some (vi x3)] [] O =
if x3 = nI 0 then
(some ((nI 1), O))
else
((ex d 129 0 [some (vr 7 0 0), some (vi ((O 7 0 0 22) + (nI 6)))] [] O).bind fun r0 =>
if r0.1 = x3 then
(some ((nI 1), r0.2))
else
(some ((nI 0), r0.2))) := (ex_un d 131 300 32 [some (vr 7 0 0), none, none, some (vi x3)] [] O).trans rfl
set_option maxRecDepth 100000 in
theorem sX7_kindNow_0 (d : Nat) (O : Mem_)  : ex (d + 1) 132 0 [some (vr 7 0 0)] [] O =
(ex d 130 0 [some (vr 7 0 0), some (vi (nI 5)), some (vi (nI 112)), some (vi (nI 108)), some (vi (nI 97)), some (vi (nI 105))] [] O).bind fun r0 =>
if r0.1 = nI 0 then
(ex (d + 1) 132 29 [some (vr 7 0 0)] [] r0.2)
else
((ex d 131 0 [some (vr 7 0 0), some (vi (nI 110)), some (vi (nI 0)), some (vi (nI 0))] [] r0.2).bind fun r1 =>
if r1.1 = nI 0 then
(ex (d + 1) 132 29 [some (vr 7 0 0)] [] r1.2)
else
(some ((nI 0), r1.2))) := (ex_un d 132 300 0 [some (vr 7 0 0)] [] O).trans rfl
set_option maxRecDepth 100000 in
theorem sX7_kindNow_29 (d : Nat) (O : Mem_)  : ex (d + 1) 132 29 [some (vr 7 0 0)] [] O =
(ex d 130 0 [some (vr 7 0 0), some (vi (nI 4)), some (vi (nI 108)), some (vi (nI 97)), some (vi (nI 115)), some (vi (nI 116))] [] O).bind fun r0 =>
if r0.1 = nI 0 then
((ex d 130 0 [some (vr 7 0 0), some (vi (nI 7)), some (vi (nI 99)), some (vi (nI 97)), some (vi (nI 114)), some (vi (nI 101))] [] r0.2).bind fun r1 =>
if r1.1 = nI 0 then
(ex (d + 1) 132 79 [some (vr 7 0 0)] [] r1.2)
else
((ex d 131 0 [some (vr 7 0 0), some (vi (nI 102)), some (vi (nI 117)), some (vi (nI 108))] [] r1.2).bind fun r2 =>
if r2.1 = nI 0 then
(ex (d + 1) 132 79 [some (vr 7 0 0)] [] r2.2)
else
(some ((nI 2), r2.2))))
else
(some ((nI 1), r0.2)) := (ex_un d 132 300 29 [some (vr 7 0 0)] [] O).trans rfl
set_option maxRecDepth 100000 in
theorem sX7_kindNow_79 (d : Nat) (O : Mem_)  : ex (d + 1) 132 79 [some (vr 7 0 0)] [] O =
(ex d 130 0 [some (vr 7 0 0), some (vi (nI 5)), some (vi (nI 112)), some (vi (nI 114)), some (vi (nI 111)), some (vi (nI 117))] [] O).bind fun r0 =>
if r0.1 = nI 0 then
(some ((oI none), r0.2))
else
((ex d 131 0 [some (vr 7 0 0), some (vi (nI 100)), some (vi (nI 0)), some (vi (nI 0))] [] r0.2).bind fun r1 =>
if r1.1 = nI 0 then
(some ((oI none), r1.2))
else
(some ((nI 3), r1.2))) := (ex_un d 132 300 79 [some (vr 7 0 0)] [] O).trans rfl
set_option maxRecDepth 100000 in
theorem sX7_nameNow_0 (d : Nat) (O : Mem_)  : ex (d + 1) 133 0 [some (vr 7 0 0)] [] O =
(ex d 132 0 [some (vr 7 0 0)] [] O).bind fun r0 =>
if r0.1 = (oI none) then
((ex d 130 0 [some (vr 7 0 0), some (vi (nI 5)), some (vi (nI 116)), some (vi (nI 104)), some (vi (nI 105)), some (vi (nI 110))] [] r0.2).bind fun r1 =>
if r1.1 = nI 0 then
(ex (d + 1) 133 44 [some (vr 7 0 0)] [] r1.2)
else
((ex d 131 0 [some (vr 7 0 0), some (vi (nI 103)), some (vi (nI 0)), some (vi (nI 0))] [] r1.2).bind fun r2 =>
if r2.1 = nI 0 then
(ex (d + 1) 133 44 [some (vr 7 0 0)] [] r2.2)
else
(some ((nI 10), r2.2))))
else
((ex d 132 0 [some (vr 7 0 0)] [] r0.2).bind fun r3 =>
some (r3.1, r3.2)) := (ex_un d 133 300 0 [some (vr 7 0 0)] [] O).trans rfl
set_option maxRecDepth 100000 in
theorem sX7_nameNow_44 (d : Nat) (O : Mem_)  : ex (d + 1) 133 44 [some (vr 7 0 0)] [] O =
(ex d 130 0 [some (vr 7 0 0), some (vi (nI 5)), some (vi (nI 109)), some (vi (nI 101)), some (vi (nI 97)), some (vi (nI 110))] [] O).bind fun r0 =>
if r0.1 = nI 0 then
(ex (d + 1) 133 74 [some (vr 7 0 0)] [] r0.2)
else
((ex d 131 0 [some (vr 7 0 0), some (vi (nI 115)), some (vi (nI 0)), some (vi (nI 0))] [] r0.2).bind fun r1 =>
if r1.1 = nI 0 then
(ex (d + 1) 133 74 [some (vr 7 0 0)] [] r1.2)
else
(some ((nI 11), r1.2))) := (ex_un d 133 300 44 [some (vr 7 0 0)] [] O).trans rfl
set_option maxRecDepth 100000 in
theorem sX7_nameNow_74 (d : Nat) (O : Mem_)  : ex (d + 1) 133 74 [some (vr 7 0 0)] [] O =
(ex d 130 0 [some (vr 7 0 0), some (vi (nI 4)), some (vi (nI 119)), some (vi (nI 111)), some (vi (nI 114)), some (vi (nI 100))] [] O).bind fun r0 =>
if r0.1 = nI 0 then
((ex d 130 0 [some (vr 7 0 0), some (vi (nI 3)), some (vi (nI 110)), some (vi (nI 111)), some (vi (nI 116)), some (vi (nI 0))] [] r0.2).bind fun r1 =>
if r1.1 = nI 0 then
((ex d 130 0 [some (vr 7 0 0), some (vi (nI 4)), some (vi (nI 115)), some (vi (nI 101)), some (vi (nI 101)), some (vi (nI 115))] [] r1.2).bind fun r2 =>
if r2.1 = nI 0 then
((ex d 130 0 [some (vr 7 0 0), some (vi (nI 5)), some (vi (nI 102)), some (vi (nI 101)), some (vi (nI 97)), some (vi (nI 114))] [] r2.2).bind fun r3 =>
if r3.1 = nI 0 then
(ex (d + 1) 133 160 [some (vr 7 0 0)] [] r3.2)
else
((ex d 131 0 [some (vr 7 0 0), some (vi (nI 115)), some (vi (nI 0)), some (vi (nI 0))] [] r3.2).bind fun r4 =>
if r4.1 = nI 0 then
(ex (d + 1) 133 160 [some (vr 7 0 0)] [] r4.2)
else
(some ((nI 15), r4.2))))
else
(some ((nI 14), r2.2)))
else
(some ((nI 13), r1.2)))
else
(some ((nI 12), r0.2)) := (ex_un d 133 300 74 [some (vr 7 0 0)] [] O).trans rfl
set_option maxRecDepth 100000 in
theorem sX7_nameNow_160 (d : Nat) (O : Mem_)  : ex (d + 1) 133 160 [some (vr 7 0 0)] [] O =
(ex d 130 0 [some (vr 7 0 0), some (vi (nI 6)), some (vi (nI 117)), some (vi (nI 110)), some (vi (nI 108)), some (vi (nI 105))] [] O).bind fun r0 =>
if r0.1 = nI 0 then
(ex (d + 1) 133 192 [some (vr 7 0 0)] [] r0.2)
else
((ex d 131 0 [some (vr 7 0 0), some (vi (nI 107)), some (vi (nI 101)), some (vi (nI 0))] [] r0.2).bind fun r1 =>
if r1.1 = nI 0 then
(ex (d + 1) 133 192 [some (vr 7 0 0)] [] r1.2)
else
(some ((nI 16), r1.2))) := (ex_un d 133 300 160 [some (vr 7 0 0)] [] O).trans rfl
set_option maxRecDepth 100000 in
theorem sX7_nameNow_192 (d : Nat) (O : Mem_)  : ex (d + 1) 133 192 [some (vr 7 0 0)] [] O =
(ex d 130 0 [some (vr 7 0 0), some (vi (nI 6)), some (vi (nI 99)), some (vi (nI 104)), some (vi (nI 97)), some (vi (nI 110))] [] O).bind fun r0 =>
if r0.1 = nI 0 then
(some ((oI none), r0.2))
else
((ex d 131 0 [some (vr 7 0 0), some (vi (nI 99)), some (vi (nI 101)), some (vi (nI 0))] [] r0.2).bind fun r1 =>
if r1.1 = nI 0 then
(some ((oI none), r1.2))
else
(some ((nI 17), r1.2))) := (ex_un d 133 300 192 [some (vr 7 0 0)] [] O).trans rfl
set_option maxRecDepth 100000 in
theorem sX7_next_0 (d : Nat) (O : Mem_)  : ex (d + 1) 134 0 [some (vr 7 0 0)] [] O =
if nI 0 < (O 7 0 0 25) then
(some (nI 0, O))
else
(ex (d + 1) 134 8 [some (vr 7 0 0)] [] O) := (ex_un d 134 300 0 [some (vr 7 0 0)] [] O).trans rfl
set_option maxRecDepth 100000 in
theorem sX7_next_8 (d : Nat) (O : Mem_)  : ex (d + 1) 134 8 [some (vr 7 0 0)] [] O =
(ex d 129 0 [some (vr 7 0 0), some (vi (O 7 0 0 21))] [] O).bind fun r0 =>
if r0.1 = (nI 32) then
(ex (d + 1) 134 8 [some (vr 7 0 0)] [] (up r0.2 7 0 0 21 ((r0.2 7 0 0 21) + (nI 1))))
else
((ex d 129 0 [some (vr 7 0 0), some (vi ((up r0.2 7 0 0 22 (r0.2 7 0 0 21)) 7 0 0 21))] [] (up r0.2 7 0 0 22 (r0.2 7 0 0 21))).bind fun r1 =>
if r1.1 < nI 0 then
(some (nI 0, (up r1.2 7 0 0 23 (nI 0))))
else
((ex d 121 0 [some (vl (Int32.toInt64 r1.1)), none, some (vl (97)), none, some (vl (122)), none] [] r1.2).bind fun r2 =>
if r2.1 = nI 0 then
((ex d 121 0 [some (vl (Int32.toInt64 r1.1)), none, some (vl (48)), none, some (vl (57)), none] [] r2.2).bind fun r3 =>
if r3.1 = nI 0 then
(if r1.1 = (nI 45) then
(ex (d + 1) 134 255 [some (vr 7 0 0), some (vi r1.1)] [vi (nI 4), vr 7 0 0] r3.2)
else
(ex (d + 1) 134 255 [some (vr 7 0 0), some (vi r1.1)] [vi (nI 3), vr 7 0 0] r3.2))
else
(ex (d + 1) 134 140 [some (vr 7 0 0)] [] (up (up r3.2 7 0 0 23 (nI 2)) 7 0 0 24 (nI 0))))
else
(ex (d + 1) 134 82 [some (vr 7 0 0)] [] (up r2.2 7 0 0 23 (nI 1))))) := (ex_un d 134 300 8 [some (vr 7 0 0)] [] O).trans rfl
set_option maxRecDepth 100000 in
theorem sX7_next_82 (d : Nat) (O : Mem_)  : ex (d + 1) 134 82 [some (vr 7 0 0)] [] O =
(ex d 129 0 [some (vr 7 0 0), some (vi (O 7 0 0 21))] [] O).bind fun r0 =>
(ex d 121 0 [some (vl (Int32.toInt64 r0.1)), none, some (vl (97)), none, some (vl (122)), none] [] r0.2).bind fun r1 =>
if r1.1 = nI 0 then
(some (nI 0, r1.2))
else
(ex (d + 1) 134 82 [some (vr 7 0 0)] [] (up r1.2 7 0 0 21 ((r1.2 7 0 0 21) + (nI 1)))) := (ex_un d 134 300 82 [some (vr 7 0 0)] [] O).trans rfl
set_option maxRecDepth 100000 in
theorem sX7_next_140 (d : Nat) (O : Mem_)  : ex (d + 1) 134 140 [some (vr 7 0 0)] [] O =
(ex d 129 0 [some (vr 7 0 0), some (vi (O 7 0 0 21))] [] O).bind fun r0 =>
(ex d 121 0 [some (vl (Int32.toInt64 r0.1)), none, some (vl (48)), none, some (vl (57)), none] [] r0.2).bind fun r1 =>
if r1.1 = nI 0 then
(if (nI 2) < ((r1.2 7 0 0 21) - (r1.2 7 0 0 22)) then
(ex (d + 1) 134 236 [] [vi (nI 0), vr 7 0 0] r1.2)
else
(ex (d + 1) 134 236 [] [vi (nI 1), vr 7 0 0] r1.2))
else
(if ((r1.2 7 0 0 21) - (r1.2 7 0 0 22)) < (nI 2) then
((ex d 129 0 [some (vr 7 0 0), some (vi (r1.2 7 0 0 21))] [] r1.2).bind fun r2 =>
ex (d + 1) 134 140 [some (vr 7 0 0)] [] (up (up r2.2 7 0 0 24 ((((nI 10) * (r1.2 7 0 0 24)) + r2.1) - (nI 48))) 7 0 0 21 (((up r2.2 7 0 0 24 ((((nI 10) * (r1.2 7 0 0 24)) + r2.1) - (nI 48))) 7 0 0 21) + (nI 1))))
else
(ex (d + 1) 134 140 [some (vr 7 0 0)] [] (up (up r1.2 7 0 0 24 (r1.2 7 0 0 24)) 7 0 0 21 (((up r1.2 7 0 0 24 (r1.2 7 0 0 24)) 7 0 0 21) + (nI 1))))) := (ex_un d 134 300 140 [some (vr 7 0 0)] [] O).trans rfl
set_option maxRecDepth 100000 in
theorem sX7_next_236 (d : Nat) (O : Mem_) (y0 : Int32) : ex (d + 1) 134 236 [] [vi y0, vr 7 0 0] O =
(ex d 128 0 [some (vr 7 0 0), some (vi y0), some (vi (nI 1))] [] O).bind fun r0 =>
some (nI 0, r0.2) := (ex_un d 134 300 236 [] [vi y0, vr 7 0 0] O).trans rfl
set_option maxRecDepth 100000 in
theorem sX7_next_255 (d : Nat) (O : Mem_) (x1 : Int32) (y0 : Int32) : ex (d + 1) 134 255 [some (vr 7 0 0), some (vi x1)] [vi y0, vr 7 0 0] O =
if x1 = (nI 59) then
(ex (d + 1) 134 276 [some (vr 7 0 0)] [vi (nI 1), vr 7 0 0] (up O 7 0 0 23 y0))
else
(if x1 = (nI 45) then
(ex (d + 1) 134 276 [some (vr 7 0 0)] [vi (nI 1), vr 7 0 0] (up O 7 0 0 23 y0))
else
(ex (d + 1) 134 276 [some (vr 7 0 0)] [vi (nI 0), vr 7 0 0] (up O 7 0 0 23 y0))) := (ex_un d 134 300 255 [some (vr 7 0 0), some (vi x1)] [vi y0, vr 7 0 0] O).trans rfl
set_option maxRecDepth 100000 in
theorem sX7_next_276 (d : Nat) (O : Mem_) (y0 : Int32) : ex (d + 1) 134 276 [some (vr 7 0 0)] [vi y0, vr 7 0 0] O =
(ex d 128 0 [some (vr 7 0 0), some (vi y0), some (vi (nI 1))] [] O).bind fun r0 =>
some (nI 0, (up r0.2 7 0 0 21 ((r0.2 7 0 0 21) + (nI 1)))) := (ex_un d 134 300 276 [some (vr 7 0 0)] [vi y0, vr 7 0 0] O).trans rfl
set_option maxRecDepth 100000 in
theorem sX7_readNumber_0 (d : Nat) (O : Mem_) (x1 : Int32) (x2 : Int32) : ex (d + 1) 135 0 [some (vr 7 0 0), some (vi x1), some (vi x2)] [] O =
if (O 7 0 0 25) = nI 0 then
(if (O 7 0 0 23) = (nI 2) then
((ex d 128 0 [some (vr 7 0 0), some (vi (nI 1)), some (vi (nI 2))] [] O).bind fun r0 =>
ex (d + 1) 135 25 [some (vr 7 0 0), some (vi x1), some (vi x2)] [] r0.2)
else
((ex d 128 0 [some (vr 7 0 0), some (vi (nI 0)), some (vi (nI 2))] [] O).bind fun r1 =>
ex (d + 1) 135 25 [some (vr 7 0 0), some (vi x1), some (vi x2)] [] r1.2))
else
(ex (d + 1) 135 25 [some (vr 7 0 0), some (vi x1), some (vi x2)] [] O) := (ex_un d 135 300 0 [some (vr 7 0 0), some (vi x1), some (vi x2)] [] O).trans rfl
set_option maxRecDepth 100000 in
theorem sX7_readNumber_25 (d : Nat) (O : Mem_) (x1 : Int32) (x2 : Int32) : ex (d + 1) 135 25 [some (vr 7 0 0), some (vi x1), some (vi x2)] [] O =
if (O 7 0 0 25) = nI 0 then
((ex d 121 0 [some (vl (Int32.toInt64 (O 7 0 0 24))), none, some (vl (Int32.toInt64 x1)), none, some (vl (Int32.toInt64 x2)), none] [] O).bind fun r0 =>
(ex d 128 0 [some (vr 7 0 0), some (vi r0.1), some (vi (nI 3))] [] r0.2).bind fun r1 =>
ex (d + 1) 135 49 [some (vr 7 0 0)] [] r1.2)
else
(ex (d + 1) 135 49 [some (vr 7 0 0)] [] O) := (ex_un d 135 300 25 [some (vr 7 0 0), some (vi x1), some (vi x2)] [] O).trans rfl
set_option maxRecDepth 100000 in
theorem sX7_readNumber_49 (d : Nat) (O : Mem_)  : ex (d + 1) 135 49 [some (vr 7 0 0)] [] O =
(ex d 134 0 [some (vr 7 0 0)] [] O).bind fun r0 =>
some ((O 7 0 0 24), r0.2) := (ex_un d 135 300 49 [some (vr 7 0 0)] [] O).trans rfl
set_option maxRecDepth 100000 in
theorem sX7_readMarks_0 (d : Nat) (O : Mem_) (x1 : Int32) : ex (d + 1) 136 0 [some (vr 7 0 0), some (vi x1)] [] O =
if (O 7 0 0 25) = nI 0 then
(if (O 7 0 0 23) = (nI 1) then
(ex (d + 1) 136 29 [some (vr 7 0 0), some (vi x1)] [vi (nI 1), vr 7 0 0] O)
else
(if (O 7 0 0 23) = (nI 4) then
(ex (d + 1) 136 29 [some (vr 7 0 0), some (vi x1)] [vi (nI 1), vr 7 0 0] O)
else
(ex (d + 1) 136 29 [some (vr 7 0 0), some (vi x1)] [vi (nI 0), vr 7 0 0] O)))
else
(ex (d + 1) 136 40 [some (vr 7 0 0), some (vi x1), some (vi (nI 0)), some (vi (O 7 0 0 22))] [] O) := (ex_un d 136 300 0 [some (vr 7 0 0), some (vi x1)] [] O).trans rfl
set_option maxRecDepth 100000 in
theorem sX7_readMarks_29 (d : Nat) (O : Mem_) (x1 : Int32) (y0 : Int32) : ex (d + 1) 136 29 [some (vr 7 0 0), some (vi x1)] [vi y0, vr 7 0 0] O =
(ex d 128 0 [some (vr 7 0 0), some (vi y0), some (vi (nI 2))] [] O).bind fun r0 =>
ex (d + 1) 136 40 [some (vr 7 0 0), some (vi x1), some (vi (nI 0)), some (vi (r0.2 7 0 0 22))] [] r0.2 := (ex_un d 136 300 29 [some (vr 7 0 0), some (vi x1)] [vi y0, vr 7 0 0] O).trans rfl
set_option maxRecDepth 100000 in
theorem sX7_readMarks_40 (d : Nat) (O : Mem_) (x1 : Int32) (x2 : Int32) (x3 : Int32) : ex (d + 1) 136 40 [some (vr 7 0 0), some (vi x1), some (vi x2), some (vi x3)] [] O =
if x3 < (O 7 0 0 21) then
(if (O 7 0 0 25) = nI 0 then
(if (O 7 0 0 23) = (nI 1) then
((ex d 129 0 [some (vr 7 0 0), some (vi x3)] [] O).bind fun r0 =>
(ex d 121 0 [some (vl (Int32.toInt64 (r0.1 - (nI 97)))), none, some (vl 0), none, some (vl (7)), none] [] r0.2).bind fun r1 =>
if r1.1 = nI 0 then
(ex (d + 1) 136 110 [some (vr 7 0 0), some (vi x1), some (vi x2), some (vi x3), some (vi (r0.1 - (nI 97)))] [vi (nI 0), vr 7 0 0] r1.2)
else
(if ((x2 >>> ((r0.1 - (nI 97)) &&& (31:Int32))) &&& (nI 1)) = nI 0 then
(if ((x1 >>> ((r0.1 - (nI 97)) &&& (31:Int32))) &&& (nI 1)) = nI 0 then
(ex (d + 1) 136 110 [some (vr 7 0 0), some (vi x1), some (vi x2), some (vi x3), some (vi (r0.1 - (nI 97)))] [vi (nI 1), vr 7 0 0] r1.2)
else
(ex (d + 1) 136 110 [some (vr 7 0 0), some (vi x1), some (vi x2), some (vi x3), some (vi (r0.1 - (nI 97)))] [vi (nI 0), vr 7 0 0] r1.2))
else
(ex (d + 1) 136 110 [some (vr 7 0 0), some (vi x1), some (vi x2), some (vi x3), some (vi (r0.1 - (nI 97)))] [vi (nI 0), vr 7 0 0] r1.2)))
else
(ex (d + 1) 136 138 [some (vr 7 0 0), none, some (vi x2)] [] O))
else
(ex (d + 1) 136 138 [some (vr 7 0 0), none, some (vi x2)] [] O))
else
(ex (d + 1) 136 138 [some (vr 7 0 0), none, some (vi x2)] [] O) := (ex_un d 136 300 40 [some (vr 7 0 0), some (vi x1), some (vi x2), some (vi x3)] [] O).trans rfl
set_option maxRecDepth 100000 in
theorem sX7_readMarks_110 (d : Nat) (O : Mem_) (x1 : Int32) (x2 : Int32) (x3 : Int32) (x4 : Int32) (y0 : Int32) : ex (d + 1) 136 110 [some (vr 7 0 0), some (vi x1), some (vi x2), some (vi x3), some (vi x4)] [vi y0, vr 7 0 0] O =
(ex d 128 0 [some (vr 7 0 0), some (vi y0), some (vi (nI 3))] [] O).bind fun r0 =>
if (r0.2 7 0 0 25) = nI 0 then
(ex (d + 1) 136 40 [some (vr 7 0 0), some (vi x1), some (vi (x2 ||| ((nI 1) <<< (x4 &&& (31:Int32))))), some (vi (x3 + (nI 1)))] [] r0.2)
else
(ex (d + 1) 136 40 [some (vr 7 0 0), some (vi x1), some (vi (x2 ||| (nI 0))), some (vi (x3 + (nI 1)))] [] r0.2) := (ex_un d 136 300 110 [some (vr 7 0 0), some (vi x1), some (vi x2), some (vi x3), some (vi x4)] [vi y0, vr 7 0 0] O).trans rfl
set_option maxRecDepth 100000 in
theorem sX7_readMarks_138 (d : Nat) (O : Mem_) (x2 : Int32) : ex (d + 1) 136 138 [some (vr 7 0 0), none, some (vi x2)] [] O =
(ex d 134 0 [some (vr 7 0 0)] [] O).bind fun r0 =>
some (x2, r0.2) := (ex_un d 136 300 138 [some (vr 7 0 0), none, some (vi x2)] [] O).trans rfl
set_option maxRecDepth 100000 in
theorem sX7_readKind_0 (d : Nat) (O : Mem_) (x1 : Int32) : ex (d + 1) 137 0 [some (vr 7 0 0), some (vi x1)] [] O =
ex (d + 1) 137 21 [some (vr 7 0 0), some (vi x1), some (vi ((nI 5) * (O 7 0 0 16))), some (vi (nI 255)), some (vi (oI none)), some (vi (nI 1)), some (vi (nI 0))] [] O := (ex_un d 137 300 0 [some (vr 7 0 0), some (vi x1)] [] O).trans rfl
set_option maxRecDepth 100000 in
theorem sX7_readKind_21 (d : Nat) (O : Mem_) (x1 : Int32) (x2 : Int32) (x3 : Int32) (x4 : Int32) (x5 : Int32) (x6 : Int32) : ex (d + 1) 137 21 [some (vr 7 0 0), some (vi x1), some (vi x2), some (vi x3), some (vi x4), some (vi x5), some (vi x6)] [] O =
if (O 7 0 0 25) = nI 0 then
(if (O 7 0 0 23) = (nI 1) then
((ex d 133 0 [some (vr 7 0 0)] [] O).bind fun r0 =>
(ex d 121 0 [some (vl (Int32.toInt64 r0.1)), none, some (vl (14)), none, some (vl (17)), none] [] r0.2).bind fun r1 =>
(ex d 128 0 [some (vr 7 0 0), some (vi r1.1), some (vi (nI 2))] [] r1.2).bind fun r2 =>
if (r2.2 7 0 0 25) = nI 0 then
(if ((x6 >>> ((r0.1 - (nI 14)) &&& (31:Int32))) &&& (nI 1)) = nI 0 then
(ex (d + 1) 137 85 [some (vr 7 0 0), some (vi x1), some (vi x2), some (vi x3), some (vi x4), some (vi x5), some (vi x6), some (vi r0.1)] [vi (nI 1), vr 7 0 0] r2.2)
else
(ex (d + 1) 137 85 [some (vr 7 0 0), some (vi x1), some (vi x2), some (vi x3), some (vi x4), some (vi x5), some (vi x6), some (vi r0.1)] [vi (nI 0), vr 7 0 0] r2.2))
else
(ex (d + 1) 137 21 [some (vr 7 0 0), some (vi x1), some (vi x2), some (vi x3), some (vi x4), some (vi x5), some (vi x6)] [] r2.2))
else
(ex (d + 1) 137 163 [some (vr 7 0 0), some (vi x1), some (vi x2), some (vi x3), some (vi x4), some (vi x5), some (vi x6)] [] O))
else
(ex (d + 1) 137 163 [some (vr 7 0 0), some (vi x1), some (vi x2), some (vi x3), some (vi x4), some (vi x5), some (vi x6)] [] O) := (ex_un d 137 300 21 [some (vr 7 0 0), some (vi x1), some (vi x2), some (vi x3), some (vi x4), some (vi x5), some (vi x6)] [] O).trans rfl
set_option maxRecDepth 100000 in
theorem sX7_readKind_85 (d : Nat) (O : Mem_) (x1 : Int32) (x2 : Int32) (x3 : Int32) (x4 : Int32) (x5 : Int32) (x6 : Int32) (x7 : Int32) (y0 : Int32) : ex (d + 1) 137 85 [some (vr 7 0 0), some (vi x1), some (vi x2), some (vi x3), some (vi x4), some (vi x5), some (vi x6), some (vi x7)] [vi y0, vr 7 0 0] O =
(ex d 128 0 [some (vr 7 0 0), some (vi y0), some (vi (nI 4))] [] O).bind fun r0 =>
(ex d 134 0 [some (vr 7 0 0)] [] r0.2).bind fun r1 =>
if x7 = (nI 14) then
((ex d 136 0 [some (vr 7 0 0), some (vi (nI 0))] [] r1.2).bind fun r2 =>
ex (d + 1) 137 21 [some (vr 7 0 0), some (vi x1), some (vi x2), some (vi r2.1), some (vi x4), some (vi x5), some (vi (x6 ||| ((nI 1) <<< ((x7 - (nI 14)) &&& (31:Int32)))))] [] r2.2)
else
(if x7 = (nI 15) then
((ex d 135 0 [some (vr 7 0 0), some (vi (nI 0)), some (vi ((r1.2 7 0 0 9) - (nI 1)))] [] r1.2).bind fun r3 =>
ex (d + 1) 137 21 [some (vr 7 0 0), some (vi x1), some (vi x2), some (vi x3), some (vi r3.1), some (vi x5), some (vi (x6 ||| ((nI 1) <<< ((x7 - (nI 14)) &&& (31:Int32)))))] [] r3.2)
else
(if x7 = (nI 17) then
((ex d 135 0 [some (vr 7 0 0), some (vi (nI 0)), some (vi (nI 9))] [] r1.2).bind fun r4 =>
ex (d + 1) 137 21 [some (vr 7 0 0), some (vi x1), some (vi x2), some (vi x3), some (vi x4), some (vi r4.1), some (vi (x6 ||| ((nI 1) <<< ((x7 - (nI 14)) &&& (31:Int32)))))] [] r4.2)
else
(ex (d + 1) 137 21 [some (vr 7 0 0), some (vi x1), some (vi x2), some (vi x3), some (vi x4), some (vi x5), some (vi (x6 ||| ((nI 1) <<< ((x7 - (nI 14)) &&& (31:Int32)))))] [] r1.2))) := (ex_un d 137 300 85 [some (vr 7 0 0), some (vi x1), some (vi x2), some (vi x3), some (vi x4), some (vi x5), some (vi x6), some (vi x7)] [vi y0, vr 7 0 0] O).trans rfl
set_option maxRecDepth 100000 in
theorem sX7_readKind_163 (d : Nat) (O : Mem_) (x1 : Int32) (x2 : Int32) (x3 : Int32) (x4 : Int32) (x5 : Int32) (x6 : Int32) : ex (d + 1) 137 163 [some (vr 7 0 0), some (vi x1), some (vi x2), some (vi x3), some (vi x4), some (vi x5), some (vi x6)] [] O =
if (O 7 0 0 25) = nI 0 then
(if ib x2 30 then
(if ib (x2 + (nI 1)) 30 then
(if ib (x2 + (nI 2)) 30 then
(if ib (x2 + (nI 3)) 30 then
(if ib (x2 + (nI 4)) 30 then
(some (nI 0, (up (up (up (up (up (up O 7 0 18 (Int32.toNatClampNeg x2) x1) 7 0 18 (Int32.toNatClampNeg (x2 + (nI 1))) x3) 7 0 18 (Int32.toNatClampNeg (x2 + (nI 2))) x4) 7 0 18 (Int32.toNatClampNeg (x2 + (nI 3))) ((x6 >>> ((nI 2) &&& (31:Int32))) &&& (nI 1))) 7 0 18 (Int32.toNatClampNeg (x2 + (nI 4))) x5) 7 0 0 16 (((up (up (up (up (up O 7 0 18 (Int32.toNatClampNeg x2) x1) 7 0 18 (Int32.toNatClampNeg (x2 + (nI 1))) x3) 7 0 18 (Int32.toNatClampNeg (x2 + (nI 2))) x4) 7 0 18 (Int32.toNatClampNeg (x2 + (nI 3))) ((x6 >>> ((nI 2) &&& (31:Int32))) &&& (nI 1))) 7 0 18 (Int32.toNatClampNeg (x2 + (nI 4))) x5) 7 0 0 16) + (nI 1)))))
else none)
else none)
else none)
else none)
else none)
else
(some (nI 0, O)) := (ex_un d 137 300 163 [some (vr 7 0 0), some (vi x1), some (vi x2), some (vi x3), some (vi x4), some (vi x5), some (vi x6)] [] O).trans rfl
set_option maxRecDepth 100000 in
theorem sX7_readMeans_0 (d : Nat) (O : Mem_)  : ex (d + 1) 138 0 [some (vr 7 0 0)] [] O =
(ex d 136 0 [some (vr 7 0 0), some (vi (nI 0))] [] O).bind fun r0 =>
if (r0.2 7 0 0 25) = nI 0 then
(if (r0.2 7 0 0 23) = (nI 1) then
((ex d 133 0 [some (vr 7 0 0)] [] r0.2).bind fun r1 =>
if r1.1 = (nI 13) then
(ex (d + 1) 138 38 [some (vr 7 0 0), some (vi r0.1)] [vi (nI 1), vr 7 0 0] r1.2)
else
(ex (d + 1) 138 38 [some (vr 7 0 0), some (vi r0.1)] [vi (nI 0), vr 7 0 0] r1.2))
else
(ex (d + 1) 138 52 [some (vr 7 0 0), some (vi r0.1), some (vi (nI 0))] [] r0.2))
else
(ex (d + 1) 138 52 [some (vr 7 0 0), some (vi r0.1), some (vi (nI 0))] [] r0.2) := (ex_un d 138 300 0 [some (vr 7 0 0)] [] O).trans rfl
set_option maxRecDepth 100000 in
theorem sX7_readMeans_38 (d : Nat) (O : Mem_) (x1 : Int32) (y0 : Int32) : ex (d + 1) 138 38 [some (vr 7 0 0), some (vi x1)] [vi y0, vr 7 0 0] O =
(ex d 128 0 [some (vr 7 0 0), some (vi y0), some (vi (nI 2))] [] O).bind fun r0 =>
(ex d 134 0 [some (vr 7 0 0)] [] r0.2).bind fun r1 =>
(ex d 136 0 [some (vr 7 0 0), some (vi x1)] [] r1.2).bind fun r2 =>
ex (d + 1) 138 52 [some (vr 7 0 0), some (vi x1), some (vi r2.1)] [] r2.2 := (ex_un d 138 300 38 [some (vr 7 0 0), some (vi x1)] [vi y0, vr 7 0 0] O).trans rfl
set_option maxRecDepth 100000 in
theorem sX7_readMeans_52 (d : Nat) (O : Mem_) (x1 : Int32) (x2 : Int32) : ex (d + 1) 138 52 [some (vr 7 0 0), some (vi x1), some (vi x2)] [] O =
if (O 7 0 0 25) = nI 0 then
(if ib (O 7 0 0 11) 12 then
(if ib ((up O 7 0 13 (Int32.toNatClampNeg (O 7 0 0 11)) x1) 7 0 0 11) 12 then
(some (nI 0, (up (up (up O 7 0 13 (Int32.toNatClampNeg (O 7 0 0 11)) x1) 7 0 14 (Int32.toNatClampNeg ((up O 7 0 13 (Int32.toNatClampNeg (O 7 0 0 11)) x1) 7 0 0 11)) x2) 7 0 0 11 (((up (up O 7 0 13 (Int32.toNatClampNeg (O 7 0 0 11)) x1) 7 0 14 (Int32.toNatClampNeg ((up O 7 0 13 (Int32.toNatClampNeg (O 7 0 0 11)) x1) 7 0 0 11)) x2) 7 0 0 11) + (nI 1)))))
else none)
else none)
else
(some (nI 0, O)) := (ex_un d 138 300 52 [some (vr 7 0 0), some (vi x1), some (vi x2)] [] O).trans rfl
set_option maxRecDepth 100000 in
theorem sX7_readLine_0 (d : Nat) (O : Mem_)  : ex (d + 1) 139 0 [some (vr 7 0 0)] [] O =
if (O 7 0 0 23) = (nI 1) then
((ex d 133 0 [some (vr 7 0 0)] [] O).bind fun r0 =>
ex (d + 1) 139 17 [some (vr 7 0 0)] [vi r0.1] r0.2)
else
(ex (d + 1) 139 17 [some (vr 7 0 0)] [vi (oI none)] O) := (ex_un d 139 300 0 [some (vr 7 0 0)] [] O).trans rfl
set_option maxRecDepth 100000 in
theorem sX7_readLine_17 (d : Nat) (O : Mem_) (y0 : Int32) : ex (d + 1) 139 17 [some (vr 7 0 0)] [vi y0] O =
(ex d 121 0 [some (vl (Int32.toInt64 y0)), none, some (vl 0), none, some (vl (3)), none] [] O).bind fun r0 =>
if r0.1 = nI 0 then
((ex d 121 0 [some (vl (Int32.toInt64 y0)), none, some (vl (10)), none, some (vl (12)), none] [] r0.2).bind fun r1 =>
if r1.1 = nI 0 then
(ex (d + 1) 139 50 [some (vr 7 0 0), some (vi y0)] [vi (nI 0), vr 7 0 0] r1.2)
else
(ex (d + 1) 139 50 [some (vr 7 0 0), some (vi y0)] [vi (nI 1), vr 7 0 0] r1.2))
else
(ex (d + 1) 139 50 [some (vr 7 0 0), some (vi y0)] [vi (nI 1), vr 7 0 0] r0.2) := (ex_un d 139 300 17 [some (vr 7 0 0)] [vi y0] O).trans rfl
set_option maxRecDepth 100000 in
theorem sX7_readLine_50 (d : Nat) (O : Mem_) (x1 : Int32) (y0 : Int32) : ex (d + 1) 139 50 [some (vr 7 0 0), some (vi x1)] [vi y0, vr 7 0 0] O =
(ex d 128 0 [some (vr 7 0 0), some (vi y0), some (vi (nI 2))] [] O).bind fun r0 =>
if x1 = (nI 10) then
(if (r0.2 7 0 0 9) < (nI 8) then
(ex (d + 1) 139 75 [some (vr 7 0 0), some (vi x1)] [vi (nI 1), vr 7 0 0] r0.2)
else
(ex (d + 1) 139 75 [some (vr 7 0 0), some (vi x1)] [vi (nI 0), vr 7 0 0] r0.2))
else
(ex (d + 1) 139 75 [some (vr 7 0 0), some (vi x1)] [vi (nI 1), vr 7 0 0] r0.2) := (ex_un d 139 300 50 [some (vr 7 0 0), some (vi x1)] [vi y0, vr 7 0 0] O).trans rfl
set_option maxRecDepth 100000 in
theorem sX7_readLine_75 (d : Nat) (O : Mem_) (x1 : Int32) (y0 : Int32) : ex (d + 1) 139 75 [some (vr 7 0 0), some (vi x1)] [vi y0, vr 7 0 0] O =
(ex d 128 0 [some (vr 7 0 0), some (vi y0), some (vi (nI 5))] [] O).bind fun r0 =>
if x1 = (nI 11) then
(if (r0.2 7 0 0 11) < (nI 12) then
(ex (d + 1) 139 100 [some (vr 7 0 0), some (vi x1)] [vi (nI 1), vr 7 0 0] r0.2)
else
(ex (d + 1) 139 100 [some (vr 7 0 0), some (vi x1)] [vi (nI 0), vr 7 0 0] r0.2))
else
(ex (d + 1) 139 100 [some (vr 7 0 0), some (vi x1)] [vi (nI 1), vr 7 0 0] r0.2) := (ex_un d 139 300 75 [some (vr 7 0 0), some (vi x1)] [vi y0, vr 7 0 0] O).trans rfl
set_option maxRecDepth 100000 in
theorem sX7_readLine_100 (d : Nat) (O : Mem_) (x1 : Int32) (y0 : Int32) : ex (d + 1) 139 100 [some (vr 7 0 0), some (vi x1)] [vi y0, vr 7 0 0] O =
(ex d 128 0 [some (vr 7 0 0), some (vi y0), some (vi (nI 5))] [] O).bind fun r0 =>
if x1 = (nI 12) then
(if (r0.2 7 0 0 14) < (nI 4) then
(ex (d + 1) 139 124 [some (vr 7 0 0), some (vi x1)] [vi (nI 1), vr 7 0 0] r0.2)
else
(ex (d + 1) 139 124 [some (vr 7 0 0), some (vi x1)] [vi (nI 0), vr 7 0 0] r0.2))
else
(ex (d + 1) 139 124 [some (vr 7 0 0), some (vi x1)] [vi (nI 1), vr 7 0 0] r0.2) := (ex_un d 139 300 100 [some (vr 7 0 0), some (vi x1)] [vi y0, vr 7 0 0] O).trans rfl
set_option maxRecDepth 100000 in
theorem sX7_readLine_124 (d : Nat) (O : Mem_) (x1 : Int32) (y0 : Int32) : ex (d + 1) 139 124 [some (vr 7 0 0), some (vi x1)] [vi y0, vr 7 0 0] O =
(ex d 128 0 [some (vr 7 0 0), some (vi y0), some (vi (nI 5))] [] O).bind fun r0 =>
(ex d 121 0 [some (vl (Int32.toInt64 x1)), none, some (vl 0), none, some (vl (3)), none] [] r0.2).bind fun r1 =>
if r1.1 = nI 0 then
(ex (d + 1) 139 155 [some (vr 7 0 0), some (vi x1)] [vi (nI 1), vr 7 0 0] r1.2)
else
(if (r1.2 7 0 0 16) < (nI 6) then
(ex (d + 1) 139 155 [some (vr 7 0 0), some (vi x1)] [vi (nI 1), vr 7 0 0] r1.2)
else
(ex (d + 1) 139 155 [some (vr 7 0 0), some (vi x1)] [vi (nI 0), vr 7 0 0] r1.2)) := (ex_un d 139 300 124 [some (vr 7 0 0), some (vi x1)] [vi y0, vr 7 0 0] O).trans rfl
set_option maxRecDepth 100000 in
theorem sX7_readLine_155 (d : Nat) (O : Mem_) (x1 : Int32) (y0 : Int32) : ex (d + 1) 139 155 [some (vr 7 0 0), some (vi x1)] [vi y0, vr 7 0 0] O =
(ex d 128 0 [some (vr 7 0 0), some (vi y0), some (vi (nI 5))] [] O).bind fun r0 =>
(ex d 134 0 [some (vr 7 0 0)] [] r0.2).bind fun r1 =>
if nI 0 < (r1.2 7 0 0 25) then
(some (nI 0, r1.2))
else
(if x1 = (nI 10) then
((ex d 136 0 [some (vr 7 0 0), some (vi (nI 0))] [] r1.2).bind fun r2 =>
if (r2.2 7 0 0 25) = nI 0 then
(if ib (r2.2 7 0 0 9) 8 then
(ex (d + 1) 139 279 [some (vr 7 0 0)] [] (up (up r2.2 7 0 11 (Int32.toNatClampNeg (r2.2 7 0 0 9)) r2.1) 7 0 0 9 (((up r2.2 7 0 11 (Int32.toNatClampNeg (r2.2 7 0 0 9)) r2.1) 7 0 0 9) + (nI 1))))
else none)
else
(ex (d + 1) 139 279 [some (vr 7 0 0)] [] r2.2))
else
(if x1 = (nI 11) then
((ex d 138 0 [some (vr 7 0 0)] [] r1.2).bind fun r3 =>
ex (d + 1) 139 279 [some (vr 7 0 0)] [] r3.2)
else
(if x1 = (nI 12) then
((ex d 135 0 [some (vr 7 0 0), some (vi (nI 0)), some (vi ((r1.2 7 0 0 11) - (nI 1)))] [] r1.2).bind fun r4 =>
if (r4.2 7 0 0 25) = nI 0 then
(if ib (r4.2 7 0 0 14) 4 then
(ex (d + 1) 139 279 [some (vr 7 0 0)] [] (up (up r4.2 7 0 16 (Int32.toNatClampNeg (r4.2 7 0 0 14)) r4.1) 7 0 0 14 (((up r4.2 7 0 16 (Int32.toNatClampNeg (r4.2 7 0 0 14)) r4.1) 7 0 0 14) + (nI 1))))
else none)
else
(ex (d + 1) 139 279 [some (vr 7 0 0)] [] r4.2))
else
((ex d 137 0 [some (vr 7 0 0), some (vi x1)] [] r1.2).bind fun r5 =>
ex (d + 1) 139 279 [some (vr 7 0 0)] [] r5.2)))) := (ex_un d 139 300 155 [some (vr 7 0 0), some (vi x1)] [vi y0, vr 7 0 0] O).trans rfl
set_option maxRecDepth 100000 in
theorem sX7_readLine_279 (d : Nat) (O : Mem_)  : ex (d + 1) 139 279 [some (vr 7 0 0)] [] O =
if (O 7 0 0 25) = nI 0 then
(if (O 7 0 0 23) = (nI 3) then
(ex (d + 1) 139 300 [some (vr 7 0 0)] [vi (nI 1), vr 7 0 0] O)
else
(ex (d + 1) 139 300 [some (vr 7 0 0)] [vi (nI 0), vr 7 0 0] O))
else
((ex d 134 0 [some (vr 7 0 0)] [] O).bind fun r0 =>
some (nI 0, r0.2)) := (ex_un d 139 300 279 [some (vr 7 0 0)] [] O).trans rfl
set_option maxRecDepth 100000 in
theorem sX7_readLine_300 (d : Nat) (O : Mem_) (y0 : Int32) : ex (d + 1) 139 300 [some (vr 7 0 0)] [vi y0, vr 7 0 0] O =
(ex d 128 0 [some (vr 7 0 0), some (vi y0), some (vi (nI 2))] [] O).bind fun r0 =>
(ex d 134 0 [some (vr 7 0 0)] [] r0.2).bind fun r1 =>
some (nI 0, r1.2) := (ex_un d 139 300 300 [some (vr 7 0 0)] [vi y0, vr 7 0 0] O).trans rfl
set_option maxRecDepth 100000 in
theorem sX7_text_0 (d : Nat) (O : Mem_)  : ex (d + 1) 140 0 [some (vr 7 0 0)] [] O =
(ex d 124 0 [some (vr 7 0 0)] [] (up (up O 7 0 0 25 (nI 0)) 7 0 0 21 (nI 0))).bind fun r0 =>
(ex d 134 0 [some (vr 7 0 0)] [] r0.2).bind fun r1 =>
ex (d + 1) 140 20 [some (vr 7 0 0), some (vi (nI 0))] [] r1.2 := (ex_un d 140 300 0 [some (vr 7 0 0)] [] O).trans rfl
set_option maxRecDepth 100000 in
theorem sX7_text_20 (d : Nat) (O : Mem_) (x1 : Int32) : ex (d + 1) 140 20 [some (vr 7 0 0), some (vi x1)] [] O =
if (O 7 0 0 25) = nI 0 then
(if (O 7 0 0 23) = nI 0 then
(ex (d + 1) 140 44 [some (vr 7 0 0), some (vi x1)] [] O)
else
((ex d 139 0 [some (vr 7 0 0)] [] O).bind fun r0 =>
ex (d + 1) 140 20 [some (vr 7 0 0), some (vi (x1 + (nI 1)))] [] r0.2))
else
(ex (d + 1) 140 44 [some (vr 7 0 0), some (vi x1)] [] O) := (ex_un d 140 300 20 [some (vr 7 0 0), some (vi x1)] [] O).trans rfl
set_option maxRecDepth 100000 in
theorem sX7_text_44 (d : Nat) (O : Mem_) (x1 : Int32) : ex (d + 1) 140 44 [some (vr 7 0 0), some (vi x1)] [] O =
if nI 0 < ((up O 7 0 0 20 (nI 0)) 7 0 0 25) then
(some (((-10) - ((up O 7 0 0 20 (nI 0)) 7 0 0 26)), (up O 7 0 0 20 (nI 0))))
else
((ex d 125 0 [some (vr 7 0 0)] [] (up O 7 0 0 20 (nI 0))).bind fun r0 =>
some (x1, r0.2)) := (ex_un d 140 300 44 [some (vr 7 0 0), some (vi x1)] [] O).trans rfl
set_option maxRecDepth 100000 in
theorem sX7_fault_0 (d : Nat) (O : Mem_)  : ex (d + 1) 141 0 [some (vr 7 0 0)] [] O =
some ((O 7 0 0 25), O) := (ex_un d 141 300 0 [some (vr 7 0 0)] [] O).trans rfl
set_option maxRecDepth 100000 in
theorem sX7_isThing_0 (d : Nat) (O : Mem_) (x1 : Int32) : ex (d + 1) 142 0 [some (vr 7 0 0), some (vi x1)] [] O =
(ex d 121 0 [some (vl (Int32.toInt64 x1)), none, some (vl 0), none, some (vl (Int32.toInt64 ((O 7 0 0 0) - (nI 1)))), none] [] O).bind fun r0 =>
if r0.1 = nI 0 ∨ r0.1 = nI 1 then some (r0.1, r0.2) else none := (ex_un d 142 300 0 [some (vr 7 0 0), some (vi x1)] [] O).trans rfl
set_option maxRecDepth 100000 in
theorem sX7_isSound_0 (d : Nat) (O : Mem_) (x1 : Int32) : ex (d + 1) 143 0 [some (vr 7 0 0), some (vi x1)] [] O =
(ex d 121 0 [some (vl (Int32.toInt64 x1)), none, some (vl 0), none, some (vl (Int32.toInt64 ((O 7 0 0 5) - (nI 1)))), none] [] O).bind fun r0 =>
if r0.1 = nI 0 ∨ r0.1 = nI 1 then some (r0.1, r0.2) else none := (ex_un d 143 300 0 [some (vr 7 0 0), some (vi x1)] [] O).trans rfl
set_option maxRecDepth 100000 in
theorem sX7_isKind_0 (d : Nat) (O : Mem_) (x1 : Int32) : ex (d + 1) 144 0 [some (vr 7 0 0), some (vi x1)] [] O =
(ex d 121 0 [some (vl (Int32.toInt64 x1)), none, some (vl 0), none, some (vl (Int32.toInt64 ((O 7 0 0 7) - (nI 1)))), none] [] O).bind fun r0 =>
if r0.1 = nI 0 ∨ r0.1 = nI 1 then some (r0.1, r0.2) else none := (ex_un d 144 300 0 [some (vr 7 0 0), some (vi x1)] [] O).trans rfl
set_option maxRecDepth 100000 in
theorem sX7_areKinds_0 (d : Nat) (O : Mem_) (x1 : Int32) : ex (d + 1) 145 0 [some (vr 7 0 0), some (vi x1)] [] O =
(ex d 121 0 [some (vl (Int32.toInt64 x1)), none, some (vl 0), none, some (vl (Int32.toInt64 (((nI 1) <<< ((O 7 0 0 7) &&& (31:Int32))) - (nI 1)))), none] [] O).bind fun r0 =>
if r0.1 = nI 0 ∨ r0.1 = nI 1 then some (r0.1, r0.2) else none := (ex_un d 145 300 0 [some (vr 7 0 0), some (vi x1)] [] O).trans rfl
set_option maxRecDepth 100000 in
theorem sX7_marksOf_0 (d : Nat) (O : Mem_) (x1 : Int32) : ex (d + 1) 146 0 [some (vr 7 0 0), some (vi x1)] [] O =
if ib x1 12 then
((ex d 123 0 [some (vi (O 7 0 4 (Int32.toNatClampNeg x1)))] [] O).bind fun r0 =>
if ib x1 12 then
((ex d 123 0 [some (vi (r0.2 7 0 5 (Int32.toNatClampNeg x1)))] [] r0.2).bind fun r1 =>
some ((r0.1 + r1.1), r1.2))
else none)
else none := (ex_un d 146 300 0 [some (vr 7 0 0), some (vi x1)] [] O).trans rfl
set_option maxRecDepth 100000 in
theorem sX7_canThink_0 (d : Nat) (O : Mem_) (x1 : Int32) : ex (d + 1) 147 0 [some (vr 7 0 0), some (vi x1)] [] O =
ex (d + 1) 147 4 [some (vr 7 0 0), some (vi x1), some (vi (nI 0)), some (vi (nI 0))] [] O := (ex_un d 147 300 0 [some (vr 7 0 0), some (vi x1)] [] O).trans rfl
set_option maxRecDepth 100000 in
theorem sX7_canThink_4 (d : Nat) (O : Mem_) (x1 : Int32) (x2 : Int32) (x3 : Int32) : ex (d + 1) 147 4 [some (vr 7 0 0), some (vi x1), some (vi x2), some (vi x3)] [] O =
if x3 < (O 7 0 0 2) then
(if ib x3 12 then
(if ib x3 12 then
(if ib (((nI 5) * x1) + (nI 1)) 30 then
(if (((O 7 0 4 (Int32.toNatClampNeg x3)) ||| (O 7 0 5 (Int32.toNatClampNeg x3))) &&& ((O 7 0 9 (Int32.toNatClampNeg (((nI 5) * x1) + (nI 1)))) ^^^ (-1))) = nI 0 then
(ex (d + 1) 147 4 [some (vr 7 0 0), some (vi x1), some (vi (x2 ||| ((nI 1) <<< (x3 &&& (31:Int32))))), some (vi (x3 + (nI 1)))] [] O)
else
(ex (d + 1) 147 4 [some (vr 7 0 0), some (vi x1), some (vi (x2 ||| (nI 0))), some (vi (x3 + (nI 1)))] [] O))
else none)
else none)
else none)
else
(some (x2, O)) := (ex_un d 147 300 4 [some (vr 7 0 0), some (vi x1), some (vi x2), some (vi x3)] [] O).trans rfl
set_option maxRecDepth 100000 in
theorem sX7_targetOf_0 (d : Nat) (O : Mem_) (x1 : Int32) : ex (d + 1) 148 0 [some (vr 7 0 0), some (vi x1)] [] O =
if ib x1 4 then
(if ib (O 7 0 7 (Int32.toNatClampNeg x1)) 12 then
(some ((O 7 0 19 (Int32.toNatClampNeg (O 7 0 7 (Int32.toNatClampNeg x1)))), O))
else none)
else none := (ex_un d 148 300 0 [some (vr 7 0 0), some (vi x1)] [] O).trans rfl
set_option maxRecDepth 100000 in
theorem sX7_thing_0 (d : Nat) (O : Mem_) (x1 : Int32) : ex (d + 1) 149 0 [some (vr 7 0 0), some (vi x1)] [] O =
(ex d 142 0 [some (vr 7 0 0), some (vi x1)] [] O).bind fun r0 =>
if r0.1 = nI 0 then
(some ((-1), r0.2))
else
(if ib x1 8 then
(some ((r0.2 7 0 2 (Int32.toNatClampNeg x1)), r0.2))
else none) := (ex_un d 149 300 0 [some (vr 7 0 0), some (vi x1)] [] O).trans rfl
set_option maxRecDepth 100000 in
theorem sX7_meaning_0 (d : Nat) (O : Mem_) (x1 : Int32) (x2 : Int32) : ex (d + 1) 150 0 [some (vr 7 0 0), some (vi x1), some (vi x2)] [] O =
(ex d 121 0 [some (vl (Int32.toInt64 x1)), none, some (vl 0), none, some (vl (Int32.toInt64 ((O 7 0 0 2) - (nI 1)))), none] [] O).bind fun r0 =>
if r0.1 = nI 0 then
(some ((-1), r0.2))
else
((ex d 121 0 [some (vl (Int32.toInt64 x2)), none, some (vl 0), none, some (vl (4)), none] [] r0.2).bind fun r1 =>
if r1.1 = nI 0 then
(some ((-1), r1.2))
else
(ex (d + 1) 150 35 [some (vr 7 0 0), some (vi x1), some (vi x2), some (vi (nI 0)), some (vi (nI 0))] [] r1.2)) := (ex_un d 150 300 0 [some (vr 7 0 0), some (vi x1), some (vi x2)] [] O).trans rfl
set_option maxRecDepth 100000 in
theorem sX7_meaning_35 (d : Nat) (O : Mem_) (x1 : Int32) (x2 : Int32) (x3 : Int32) (x4 : Int32) : ex (d + 1) 150 35 [some (vr 7 0 0), some (vi x1), some (vi x2), some (vi x3), some (vi x4)] [] O =
if x4 < (O 7 0 0 7) then
((ex d 147 0 [some (vr 7 0 0), some (vi x4)] [] O).bind fun r0 =>
if ((r0.1 >>> (x1 &&& (31:Int32))) &&& (nI 1)) = (nI 1) then
(ex (d + 1) 150 35 [some (vr 7 0 0), some (vi x1), some (vi x2), some (vi (x3 ||| ((nI 1) <<< (x4 &&& (31:Int32))))), some (vi (x4 + (nI 1)))] [] r0.2)
else
(ex (d + 1) 150 35 [some (vr 7 0 0), some (vi x1), some (vi x2), some (vi (x3 ||| (nI 0))), some (vi (x4 + (nI 1)))] [] r0.2))
else
(if x2 = nI 0 then
(if ib x1 12 then
(some ((O 7 0 4 (Int32.toNatClampNeg x1)), O))
else none)
else
(if x2 = (nI 1) then
(if ib x1 12 then
(some ((O 7 0 5 (Int32.toNatClampNeg x1)), O))
else none)
else
(if x2 = (nI 2) then
((ex d 146 0 [some (vr 7 0 0), some (vi x1)] [] O).bind fun r1 =>
some (r1.1, r1.2))
else
(if x2 = (nI 3) then
(if ib x1 12 then
(some ((O 7 0 19 (Int32.toNatClampNeg x1)), O))
else none)
else
(some (x3, O)))))) := (ex_un d 150 300 35 [some (vr 7 0 0), some (vi x1), some (vi x2), some (vi x3), some (vi x4)] [] O).trans rfl
set_option maxRecDepth 100000 in
theorem sX7_word_0 (d : Nat) (O : Mem_) (x1 : Int32) : ex (d + 1) 151 0 [some (vr 7 0 0), some (vi x1)] [] O =
(ex d 143 0 [some (vr 7 0 0), some (vi x1)] [] O).bind fun r0 =>
if r0.1 = nI 0 then
(some ((-1), r0.2))
else
(if ib x1 4 then
(some ((r0.2 7 0 7 (Int32.toNatClampNeg x1)), r0.2))
else none) := (ex_un d 151 300 0 [some (vr 7 0 0), some (vi x1)] [] O).trans rfl
set_option maxRecDepth 100000 in
theorem sX7_kind_0 (d : Nat) (O : Mem_) (x1 : Int32) (x2 : Int32) : ex (d + 1) 152 0 [some (vr 7 0 0), some (vi x1), some (vi x2)] [] O =
(ex d 144 0 [some (vr 7 0 0), some (vi x1)] [] O).bind fun r0 =>
if r0.1 = nI 0 then
(some ((-1), r0.2))
else
((ex d 121 0 [some (vl (Int32.toInt64 x2)), none, some (vl 0), none, some (vl (5)), none] [] r0.2).bind fun r1 =>
if r1.1 = nI 0 then
(some ((-1), r1.2))
else
(if x2 = (nI 5) then
((ex d 147 0 [some (vr 7 0 0), some (vi x1)] [] r1.2).bind fun r2 =>
some (r2.1, r2.2))
else
(if ib (((nI 5) * x1) + x2) 30 then
(some ((r1.2 7 0 9 (Int32.toNatClampNeg (((nI 5) * x1) + x2))), r1.2))
else none))) := (ex_un d 152 300 0 [some (vr 7 0 0), some (vi x1), some (vi x2)] [] O).trans rfl
set_option maxRecDepth 100000 in
theorem sX7_wakes_0 (d : Nat) (O : Mem_) (x1 : Int32) : ex (d + 1) 153 0 [some (vr 7 0 0), some (vi x1)] [] O =
ex (d + 1) 153 2 [some (vr 7 0 0), some (vi x1), some (vi (nI 0))] [] O := (ex_un d 153 300 0 [some (vr 7 0 0), some (vi x1)] [] O).trans rfl
set_option maxRecDepth 100000 in
theorem sX7_wakes_2 (d : Nat) (O : Mem_) (x1 : Int32) (x2 : Int32) : ex (d + 1) 153 2 [some (vr 7 0 0), some (vi x1), some (vi x2)] [] O =
if x2 < (nI 70) then
(if (nI 10) = nI 0 then none else if x2 < (nI 60) then
((ex d 121 0 [some (vl (Int32.toInt64 (x2 - x2 / (nI 10) * (nI 10)))), none, some (vl (4)), none, some (vl (7)), none] [] O).bind fun r0 =>
if r0.1 = nI 0 then
(if ib (x1 + x2) 210 then
(ex (d + 1) 153 2 [some (vr 7 0 0), some (vi x1), some (vi (x2 + (nI 1)))] [] (up r0.2 7 0 28 (Int32.toNatClampNeg (x1 + x2)) (oI none)))
else none)
else
(if ib (x1 + x2) 210 then
(ex (d + 1) 153 2 [some (vr 7 0 0), some (vi x1), some (vi (x2 + (nI 1)))] [] (up r0.2 7 0 28 (Int32.toNatClampNeg (x1 + x2)) (nI 0)))
else none))
else
(if ib (x1 + x2) 210 then
(ex (d + 1) 153 2 [some (vr 7 0 0), some (vi x1), some (vi (x2 + (nI 1)))] [] (up O 7 0 28 (Int32.toNatClampNeg (x1 + x2)) (nI 0)))
else none))
else
(some (nI 0, O)) := (ex_un d 153 300 2 [some (vr 7 0 0), some (vi x1), some (vi x2)] [] O).trans rfl
set_option maxRecDepth 100000 in
theorem sX7_fitsIn_0 (d : Nat) (O : Mem_) (x1 : Int32) (x2 : Int32) (x3 : Int32) : ex (d + 1) 154 0 [some (vr 7 0 0), some (vi x1), some (vi x2), some (vi x3)] [] O =
if ib ((x1 + (nI 60)) + x2) 210 then
(if ib x3 12 then
(if ((O 7 0 28 (Int32.toNatClampNeg ((x1 + (nI 60)) + x2))) &&& ((O 7 0 19 (Int32.toNatClampNeg x3)) ^^^ (-1))) = nI 0 then
(if ib ((x1 + (nI 64)) + x2) 210 then
(if ib x3 12 then
(if ((O 7 0 28 (Int32.toNatClampNeg ((x1 + (nI 64)) + x2))) &&& (O 7 0 19 (Int32.toNatClampNeg x3))) = nI 0 then
(some ((nI 1), O))
else
(some ((nI 0), O)))
else none)
else none)
else
(some ((nI 0), O)))
else none)
else none := (ex_un d 154 300 0 [some (vr 7 0 0), some (vi x1), some (vi x2), some (vi x3)] [] O).trans rfl
set_option maxRecDepth 100000 in
theorem sX7_allThatFit_0 (d : Nat) (O : Mem_) (x1 : Int32) (x2 : Int32) : ex (d + 1) 155 0 [some (vr 7 0 0), some (vi x1), some (vi x2)] [] O =
ex (d + 1) 155 5 [some (vr 7 0 0), some (vi x1), some (vi x2), some (vi (nI 0)), some (vi (nI 0))] [] O := (ex_un d 155 300 0 [some (vr 7 0 0), some (vi x1), some (vi x2)] [] O).trans rfl
set_option maxRecDepth 100000 in
theorem sX7_allThatFit_5 (d : Nat) (O : Mem_) (x1 : Int32) (x2 : Int32) (x3 : Int32) (x4 : Int32) : ex (d + 1) 155 5 [some (vr 7 0 0), some (vi x1), some (vi x2), some (vi x3), some (vi x4)] [] O =
if x4 < (O 7 0 0 2) then
((ex d 154 0 [some (vr 7 0 0), some (vi x1), some (vi x2), some (vi x4)] [] O).bind fun r0 =>
if r0.1 = nI 0 then
(ex (d + 1) 155 5 [some (vr 7 0 0), some (vi x1), some (vi x2), some (vi (x3 ||| (nI 0))), some (vi (x4 + (nI 1)))] [] r0.2)
else
(ex (d + 1) 155 5 [some (vr 7 0 0), some (vi x1), some (vi x2), some (vi (x3 ||| ((nI 1) <<< (x4 &&& (31:Int32))))), some (vi (x4 + (nI 1)))] [] r0.2))
else
(some (x3, O)) := (ex_un d 155 300 5 [some (vr 7 0 0), some (vi x1), some (vi x2), some (vi x3), some (vi x4)] [] O).trans rfl
set_option maxRecDepth 100000 in
theorem sX7_plainest_0 (d : Nat) (O : Mem_) (x1 : Int32) : ex (d + 1) 156 0 [some (vr 7 0 0), some (vi x1)] [] O =
ex (d + 1) 156 5 [some (vr 7 0 0), some (vi x1), some (vi (oI none)), some (vi (nI 0))] [] O := (ex_un d 156 300 0 [some (vr 7 0 0), some (vi x1)] [] O).trans rfl
set_option maxRecDepth 100000 in
theorem sX7_plainest_5 (d : Nat) (O : Mem_) (x1 : Int32) (x2 : Int32) (x3 : Int32) : ex (d + 1) 156 5 [some (vr 7 0 0), some (vi x1), some (vi x2), some (vi x3)] [] O =
if x3 < (O 7 0 0 2) then
(if ((x1 >>> (x3 &&& (31:Int32))) &&& (nI 1)) = (nI 1) then
(if x2 = (oI none) then
(ex (d + 1) 156 5 [some (vr 7 0 0), some (vi x1), some (vi x3), some (vi (x3 + (nI 1)))] [] O)
else
((ex d 146 0 [some (vr 7 0 0), some (vi x3)] [] O).bind fun r0 =>
(ex d 146 0 [some (vr 7 0 0), some (vi x2)] [] r0.2).bind fun r1 =>
if r0.1 < r1.1 then
(ex (d + 1) 156 5 [some (vr 7 0 0), some (vi x1), some (vi x3), some (vi (x3 + (nI 1)))] [] r1.2)
else
(ex (d + 1) 156 5 [some (vr 7 0 0), some (vi x1), some (vi x2), some (vi (x3 + (nI 1)))] [] r1.2)))
else
(ex (d + 1) 156 5 [some (vr 7 0 0), some (vi x1), some (vi x2), some (vi (x3 + (nI 1)))] [] O))
else
(some (x2, O)) := (ex_un d 156 300 5 [some (vr 7 0 0), some (vi x1), some (vi x2), some (vi x3)] [] O).trans rfl
set_option maxRecDepth 100000 in
theorem sX7_areAllOne_0 (d : Nat) (O : Mem_) (x1 : Int32) : ex (d + 1) 157 0 [some (vr 7 0 0), some (vi x1)] [] O =
(ex d 156 0 [some (vr 7 0 0), some (vi x1)] [] O).bind fun r0 =>
ex (d + 1) 157 11 [some (vr 7 0 0), some (vi x1), some (vi r0.1), some (vi (nI 1)), some (vi (nI 0))] [] r0.2 := (ex_un d 157 300 0 [some (vr 7 0 0), some (vi x1)] [] O).trans rfl
set_option maxRecDepth 100000 in
theorem sX7_areAllOne_11 (d : Nat) (O : Mem_) (x1 : Int32) (x2 : Int32) (x3 : Int32) (x4 : Int32) : ex (d + 1) 157 11 [some (vr 7 0 0), some (vi x1), some (vi x2), some (vi x3), some (vi x4)] [] O =
if x4 < (O 7 0 0 2) then
(if x3 = nI 0 then
(ex (d + 1) 157 11 [some (vr 7 0 0), some (vi x1), some (vi x2), some (vi (nI 0)), some (vi (x4 + (nI 1)))] [] O)
else
(if ((x1 >>> (x4 &&& (31:Int32))) &&& (nI 1)) = nI 0 then
(ex (d + 1) 157 11 [some (vr 7 0 0), some (vi x1), some (vi x2), some (vi (nI 1)), some (vi (x4 + (nI 1)))] [] O)
else
(if ib x4 12 then
(if ib x2 12 then
(if (O 7 0 19 (Int32.toNatClampNeg x4)) = (O 7 0 19 (Int32.toNatClampNeg x2)) then
(ex (d + 1) 157 11 [some (vr 7 0 0), some (vi x1), some (vi x2), some (vi (nI 1)), some (vi (x4 + (nI 1)))] [] O)
else
(ex (d + 1) 157 11 [some (vr 7 0 0), some (vi x1), some (vi x2), some (vi (nI 0)), some (vi (x4 + (nI 1)))] [] O))
else none)
else none)))
else
(if x3 = nI 0 ∨ x3 = nI 1 then some (x3, O) else none) := (ex_un d 157 300 11 [some (vr 7 0 0), some (vi x1), some (vi x2), some (vi x3), some (vi x4)] [] O).trans rfl
set_option maxRecDepth 100000 in
theorem sX7_proudLooks_0 (d : Nat) (O : Mem_) (x1 : Int32) (x2 : Int32) (x3 : Int32) (x4 : Int32) : ex (d + 1) 158 0 [some (vr 7 0 0), some (vi x1), some (vi x2), some (vi x3), some (vi x4)] [] O =
if ib (x1 + x2) 210 then
(if (O 7 0 28 (Int32.toNatClampNeg (x1 + x2))) = (oI none) then
(ex (d + 1) 158 18 [some (vr 7 0 0), some (vi x1), some (vi x2), some (vi x3), some (vi x4)] [vi (nI 1)] O)
else
(ex (d + 1) 158 18 [some (vr 7 0 0), some (vi x1), some (vi x2), some (vi x3), some (vi x4)] [vi (nI 0)] O))
else none := (ex_un d 158 300 0 [some (vr 7 0 0), some (vi x1), some (vi x2), some (vi x3), some (vi x4)] [] O).trans rfl
set_option maxRecDepth 100000 in
theorem sX7_proudLooks_18 (d : Nat) (O : Mem_) (x1 : Int32) (x2 : Int32) (x3 : Int32) (x4 : Int32) (y0 : Int32) : ex (d + 1) 158 18 [some (vr 7 0 0), some (vi x1), some (vi x2), some (vi x3), some (vi x4)] [vi y0] O =
if y0 = nI 0 then
(if x4 = nI 0 then
(ex (d + 1) 158 65 [some (vr 7 0 0), some (vi x1), some (vi x2), some (vi x3), none, some (vi y0)] [] O)
else
(if ib ((x1 + (nI 4)) + x2) 210 then
(if ib ((x1 + (nI 4)) + x2) 210 then
(if ib ((x1 + (nI 4)) + x2) 210 then
(if ((up O 7 0 28 (Int32.toNatClampNeg ((x1 + (nI 4)) + x2)) ((O 7 0 28 (Int32.toNatClampNeg ((x1 + (nI 4)) + x2))) + (nI 1))) 7 0 28 (Int32.toNatClampNeg ((x1 + (nI 4)) + x2))) = (nI 2) then
(ex (d + 1) 158 65 [some (vr 7 0 0), some (vi x1), some (vi x2), some (vi x3), none, some (vi (nI 1))] [] (up O 7 0 28 (Int32.toNatClampNeg ((x1 + (nI 4)) + x2)) ((O 7 0 28 (Int32.toNatClampNeg ((x1 + (nI 4)) + x2))) + (nI 1))))
else
(ex (d + 1) 158 65 [some (vr 7 0 0), some (vi x1), some (vi x2), some (vi x3), none, some (vi (nI 0))] [] (up O 7 0 28 (Int32.toNatClampNeg ((x1 + (nI 4)) + x2)) ((O 7 0 28 (Int32.toNatClampNeg ((x1 + (nI 4)) + x2))) + (nI 1)))))
else none)
else none)
else none))
else
(ex (d + 1) 158 65 [some (vr 7 0 0), some (vi x1), some (vi x2), some (vi x3), none, some (vi y0)] [] O) := (ex_un d 158 300 18 [some (vr 7 0 0), some (vi x1), some (vi x2), some (vi x3), some (vi x4)] [vi y0] O).trans rfl
set_option maxRecDepth 100000 in
theorem sX7_proudLooks_65 (d : Nat) (O : Mem_) (x1 : Int32) (x2 : Int32) (x3 : Int32) (x5 : Int32) : ex (d + 1) 158 65 [some (vr 7 0 0), some (vi x1), some (vi x2), some (vi x3), none, some (vi x5)] [] O =
if x5 = nI 0 then
(some (nI 0, O))
else
((ex d 156 0 [some (vr 7 0 0), some (vi x3)] [] O).bind fun r0 =>
if ib (x1 + x2) 210 then
(if ib ((x1 + (nI 4)) + x2) 210 then
(some (nI 0, (up (up r0.2 7 0 28 (Int32.toNatClampNeg (x1 + x2)) r0.1) 7 0 28 (Int32.toNatClampNeg ((x1 + (nI 4)) + x2)) (nI 0))))
else none)
else none) := (ex_un d 158 300 65 [some (vr 7 0 0), some (vi x1), some (vi x2), some (vi x3), none, some (vi x5)] [] O).trans rfl
set_option maxRecDepth 100000 in
theorem sX7_looks_0 (d : Nat) (O : Mem_) (x1 : Int32) (x2 : Int32) (x3 : Int32) (x4 : Int32) (x5 : Int32) : ex (d + 1) 159 0 [some (vr 7 0 0), some (vi x1), some (vi x2), some (vi x3), some (vi x4), some (vi x5)] [] O =
(ex d 155 0 [some (vr 7 0 0), some (vi x1), some (vi x3)] [] O).bind fun r0 =>
(ex d 147 0 [some (vr 7 0 0), some (vi x2)] [] r0.2).bind fun r1 =>
ex (d + 1) 159 25 [some (vr 7 0 0), none, some (vi x2), some (vi x3), some (vi x4), some (vi x5), some (vi (x1 + ((nI 10) * x2))), some (vi (r0.1 &&& r1.1)), some (vi (nI 0))] [] r1.2 := (ex_un d 159 300 0 [some (vr 7 0 0), some (vi x1), some (vi x2), some (vi x3), some (vi x4), some (vi x5)] [] O).trans rfl
set_option maxRecDepth 100000 in
theorem sX7_looks_25 (d : Nat) (O : Mem_) (x2 : Int32) (x3 : Int32) (x4 : Int32) (x5 : Int32) (x6 : Int32) (x7 : Int32) (x8 : Int32) : ex (d + 1) 159 25 [some (vr 7 0 0), none, some (vi x2), some (vi x3), some (vi x4), some (vi x5), some (vi x6), some (vi x7), some (vi x8)] [] O =
if x8 < (O 7 0 0 5) then
(if ib (((nI 5) * x2) + (nI 3)) 30 then
(if (O 7 0 9 (Int32.toNatClampNeg (((nI 5) * x2) + (nI 3)))) = (nI 1) then
(if x8 = x3 then
(ex (d + 1) 159 25 [some (vr 7 0 0), none, some (vi x2), some (vi x3), some (vi x4), some (vi x5), some (vi x6), some (vi (x7 &&& (-1))), some (vi (x8 + (nI 1)))] [] O)
else
(if ib (x6 + x8) 210 then
(if (O 7 0 28 (Int32.toNatClampNeg (x6 + x8))) = (oI none) then
(ex (d + 1) 159 25 [some (vr 7 0 0), none, some (vi x2), some (vi x3), some (vi x4), some (vi x5), some (vi x6), some (vi (x7 &&& (-1))), some (vi (x8 + (nI 1)))] [] O)
else
(if ib (x6 + x8) 210 then
(ex (d + 1) 159 25 [some (vr 7 0 0), none, some (vi x2), some (vi x3), some (vi x4), some (vi x5), some (vi x6), some (vi (x7 &&& (((nI 1) <<< ((O 7 0 28 (Int32.toNatClampNeg (x6 + x8))) &&& (31:Int32))) ^^^ (-1)))), some (vi (x8 + (nI 1)))] [] O)
else none))
else none))
else
(ex (d + 1) 159 25 [some (vr 7 0 0), none, some (vi x2), some (vi x3), some (vi x4), some (vi x5), some (vi x6), some (vi (x7 &&& (-1))), some (vi (x8 + (nI 1)))] [] O))
else none)
else
(if ib ((nI 5) * x2) 30 then
(if (O 7 0 9 (Int32.toNatClampNeg ((nI 5) * x2))) = (nI 3) then
(if ib (x6 + x3) 210 then
(if (O 7 0 28 (Int32.toNatClampNeg (x6 + x3))) = (oI none) then
(ex (d + 1) 159 161 [some (vr 7 0 0), none, none, some (vi x3), none, none, some (vi x6)] [vi x7, vi x3, vi x6, vr 7 0 0] O)
else
(if ib (x6 + x3) 210 then
(if ib (O 7 0 28 (Int32.toNatClampNeg (x6 + x3))) 12 then
((ex d 122 0 [some (vi x5)] [] O).bind fun r0 =>
if (((O 7 0 19 (Int32.toNatClampNeg (O 7 0 28 (Int32.toNatClampNeg (x6 + x3))))) >>> (x4 &&& (31:Int32))) &&& (nI 1)) = r0.1 then
(ex (d + 1) 159 161 [some (vr 7 0 0), none, none, some (vi x3), none, none, some (vi x6)] [vi x7, vi x3, vi x6, vr 7 0 0] r0.2)
else
((ex d 158 0 [some (vr 7 0 0), some (vi x6), some (vi x3), some (vi x7), some (vi (nI 1))] [] r0.2).bind fun r1 =>
ex (d + 1) 159 274 [some (vr 7 0 0), none, none, some (vi x3), none, none, some (vi x6)] [] r1.2))
else none)
else none))
else none)
else
(if ib ((nI 5) * x2) 30 then
(if (O 7 0 9 (Int32.toNatClampNeg ((nI 5) * x2))) = (nI 2) then
((ex d 157 0 [some (vr 7 0 0), some (vi x7)] [] O).bind fun r2 =>
if r2.1 = nI 0 then
(if ib (x6 + x3) 210 then
(ex (d + 1) 159 274 [some (vr 7 0 0), none, none, some (vi x3), none, none, some (vi x6)] [] (up r2.2 7 0 28 (Int32.toNatClampNeg (x6 + x3)) (oI none)))
else none)
else
((ex d 156 0 [some (vr 7 0 0), some (vi x7)] [] r2.2).bind fun r3 =>
if ib (x6 + x3) 210 then
(ex (d + 1) 159 274 [some (vr 7 0 0), none, none, some (vi x3), none, none, some (vi x6)] [] (up r3.2 7 0 28 (Int32.toNatClampNeg (x6 + x3)) r3.1))
else none))
else
(if ib (x6 + (nI 8)) 210 then
(if ib ((nI 5) * x2) 30 then
(if (O 7 0 9 (Int32.toNatClampNeg ((nI 5) * x2))) = (nI 1) then
(if (O 7 0 28 (Int32.toNatClampNeg (x6 + (nI 8)))) = (oI none) then
(ex (d + 1) 159 267 [some (vr 7 0 0), none, none, some (vi x3), none, none, some (vi x6), some (vi x7)] [vi (x6 + x3), vr 7 0 28] O)
else
(if ((x7 >>> ((O 7 0 28 (Int32.toNatClampNeg (x6 + (nI 8)))) &&& (31:Int32))) &&& (nI 1)) = (nI 1) then
(if ib (x6 + x3) 210 then
(ex (d + 1) 159 274 [some (vr 7 0 0), none, none, some (vi x3), none, none, some (vi x6)] [] (up O 7 0 28 (Int32.toNatClampNeg (x6 + x3)) (O 7 0 28 (Int32.toNatClampNeg (x6 + (nI 8))))))
else none)
else
(ex (d + 1) 159 267 [some (vr 7 0 0), none, none, some (vi x3), none, none, some (vi x6), some (vi x7)] [vi (x6 + x3), vr 7 0 28] O)))
else
(ex (d + 1) 159 267 [some (vr 7 0 0), none, none, some (vi x3), none, none, some (vi x6), some (vi x7)] [vi (x6 + x3), vr 7 0 28] O))
else none)
else none))
else none))
else none) := (ex_un d 159 300 25 [some (vr 7 0 0), none, some (vi x2), some (vi x3), some (vi x4), some (vi x5), some (vi x6), some (vi x7), some (vi x8)] [] O).trans rfl
set_option maxRecDepth 100000 in
theorem sX7_looks_161 (d : Nat) (O : Mem_) (x3 : Int32) (x6 : Int32) (y0 : Int32) (y1 : Int32) (y2 : Int32) : ex (d + 1) 159 161 [some (vr 7 0 0), none, none, some (vi x3), none, none, some (vi x6)] [vi y0, vi y1, vi y2, vr 7 0 0] O =
(ex d 158 0 [some (vr 7 0 0), some (vi y2), some (vi y1), some (vi y0), some (vi (nI 0))] [] O).bind fun r0 =>
ex (d + 1) 159 274 [some (vr 7 0 0), none, none, some (vi x3), none, none, some (vi x6)] [] r0.2 := (ex_un d 159 300 161 [some (vr 7 0 0), none, none, some (vi x3), none, none, some (vi x6)] [vi y0, vi y1, vi y2, vr 7 0 0] O).trans rfl
set_option maxRecDepth 100000 in
theorem sX7_looks_267 (d : Nat) (O : Mem_) (x3 : Int32) (x6 : Int32) (x7 : Int32) (y0 : Int32) : ex (d + 1) 159 267 [some (vr 7 0 0), none, none, some (vi x3), none, none, some (vi x6), some (vi x7)] [vi y0, vr 7 0 28] O =
(ex d 156 0 [some (vr 7 0 0), some (vi x7)] [] O).bind fun r0 =>
if ib y0 210 then
(ex (d + 1) 159 274 [some (vr 7 0 0), none, none, some (vi x3), none, none, some (vi x6)] [] (up r0.2 7 0 28 (Int32.toNatClampNeg y0) r0.1))
else none := (ex_un d 159 300 267 [some (vr 7 0 0), none, none, some (vi x3), none, none, some (vi x6), some (vi x7)] [vi y0, vr 7 0 28] O).trans rfl
set_option maxRecDepth 100000 in
theorem sX7_looks_274 (d : Nat) (O : Mem_) (x3 : Int32) (x6 : Int32) : ex (d + 1) 159 274 [some (vr 7 0 0), none, none, some (vi x3), none, none, some (vi x6)] [] O =
if ib (x6 + x3) 210 then
(if (O 7 0 28 (Int32.toNatClampNeg (x6 + x3))) = (oI none) then
(if ib (x6 + (nI 8)) 210 then
(if ib (x6 + (nI 8)) 210 then
(some (nI 0, (up O 7 0 28 (Int32.toNatClampNeg (x6 + (nI 8))) (O 7 0 28 (Int32.toNatClampNeg (x6 + (nI 8)))))))
else none)
else none)
else
(if ib (x6 + x3) 210 then
(if ib (x6 + (nI 8)) 210 then
(some (nI 0, (up O 7 0 28 (Int32.toNatClampNeg (x6 + (nI 8))) (O 7 0 28 (Int32.toNatClampNeg (x6 + x3))))))
else none)
else none))
else none := (ex_un d 159 300 274 [some (vr 7 0 0), none, none, some (vi x3), none, none, some (vi x6)] [] O).trans rfl
set_option maxRecDepth 100000 in
theorem sX7_flees_0 (d : Nat) (O : Mem_) (x1 : Int32) (x2 : Int32) : ex (d + 1) 160 0 [some (vr 7 0 0), some (vi x1), some (vi x2)] [] O =
if ib (x1 + (nI 9)) 210 then
(ex (d + 1) 160 12 [some (vr 7 0 0), some (vi x1), none, some (vi (nI 0))] [] (up O 7 0 28 (Int32.toNatClampNeg (x1 + (nI 9))) x2))
else none := (ex_un d 160 300 0 [some (vr 7 0 0), some (vi x1), some (vi x2)] [] O).trans rfl
set_option maxRecDepth 100000 in
theorem sX7_flees_12 (d : Nat) (O : Mem_) (x1 : Int32) (x3 : Int32) : ex (d + 1) 160 12 [some (vr 7 0 0), some (vi x1), none, some (vi x3)] [] O =
if x3 < (nI 4) then
(if ib (x1 + x3) 210 then
(if ib ((x1 + (nI 4)) + x3) 210 then
(ex (d + 1) 160 12 [some (vr 7 0 0), some (vi x1), none, some (vi (x3 + (nI 1)))] [] (up (up O 7 0 28 (Int32.toNatClampNeg (x1 + x3)) (oI none)) 7 0 28 (Int32.toNatClampNeg ((x1 + (nI 4)) + x3)) (nI 0)))
else none)
else none)
else
(some (nI 0, O)) := (ex_un d 160 300 12 [some (vr 7 0 0), some (vi x1), none, some (vi x3)] [] O).trans rfl
set_option maxRecDepth 100000 in
theorem sX7_sees_0 (d : Nat) (O : Mem_) (x1 : Int32) (x2 : Int32) (x3 : Int32) (x4 : Int32) (x5 : Int32) : ex (d + 1) 161 0 [some (vr 7 0 0), some (vi x1), some (vi x2), some (vi x3), some (vi x4), some (vi x5)] [] O =
if ib ((x1 + (nI 60)) + x3) 210 then
(if x5 = nI 0 then
(ex (d + 1) 161 25 [some (vr 7 0 0), some (vi x1), some (vi x2), some (vi x3), some (vi x4), some (vi x5)] [vi (nI 0), vi (O 7 0 28 (Int32.toNatClampNeg ((x1 + (nI 60)) + x3))), vi ((x1 + (nI 60)) + x3), vr 7 0 28] O)
else
(ex (d + 1) 161 25 [some (vr 7 0 0), some (vi x1), some (vi x2), some (vi x3), some (vi x4), some (vi x5)] [vi ((nI 1) <<< (x4 &&& (31:Int32))), vi (O 7 0 28 (Int32.toNatClampNeg ((x1 + (nI 60)) + x3))), vi ((x1 + (nI 60)) + x3), vr 7 0 28] O))
else none := (ex_un d 161 300 0 [some (vr 7 0 0), some (vi x1), some (vi x2), some (vi x3), some (vi x4), some (vi x5)] [] O).trans rfl
set_option maxRecDepth 100000 in
theorem sX7_sees_25 (d : Nat) (O : Mem_) (x1 : Int32) (x2 : Int32) (x3 : Int32) (x4 : Int32) (x5 : Int32) (y0 : Int32) (y1 : Int32) (y2 : Int32) : ex (d + 1) 161 25 [some (vr 7 0 0), some (vi x1), some (vi x2), some (vi x3), some (vi x4), some (vi x5)] [vi y0, vi y1, vi y2, vr 7 0 28] O =
if ib y2 210 then
(if ib ((x1 + (nI 64)) + x3) 210 then
(if x5 = nI 0 then
(if ib ((x1 + (nI 64)) + x3) 210 then
(ex (d + 1) 161 57 [some (vr 7 0 0), some (vi x1), some (vi x2), some (vi x3), some (vi x4), some (vi x5), some (vi (nI 0))] [] (up (up O 7 0 28 (Int32.toNatClampNeg y2) (y1 ||| y0)) 7 0 28 (Int32.toNatClampNeg ((x1 + (nI 64)) + x3)) (((up O 7 0 28 (Int32.toNatClampNeg y2) (y1 ||| y0)) 7 0 28 (Int32.toNatClampNeg ((x1 + (nI 64)) + x3))) ||| ((nI 1) <<< (x4 &&& (31:Int32))))))
else none)
else
(if ib ((x1 + (nI 64)) + x3) 210 then
(ex (d + 1) 161 57 [some (vr 7 0 0), some (vi x1), some (vi x2), some (vi x3), some (vi x4), some (vi x5), some (vi (nI 0))] [] (up (up O 7 0 28 (Int32.toNatClampNeg y2) (y1 ||| y0)) 7 0 28 (Int32.toNatClampNeg ((x1 + (nI 64)) + x3)) (((up O 7 0 28 (Int32.toNatClampNeg y2) (y1 ||| y0)) 7 0 28 (Int32.toNatClampNeg ((x1 + (nI 64)) + x3))) ||| (nI 0))))
else none))
else none)
else none := (ex_un d 161 300 25 [some (vr 7 0 0), some (vi x1), some (vi x2), some (vi x3), some (vi x4), some (vi x5)] [vi y0, vi y1, vi y2, vr 7 0 28] O).trans rfl
set_option maxRecDepth 100000 in
theorem sX7_sees_57 (d : Nat) (O : Mem_) (x1 : Int32) (x2 : Int32) (x3 : Int32) (x4 : Int32) (x5 : Int32) (x6 : Int32) : ex (d + 1) 161 57 [some (vr 7 0 0), some (vi x1), some (vi x2), some (vi x3), some (vi x4), some (vi x5), some (vi x6)] [] O =
if x6 < (O 7 0 0 7) then
(if ib ((x1 + ((nI 10) * x6)) + (nI 9)) 210 then
(if (O 7 0 28 (Int32.toNatClampNeg ((x1 + ((nI 10) * x6)) + (nI 9)))) = (oI none) then
(if ib (((nI 5) * x6) + (nI 2)) 30 then
(if (O 7 0 9 (Int32.toNatClampNeg (((nI 5) * x6) + (nI 2)))) = x4 then
((ex d 160 0 [some (vr 7 0 0), some (vi (x1 + ((nI 10) * x6))), some (vi x2)] [] O).bind fun r0 =>
ex (d + 1) 161 57 [some (vr 7 0 0), some (vi x1), some (vi x2), some (vi x3), some (vi x4), some (vi x5), some (vi (x6 + (nI 1)))] [] r0.2)
else
((ex d 159 0 [some (vr 7 0 0), some (vi x1), some (vi x6), some (vi x3), some (vi x4), some (vi x5)] [] O).bind fun r1 =>
ex (d + 1) 161 57 [some (vr 7 0 0), some (vi x1), some (vi x2), some (vi x3), some (vi x4), some (vi x5), some (vi (x6 + (nI 1)))] [] r1.2))
else none)
else
(ex (d + 1) 161 57 [some (vr 7 0 0), some (vi x1), some (vi x2), some (vi x3), some (vi x4), some (vi x5), some (vi (x6 + (nI 1)))] [] O))
else none)
else
(some (nI 0, O)) := (ex_un d 161 300 57 [some (vr 7 0 0), some (vi x1), some (vi x2), some (vi x3), some (vi x4), some (vi x5), some (vi x6)] [] O).trans rfl
set_option maxRecDepth 100000 in
theorem sX7_replays_0 (d : Nat) (O : Mem_)  : ex (d + 1) 162 0 [some (vr 7 0 0)] [] O =
(ex d 153 0 [some (vr 7 0 0), some (vi (nI 0))] [] O).bind fun r0 =>
ex (d + 1) 162 7 [some (vr 7 0 0), some (vi (nI 0))] [] r0.2 := (ex_un d 162 300 0 [some (vr 7 0 0)] [] O).trans rfl
set_option maxRecDepth 100000 in
theorem sX7_replays_7 (d : Nat) (O : Mem_) (x1 : Int32) : ex (d + 1) 162 7 [some (vr 7 0 0), some (vi x1)] [] O =
if x1 < (O 7 0 0 28) then
(if ib ((nI 3) * x1) 72 then
(if ib (((nI 3) * x1) + (nI 1)) 72 then
(if ib (((nI 3) * x1) + (nI 2)) 72 then
(if (O 7 0 30 (Int32.toNatClampNeg (((nI 3) * x1) + (nI 2)))) = (nI 1) then
(ex (d + 1) 162 55 [some (vr 7 0 0), some (vi x1)] [vi (nI 1), vi (O 7 0 30 (Int32.toNatClampNeg (((nI 3) * x1) + (nI 1)))), vi (O 7 0 30 (Int32.toNatClampNeg ((nI 3) * x1))), vi x1, vi (nI 0), vr 7 0 0] O)
else
(ex (d + 1) 162 55 [some (vr 7 0 0), some (vi x1)] [vi (nI 0), vi (O 7 0 30 (Int32.toNatClampNeg (((nI 3) * x1) + (nI 1)))), vi (O 7 0 30 (Int32.toNatClampNeg ((nI 3) * x1))), vi x1, vi (nI 0), vr 7 0 0] O))
else none)
else none)
else none)
else
(some (nI 0, O)) := (ex_un d 162 300 7 [some (vr 7 0 0), some (vi x1)] [] O).trans rfl
set_option maxRecDepth 100000 in
theorem sX7_replays_55 (d : Nat) (O : Mem_) (x1 : Int32) (y0 : Int32) (y1 : Int32) (y2 : Int32) (y3 : Int32) (y4 : Int32) : ex (d + 1) 162 55 [some (vr 7 0 0), some (vi x1)] [vi y0, vi y1, vi y2, vi y3, vi y4, vr 7 0 0] O =
(ex d 161 0 [some (vr 7 0 0), some (vi y4), some (vi y3), some (vi y2), some (vi y1), some (vi y0)] [] O).bind fun r0 =>
ex (d + 1) 162 7 [some (vr 7 0 0), some (vi (x1 + (nI 1)))] [] r0.2 := (ex_un d 162 300 55 [some (vr 7 0 0), some (vi x1)] [vi y0, vi y1, vi y2, vi y3, vi y4, vr 7 0 0] O).trans rfl
set_option maxRecDepth 100000 in
theorem sX7_adds_0 (d : Nat) (O : Mem_) (x1 : Int32) (x2 : Int32) (x3 : Int32) : ex (d + 1) 163 0 [some (vr 7 0 0), some (vi x1), some (vi x2), some (vi x3)] [] O =
if (O 7 0 0 28) = (nI 24) then
(some ((-3), O))
else
(if ib ((nI 3) * (O 7 0 0 28)) 72 then
(if ib (((nI 3) * ((up O 7 0 30 (Int32.toNatClampNeg ((nI 3) * (O 7 0 0 28))) x1) 7 0 0 28)) + (nI 1)) 72 then
((ex d 122 0 [some (vi x3)] [] (up (up O 7 0 30 (Int32.toNatClampNeg ((nI 3) * (O 7 0 0 28))) x1) 7 0 30 (Int32.toNatClampNeg (((nI 3) * ((up O 7 0 30 (Int32.toNatClampNeg ((nI 3) * (O 7 0 0 28))) x1) 7 0 0 28)) + (nI 1))) x2)).bind fun r0 =>
if ib (((nI 3) * ((up (up O 7 0 30 (Int32.toNatClampNeg ((nI 3) * (O 7 0 0 28))) x1) 7 0 30 (Int32.toNatClampNeg (((nI 3) * ((up O 7 0 30 (Int32.toNatClampNeg ((nI 3) * (O 7 0 0 28))) x1) 7 0 0 28)) + (nI 1))) x2) 7 0 0 28)) + (nI 2)) 72 then
((ex d 161 0 [some (vr 7 0 0), some (vi (nI 0)), some (vi ((up r0.2 7 0 30 (Int32.toNatClampNeg (((nI 3) * ((up (up O 7 0 30 (Int32.toNatClampNeg ((nI 3) * (O 7 0 0 28))) x1) 7 0 30 (Int32.toNatClampNeg (((nI 3) * ((up O 7 0 30 (Int32.toNatClampNeg ((nI 3) * (O 7 0 0 28))) x1) 7 0 0 28)) + (nI 1))) x2) 7 0 0 28)) + (nI 2))) r0.1) 7 0 0 28)), some (vi x1), some (vi x2), some (vi x3)] [] (up r0.2 7 0 30 (Int32.toNatClampNeg (((nI 3) * ((up (up O 7 0 30 (Int32.toNatClampNeg ((nI 3) * (O 7 0 0 28))) x1) 7 0 30 (Int32.toNatClampNeg (((nI 3) * ((up O 7 0 30 (Int32.toNatClampNeg ((nI 3) * (O 7 0 0 28))) x1) 7 0 0 28)) + (nI 1))) x2) 7 0 0 28)) + (nI 2))) r0.1)).bind fun r1 =>
some (((up r1.2 7 0 0 28 ((r1.2 7 0 0 28) + (nI 1))) 7 0 0 28), (up r1.2 7 0 0 28 ((r1.2 7 0 0 28) + (nI 1)))))
else none)
else none)
else none) := (ex_un d 163 300 0 [some (vr 7 0 0), some (vi x1), some (vi x2), some (vi x3)] [] O).trans rfl
set_option maxRecDepth 100000 in
theorem sX7_isTrue_0 (d : Nat) (O : Mem_) (x1 : Int32) (x2 : Int32) : ex (d + 1) 164 0 [some (vr 7 0 0), some (vi x1), some (vi x2)] [] O =
(ex d 148 0 [some (vr 7 0 0), some (vi x1)] [] O).bind fun r0 =>
if ((r0.1 >>> (x2 &&& (31:Int32))) &&& (nI 1)) = (nI 1) then
(some ((nI 1), r0.2))
else
(some ((nI 0), r0.2)) := (ex_un d 164 300 0 [some (vr 7 0 0), some (vi x1), some (vi x2)] [] O).trans rfl
set_option maxRecDepth 100000 in
theorem sX7_show_0 (d : Nat) (O : Mem_) (x1 : Int32) (x2 : Int32) (x3 : Int32) : ex (d + 1) 165 0 [some (vr 7 0 0), some (vi x1), some (vi x2), some (vi x3)] [] O =
(ex d 143 0 [some (vr 7 0 0), some (vi x1)] [] O).bind fun r0 =>
if r0.1 = nI 0 then
(some ((-1), r0.2))
else
((ex d 142 0 [some (vr 7 0 0), some (vi x2)] [] r0.2).bind fun r1 =>
if r1.1 = nI 0 then
(some ((-1), r1.2))
else
((ex d 163 0 [some (vr 7 0 0), some (vi x1), some (vi x2), some (vi x3)] [] r1.2).bind fun r2 =>
some (r2.1, r2.2))) := (ex_un d 165 300 0 [some (vr 7 0 0), some (vi x1), some (vi x2), some (vi x3)] [] O).trans rfl
set_option maxRecDepth 100000 in
theorem sX7_teach_0 (d : Nat) (O : Mem_) (x1 : Int32) (x2 : Int32) : ex (d + 1) 166 0 [some (vr 7 0 0), some (vi x1), some (vi x2)] [] O =
(ex d 143 0 [some (vr 7 0 0), some (vi x1)] [] O).bind fun r0 =>
if r0.1 = nI 0 then
(some ((-1), r0.2))
else
((ex d 142 0 [some (vr 7 0 0), some (vi x2)] [] r0.2).bind fun r1 =>
if r1.1 = nI 0 then
(some ((-1), r1.2))
else
((ex d 164 0 [some (vr 7 0 0), some (vi x1), some (vi x2)] [] r1.2).bind fun r2 =>
(ex d 163 0 [some (vr 7 0 0), some (vi x1), some (vi x2), some (vi r2.1)] [] r2.2).bind fun r3 =>
some (r3.1, r3.2))) := (ex_un d 166 300 0 [some (vr 7 0 0), some (vi x1), some (vi x2)] [] O).trans rfl
set_option maxRecDepth 100000 in
theorem sX7_undo_0 (d : Nat) (O : Mem_)  : ex (d + 1) 167 0 [some (vr 7 0 0)] [] O =
if (O 7 0 0 28) = nI 0 then
(some ((oI none), O))
else
((ex d 162 0 [some (vr 7 0 0)] [] (up O 7 0 0 28 ((O 7 0 0 28) - (nI 1)))).bind fun r0 =>
some ((r0.2 7 0 0 28), r0.2)) := (ex_un d 167 300 0 [some (vr 7 0 0)] [] O).trans rfl
set_option maxRecDepth 100000 in
theorem sX7_clear_0 (d : Nat) (O : Mem_)  : ex (d + 1) 168 0 [some (vr 7 0 0)] [] O =
(ex d 162 0 [some (vr 7 0 0)] [] (up (up O 7 0 0 28 (nI 0)) 7 0 0 33 (((nI 1) <<< (((up O 7 0 0 28 (nI 0)) 7 0 0 7) &&& (31:Int32))) - (nI 1)))).bind fun r0 =>
some ((O 7 0 0 28), r0.2) := (ex_un d 168 300 0 [some (vr 7 0 0)] [] O).trans rfl
set_option maxRecDepth 100000 in
theorem sX7_shown_0 (d : Nat) (O : Mem_) (x1 : Int32) (x2 : Int32) : ex (d + 1) 169 0 [some (vr 7 0 0), some (vi x1), some (vi x2)] [] O =
(ex d 121 0 [some (vl (Int32.toInt64 x1)), none, some (vl 0), none, some (vl (Int32.toInt64 ((O 7 0 0 28) - (nI 1)))), none] [] O).bind fun r0 =>
if r0.1 = nI 0 then
(some ((-1), r0.2))
else
((ex d 121 0 [some (vl (Int32.toInt64 x2)), none, some (vl 0), none, some (vl (2)), none] [] r0.2).bind fun r1 =>
if r1.1 = nI 0 then
(some ((-1), r1.2))
else
(if ib (((nI 3) * x1) + x2) 72 then
(some ((r1.2 7 0 30 (Int32.toNatClampNeg (((nI 3) * x1) + x2))), r1.2))
else none)) := (ex_un d 169 300 0 [some (vr 7 0 0), some (vi x1), some (vi x2)] [] O).trans rfl
set_option maxRecDepth 100000 in
theorem sX7_thinks_0 (d : Nat) (O : Mem_) (x1 : Int32) (x2 : Int32) : ex (d + 1) 170 0 [some (vr 7 0 0), some (vi x1), some (vi x2)] [] O =
(ex d 144 0 [some (vr 7 0 0), some (vi x1)] [] O).bind fun r0 =>
if r0.1 = nI 0 then
(some ((-1), r0.2))
else
((ex d 143 0 [some (vr 7 0 0), some (vi x2)] [] r0.2).bind fun r1 =>
if r1.1 = nI 0 then
(some ((-1), r1.2))
else
(if ib (((nI 0) + ((nI 10) * x1)) + x2) 210 then
(some ((r1.2 7 0 28 (Int32.toNatClampNeg (((nI 0) + ((nI 10) * x1)) + x2))), r1.2))
else none)) := (ex_un d 170 300 0 [some (vr 7 0 0), some (vi x1), some (vi x2)] [] O).trans rfl
set_option maxRecDepth 100000 in
theorem sX7_fits_0 (d : Nat) (O : Mem_) (x1 : Int32) (x2 : Int32) : ex (d + 1) 171 0 [some (vr 7 0 0), some (vi x1), some (vi x2)] [] O =
(ex d 144 0 [some (vr 7 0 0), some (vi x1)] [] O).bind fun r0 =>
if r0.1 = nI 0 then
(some ((-1), r0.2))
else
((ex d 143 0 [some (vr 7 0 0), some (vi x2)] [] r0.2).bind fun r1 =>
if r1.1 = nI 0 then
(some ((-1), r1.2))
else
((ex d 155 0 [some (vr 7 0 0), some (vi (nI 0)), some (vi x2)] [] r1.2).bind fun r2 =>
(ex d 147 0 [some (vr 7 0 0), some (vi x1)] [] r2.2).bind fun r3 =>
some ((r2.1 &&& r3.1), r3.2))) := (ex_un d 171 300 0 [some (vr 7 0 0), some (vi x1), some (vi x2)] [] O).trans rfl
set_option maxRecDepth 100000 in
theorem sX7_isSame_0 (d : Nat) (O : Mem_) (x1 : Int32) (x2 : Int32) (x3 : Int32) : ex (d + 1) 172 0 [some (vr 7 0 0), some (vi x1), some (vi x2), some (vi x3)] [] O =
if ib ((x1 + ((nI 10) * x2)) + x3) 210 then
(if (O 7 0 28 (Int32.toNatClampNeg ((x1 + ((nI 10) * x2)) + x3))) = (oI none) then
(some ((nI 0), O))
else
(if ib (O 7 0 28 (Int32.toNatClampNeg ((x1 + ((nI 10) * x2)) + x3))) 12 then
((ex d 148 0 [some (vr 7 0 0), some (vi x3)] [] O).bind fun r0 =>
if (O 7 0 19 (Int32.toNatClampNeg (O 7 0 28 (Int32.toNatClampNeg ((x1 + ((nI 10) * x2)) + x3))))) = r0.1 then
(some ((nI 1), r0.2))
else
(some ((nI 0), r0.2)))
else none))
else none := (ex_un d 172 300 0 [some (vr 7 0 0), some (vi x1), some (vi x2), some (vi x3)] [] O).trans rfl
set_option maxRecDepth 100000 in
theorem sX7_same_0 (d : Nat) (O : Mem_) (x1 : Int32) (x2 : Int32) : ex (d + 1) 173 0 [some (vr 7 0 0), some (vi x1), some (vi x2)] [] O =
(ex d 144 0 [some (vr 7 0 0), some (vi x1)] [] O).bind fun r0 =>
if r0.1 = nI 0 then
(some ((-1), r0.2))
else
((ex d 143 0 [some (vr 7 0 0), some (vi x2)] [] r0.2).bind fun r1 =>
if r1.1 = nI 0 then
(some ((-1), r1.2))
else
((ex d 172 0 [some (vr 7 0 0), some (vi (nI 0)), some (vi x1), some (vi x2)] [] r1.2).bind fun r2 =>
(ex d 122 0 [some (vi r2.1)] [] r2.2).bind fun r3 =>
some (r3.1, r3.2))) := (ex_un d 173 300 0 [some (vr 7 0 0), some (vi x1), some (vi x2)] [] O).trans rfl
set_option maxRecDepth 100000 in
theorem sX7_fled_0 (d : Nat) (O : Mem_) (x1 : Int32) : ex (d + 1) 174 0 [some (vr 7 0 0), some (vi x1)] [] O =
(ex d 144 0 [some (vr 7 0 0), some (vi x1)] [] O).bind fun r0 =>
if r0.1 = nI 0 then
(some ((-1), r0.2))
else
(if ib (((nI 0) + ((nI 10) * x1)) + (nI 9)) 210 then
(some ((r0.2 7 0 28 (Int32.toNatClampNeg (((nI 0) + ((nI 10) * x1)) + (nI 9)))), r0.2))
else none) := (ex_un d 174 300 0 [some (vr 7 0 0), some (vi x1)] [] O).trans rfl
set_option maxRecDepth 100000 in
theorem sX7_against_0 (d : Nat) (O : Mem_) (x1 : Int32) (x2 : Int32) : ex (d + 1) 175 0 [some (vr 7 0 0), some (vi x1), some (vi x2)] [] O =
(ex d 144 0 [some (vr 7 0 0), some (vi x1)] [] O).bind fun r0 =>
if r0.1 = nI 0 then
(some ((-1), r0.2))
else
((ex d 143 0 [some (vr 7 0 0), some (vi x2)] [] r0.2).bind fun r1 =>
if r1.1 = nI 0 then
(some ((-1), r1.2))
else
(if ib ((((nI 0) + ((nI 10) * x1)) + (nI 4)) + x2) 210 then
(some ((r1.2 7 0 28 (Int32.toNatClampNeg ((((nI 0) + ((nI 10) * x1)) + (nI 4)) + x2))), r1.2))
else none)) := (ex_un d 175 300 0 [some (vr 7 0 0), some (vi x1), some (vi x2)] [] O).trans rfl
set_option maxRecDepth 100000 in
theorem sX7_isSameForAll_0 (d : Nat) (O : Mem_) (x1 : Int32) (x2 : Int32) (x3 : Int32) : ex (d + 1) 176 0 [some (vr 7 0 0), some (vi x1), some (vi x2), some (vi x3)] [] O =
ex (d + 1) 176 6 [some (vr 7 0 0), some (vi x1), some (vi x2), some (vi x3), some (vi (nI 1)), some (vi (nI 0))] [] O := (ex_un d 176 300 0 [some (vr 7 0 0), some (vi x1), some (vi x2), some (vi x3)] [] O).trans rfl
set_option maxRecDepth 100000 in
theorem sX7_isSameForAll_6 (d : Nat) (O : Mem_) (x1 : Int32) (x2 : Int32) (x3 : Int32) (x4 : Int32) (x5 : Int32) : ex (d + 1) 176 6 [some (vr 7 0 0), some (vi x1), some (vi x2), some (vi x3), some (vi x4), some (vi x5)] [] O =
if x5 < (O 7 0 0 7) then
(if x4 = nI 0 then
(ex (d + 1) 176 6 [some (vr 7 0 0), some (vi x1), some (vi x2), some (vi x3), some (vi (nI 0)), some (vi (x5 + (nI 1)))] [] O)
else
(if ((x2 >>> (x5 &&& (31:Int32))) &&& (nI 1)) = nI 0 then
(ex (d + 1) 176 6 [some (vr 7 0 0), some (vi x1), some (vi x2), some (vi x3), some (vi (nI 1)), some (vi (x5 + (nI 1)))] [] O)
else
((ex d 172 0 [some (vr 7 0 0), some (vi x1), some (vi x5), some (vi x3)] [] O).bind fun r0 =>
if r0.1 = nI 0 then
(ex (d + 1) 176 6 [some (vr 7 0 0), some (vi x1), some (vi x2), some (vi x3), some (vi (nI 0)), some (vi (x5 + (nI 1)))] [] r0.2)
else
(ex (d + 1) 176 6 [some (vr 7 0 0), some (vi x1), some (vi x2), some (vi x3), some (vi (nI 1)), some (vi (x5 + (nI 1)))] [] r0.2))))
else
(if x4 = nI 0 ∨ x4 = nI 1 then some (x4, O) else none) := (ex_un d 176 300 6 [some (vr 7 0 0), some (vi x1), some (vi x2), some (vi x3), some (vi x4), some (vi x5)] [] O).trans rfl
set_option maxRecDepth 100000 in
theorem sX7_common_0 (d : Nat) (O : Mem_) (x1 : Int32) : ex (d + 1) 177 0 [some (vr 7 0 0), some (vi x1)] [] O =
(ex d 145 0 [some (vr 7 0 0), some (vi x1)] [] O).bind fun r0 =>
if r0.1 = nI 0 then
(some ((-1), r0.2))
else
(ex (d + 1) 177 14 [some (vr 7 0 0), some (vi x1), some (vi (nI 0)), some (vi (nI 0))] [] r0.2) := (ex_un d 177 300 0 [some (vr 7 0 0), some (vi x1)] [] O).trans rfl
set_option maxRecDepth 100000 in
theorem sX7_common_14 (d : Nat) (O : Mem_) (x1 : Int32) (x2 : Int32) (x3 : Int32) : ex (d + 1) 177 14 [some (vr 7 0 0), some (vi x1), some (vi x2), some (vi x3)] [] O =
if x3 < (O 7 0 0 5) then
((ex d 176 0 [some (vr 7 0 0), some (vi (nI 0)), some (vi x1), some (vi x3)] [] O).bind fun r0 =>
if r0.1 = nI 0 then
(ex (d + 1) 177 14 [some (vr 7 0 0), some (vi x1), some (vi (x2 ||| (nI 0))), some (vi (x3 + (nI 1)))] [] r0.2)
else
(ex (d + 1) 177 14 [some (vr 7 0 0), some (vi x1), some (vi (x2 ||| ((nI 1) <<< (x3 &&& (31:Int32))))), some (vi (x3 + (nI 1)))] [] r0.2))
else
(some (x2, O)) := (ex_un d 177 300 14 [some (vr 7 0 0), some (vi x1), some (vi x2), some (vi x3)] [] O).trans rfl
set_option maxRecDepth 100000 in
theorem sX7_copies_0 (d : Nat) (O : Mem_) (x1 : Int32) (x2 : Int32) : ex (d + 1) 178 0 [some (vr 7 0 0), some (vi x1), some (vi x2)] [] O =
ex (d + 1) 178 2 [some (vr 7 0 0), some (vi x1), some (vi x2), some (vi (nI 0))] [] O := (ex_un d 178 300 0 [some (vr 7 0 0), some (vi x1), some (vi x2)] [] O).trans rfl
set_option maxRecDepth 100000 in
theorem sX7_copies_2 (d : Nat) (O : Mem_) (x1 : Int32) (x2 : Int32) (x3 : Int32) : ex (d + 1) 178 2 [some (vr 7 0 0), some (vi x1), some (vi x2), some (vi x3)] [] O =
if x3 < (nI 70) then
(if ib (x2 + x3) 210 then
(if ib (x1 + x3) 210 then
(ex (d + 1) 178 2 [some (vr 7 0 0), some (vi x1), some (vi x2), some (vi (x3 + (nI 1)))] [] (up O 7 0 28 (Int32.toNatClampNeg (x1 + x3)) (O 7 0 28 (Int32.toNatClampNeg (x2 + x3)))))
else none)
else none)
else
(some (nI 0, O)) := (ex_un d 178 300 2 [some (vr 7 0 0), some (vi x1), some (vi x2), some (vi x3)] [] O).trans rfl
set_option maxRecDepth 100000 in
theorem sX7_hasFled_0 (d : Nat) (O : Mem_) (x1 : Int32) (x2 : Int32) : ex (d + 1) 179 0 [some (vr 7 0 0), some (vi x1), some (vi x2)] [] O =
ex (d + 1) 179 5 [some (vr 7 0 0), some (vi x1), some (vi x2), some (vi (nI 0)), some (vi (nI 0))] [] O := (ex_un d 179 300 0 [some (vr 7 0 0), some (vi x1), some (vi x2)] [] O).trans rfl
set_option maxRecDepth 100000 in
theorem sX7_hasFled_5 (d : Nat) (O : Mem_) (x1 : Int32) (x2 : Int32) (x3 : Int32) (x4 : Int32) : ex (d + 1) 179 5 [some (vr 7 0 0), some (vi x1), some (vi x2), some (vi x3), some (vi x4)] [] O =
if x4 < (O 7 0 0 7) then
(if x3 = nI 0 then
(if ((x2 >>> (x4 &&& (31:Int32))) &&& (nI 1)) = (nI 1) then
(if ib ((x1 + ((nI 10) * x4)) + (nI 9)) 210 then
(if (O 7 0 28 (Int32.toNatClampNeg ((x1 + ((nI 10) * x4)) + (nI 9)))) = (oI none) then
(ex (d + 1) 179 5 [some (vr 7 0 0), some (vi x1), some (vi x2), some (vi (nI 0)), some (vi (x4 + (nI 1)))] [] O)
else
(ex (d + 1) 179 5 [some (vr 7 0 0), some (vi x1), some (vi x2), some (vi (nI 1)), some (vi (x4 + (nI 1)))] [] O))
else none)
else
(ex (d + 1) 179 5 [some (vr 7 0 0), some (vi x1), some (vi x2), some (vi (nI 0)), some (vi (x4 + (nI 1)))] [] O))
else
(ex (d + 1) 179 5 [some (vr 7 0 0), some (vi x1), some (vi x2), some (vi (nI 1)), some (vi (x4 + (nI 1)))] [] O))
else
(if x3 = nI 0 ∨ x3 = nI 1 then some (x3, O) else none) := (ex_un d 179 300 5 [some (vr 7 0 0), some (vi x1), some (vi x2), some (vi x3), some (vi x4)] [] O).trans rfl
set_option maxRecDepth 100000 in
theorem sX7_nextRow_0 (d : Nat) (O : Mem_) (x1 : Int32) : ex (d + 1) 180 0 [some (vr 7 0 0), some (vi x1)] [] O =
ex (d + 1) 180 4 [some (vr 7 0 0), none, some (vi (x1 - (nI 1)))] [] O := (ex_un d 180 300 0 [some (vr 7 0 0), some (vi x1)] [] O).trans rfl
set_option maxRecDepth 100000 in
theorem sX7_nextRow_4 (d : Nat) (O : Mem_) (x2 : Int32) : ex (d + 1) 180 4 [some (vr 7 0 0), none, some (vi x2)] [] O =
if x2 < nI 0 then
(ex (d + 1) 180 36 [some (vr 7 0 0), none, some (vi x2)] [] O)
else
(if ib x2 5 then
(if (O 7 0 31 (Int32.toNatClampNeg x2)) = ((O 7 0 0 0) - (nI 1)) then
(if ib x2 5 then
(ex (d + 1) 180 4 [some (vr 7 0 0), none, some (vi (x2 + (-1)))] [] (up O 7 0 31 (Int32.toNatClampNeg x2) (nI 0)))
else none)
else
(ex (d + 1) 180 36 [some (vr 7 0 0), none, some (vi x2)] [] O))
else none) := (ex_un d 180 300 4 [some (vr 7 0 0), none, some (vi x2)] [] O).trans rfl
set_option maxRecDepth 100000 in
theorem sX7_nextRow_36 (d : Nat) (O : Mem_) (x2 : Int32) : ex (d + 1) 180 36 [some (vr 7 0 0), none, some (vi x2)] [] O =
if x2 < nI 0 then
(if x2 < nI 0 then
(some ((nI 0), O))
else
(some ((nI 1), O)))
else
(if ib x2 5 then
(if ib x2 5 then
(if x2 < nI 0 then
(some ((nI 0), (up O 7 0 31 (Int32.toNatClampNeg x2) ((O 7 0 31 (Int32.toNatClampNeg x2)) + (nI 1)))))
else
(some ((nI 1), (up O 7 0 31 (Int32.toNatClampNeg x2) ((O 7 0 31 (Int32.toNatClampNeg x2)) + (nI 1))))))
else none)
else none) := (ex_un d 180 300 36 [some (vr 7 0 0), none, some (vi x2)] [] O).trans rfl
set_option maxRecDepth 100000 in
theorem sX7_teaches_0 (d : Nat) (O : Mem_) (x1 : Int32) (x2 : Int32) (x3 : Int32) : ex (d + 1) 181 0 [some (vr 7 0 0), some (vi x1), some (vi x2), some (vi x3)] [] O =
(ex d 178 0 [some (vr 7 0 0), some (vi (nI 70)), some (vi (nI 140))] [] O).bind fun r0 =>
ex (d + 1) 181 12 [some (vr 7 0 0), some (vi x1), some (vi x2), some (vi x3), some (vi (nI 0))] [] r0.2 := (ex_un d 181 300 0 [some (vr 7 0 0), some (vi x1), some (vi x2), some (vi x3)] [] O).trans rfl
set_option maxRecDepth 100000 in
theorem sX7_teaches_12 (d : Nat) (O : Mem_) (x1 : Int32) (x2 : Int32) (x3 : Int32) (x4 : Int32) : ex (d + 1) 181 12 [some (vr 7 0 0), some (vi x1), some (vi x2), some (vi x3), some (vi x4)] [] O =
if x4 < x3 then
(if ib x4 5 then
(if ib x4 5 then
((ex d 164 0 [some (vr 7 0 0), some (vi x2), some (vi (O 7 0 31 (Int32.toNatClampNeg x4)))] [] O).bind fun r0 =>
(ex d 161 0 [some (vr 7 0 0), some (vi (nI 70)), some (vi (nI 0)), some (vi x2), some (vi (O 7 0 31 (Int32.toNatClampNeg x4))), some (vi r0.1)] [] r0.2).bind fun r1 =>
ex (d + 1) 181 12 [some (vr 7 0 0), some (vi x1), some (vi x2), some (vi x3), some (vi (x4 + (nI 1)))] [] r1.2)
else none)
else none)
else
((ex d 179 0 [some (vr 7 0 0), some (vi (nI 70)), some (vi x1)] [] O).bind fun r2 =>
if r2.1 = nI 0 then
((ex d 176 0 [some (vr 7 0 0), some (vi (nI 70)), some (vi x1), some (vi x2)] [] r2.2).bind fun r3 =>
if r3.1 = nI 0 then
(some ((nI 0), r3.2))
else
(some ((nI 1), r3.2)))
else
(some ((nI 0), r2.2))) := (ex_un d 181 300 12 [some (vr 7 0 0), some (vi x1), some (vi x2), some (vi x3), some (vi x4)] [] O).trans rfl
set_option maxRecDepth 100000 in
theorem sX7_fewest_0 (d : Nat) (O : Mem_) (x1 : Int32) (x2 : Int32) (x3 : Int32) : ex (d + 1) 182 0 [some (vr 7 0 0), some (vi x1), some (vi x2), some (vi x3)] [] O =
ex (d + 1) 182 3 [some (vr 7 0 0), some (vi x1), some (vi x2), some (vi x3), some (vi (nI 0))] [] O := (ex_un d 182 300 0 [some (vr 7 0 0), some (vi x1), some (vi x2), some (vi x3)] [] O).trans rfl
set_option maxRecDepth 100000 in
theorem sX7_fewest_3 (d : Nat) (O : Mem_) (x1 : Int32) (x2 : Int32) (x3 : Int32) (x4 : Int32) : ex (d + 1) 182 3 [some (vr 7 0 0), some (vi x1), some (vi x2), some (vi x3), some (vi x4)] [] O =
if x3 < x4 then
(some ((oI none), O))
else
(ex (d + 1) 182 12 [some (vr 7 0 0), some (vi x1), some (vi x2), some (vi x3), some (vi x4), some (vi (nI 0))] [] O) := (ex_un d 182 300 3 [some (vr 7 0 0), some (vi x1), some (vi x2), some (vi x3), some (vi x4)] [] O).trans rfl
set_option maxRecDepth 100000 in
theorem sX7_fewest_12 (d : Nat) (O : Mem_) (x1 : Int32) (x2 : Int32) (x3 : Int32) (x4 : Int32) (x5 : Int32) : ex (d + 1) 182 12 [some (vr 7 0 0), some (vi x1), some (vi x2), some (vi x3), some (vi x4), some (vi x5)] [] O =
if x5 < (nI 5) then
(if ib x5 5 then
(ex (d + 1) 182 12 [some (vr 7 0 0), some (vi x1), some (vi x2), some (vi x3), some (vi x4), some (vi (x5 + (nI 1)))] [] (up O 7 0 31 (Int32.toNatClampNeg x5) (nI 0)))
else none)
else
(if x4 = nI 0 then
(ex (d + 1) 182 51 [some (vr 7 0 0), some (vi x1), some (vi x2), some (vi x3), some (vi x4), some (vi (nI 1))] [] O)
else
(if nI 0 < (O 7 0 0 0) then
(ex (d + 1) 182 51 [some (vr 7 0 0), some (vi x1), some (vi x2), some (vi x3), some (vi x4), some (vi (nI 1))] [] O)
else
(ex (d + 1) 182 51 [some (vr 7 0 0), some (vi x1), some (vi x2), some (vi x3), some (vi x4), some (vi (nI 0))] [] O))) := (ex_un d 182 300 12 [some (vr 7 0 0), some (vi x1), some (vi x2), some (vi x3), some (vi x4), some (vi x5)] [] O).trans rfl
set_option maxRecDepth 100000 in
theorem sX7_fewest_51 (d : Nat) (O : Mem_) (x1 : Int32) (x2 : Int32) (x3 : Int32) (x4 : Int32) (x5 : Int32) : ex (d + 1) 182 51 [some (vr 7 0 0), some (vi x1), some (vi x2), some (vi x3), some (vi x4), some (vi x5)] [] O =
if x5 = nI 0 then
(ex (d + 1) 182 3 [some (vr 7 0 0), some (vi x1), some (vi x2), some (vi x3), some (vi (x4 + (nI 1)))] [] O)
else
((ex d 181 0 [some (vr 7 0 0), some (vi x1), some (vi x2), some (vi x4)] [] O).bind fun r0 =>
if r0.1 = nI 0 then
((ex d 180 0 [some (vr 7 0 0), some (vi x4)] [] r0.2).bind fun r1 =>
ex (d + 1) 182 51 [some (vr 7 0 0), some (vi x1), some (vi x2), some (vi x3), some (vi x4), some (vi r1.1)] [] r1.2)
else
(some (x4, r0.2))) := (ex_un d 182 300 51 [some (vr 7 0 0), some (vi x1), some (vi x2), some (vi x3), some (vi x4), some (vi x5)] [] O).trans rfl
set_option maxRecDepth 100000 in
theorem sX7_teaching_0 (d : Nat) (O : Mem_) (x1 : Int32) (x2 : Int32) (x3 : Int32) : ex (d + 1) 183 0 [some (vr 7 0 0), some (vi x1), some (vi x2), some (vi x3)] [] O =
(ex d 145 0 [some (vr 7 0 0), some (vi x1)] [] O).bind fun r0 =>
if r0.1 = nI 0 then
(some ((-1), r0.2))
else
((ex d 143 0 [some (vr 7 0 0), some (vi x2)] [] r0.2).bind fun r1 =>
if r1.1 = nI 0 then
(some ((-1), r1.2))
else
(if x3 = nI 0 then
(ex (d + 1) 183 36 [some (vr 7 0 0), some (vi x1), some (vi x2), some (vi x3)] [] r1.2)
else
((ex d 121 0 [some (vl (Int32.toInt64 x3)), none, some (vl (10)), none, some (vl (14)), none] [] r1.2).bind fun r2 =>
if r2.1 = nI 0 then
(some ((-1), r2.2))
else
(ex (d + 1) 183 36 [some (vr 7 0 0), some (vi x1), some (vi x2), some (vi x3)] [] r2.2)))) := (ex_un d 183 300 0 [some (vr 7 0 0), some (vi x1), some (vi x2), some (vi x3)] [] O).trans rfl
set_option maxRecDepth 100000 in
theorem sX7_teaching_36 (d : Nat) (O : Mem_) (x1 : Int32) (x2 : Int32) (x3 : Int32) : ex (d + 1) 183 36 [some (vr 7 0 0), some (vi x1), some (vi x2), some (vi x3)] [] O =
(ex d 178 0 [some (vr 7 0 0), some (vi (nI 140)), some (vi (nI 0))] [] O).bind fun r0 =>
(ex d 182 0 [some (vr 7 0 0), some (vi x1), some (vi x2), some (vi (nI 5))] [] r0.2).bind fun r1 =>
if x3 = nI 0 then
(some (r1.1, r1.2))
else
(if (x3 - (nI 10)) < r1.1 then
(if ib (x3 - (nI 10)) 5 then
(some ((r1.2 7 0 31 (Int32.toNatClampNeg (x3 - (nI 10)))), r1.2))
else none)
else
(some ((-1), r1.2))) := (ex_un d 183 300 36 [some (vr 7 0 0), some (vi x1), some (vi x2), some (vi x3)] [] O).trans rfl
set_option maxRecDepth 100000 in
theorem sX7_never_0 (d : Nat) (O : Mem_) (x1 : Int32) (x2 : Int32) : ex (d + 1) 184 0 [some (vr 7 0 0), some (vi x1), some (vi x2)] [] O =
(ex d 144 0 [some (vr 7 0 0), some (vi x1)] [] O).bind fun r0 =>
if r0.1 = nI 0 then
(some ((-1), r0.2))
else
((ex d 143 0 [some (vr 7 0 0), some (vi x2)] [] r0.2).bind fun r1 =>
if r1.1 = nI 0 then
(some ((-1), r1.2))
else
(ex (d + 1) 184 23 [some (vr 7 0 0), some (vi x1), some (vi x2), some (vi (nI 1)), some (vi (nI 0))] [] r1.2)) := (ex_un d 184 300 0 [some (vr 7 0 0), some (vi x1), some (vi x2)] [] O).trans rfl
set_option maxRecDepth 100000 in
theorem sX7_never_23 (d : Nat) (O : Mem_) (x1 : Int32) (x2 : Int32) (x3 : Int32) (x4 : Int32) : ex (d + 1) 184 23 [some (vr 7 0 0), some (vi x1), some (vi x2), some (vi x3), some (vi x4)] [] O =
if x4 < (O 7 0 0 2) then
(if x3 = nI 0 then
(ex (d + 1) 184 23 [some (vr 7 0 0), some (vi x1), some (vi x2), some (vi (nI 0)), some (vi (x4 + (nI 1)))] [] O)
else
((ex d 147 0 [some (vr 7 0 0), some (vi x1)] [] O).bind fun r0 =>
if ((r0.1 >>> (x4 &&& (31:Int32))) &&& (nI 1)) = (nI 1) then
(if ib x4 12 then
((ex d 148 0 [some (vr 7 0 0), some (vi x2)] [] r0.2).bind fun r1 =>
if (r0.2 7 0 19 (Int32.toNatClampNeg x4)) = r1.1 then
(ex (d + 1) 184 23 [some (vr 7 0 0), some (vi x1), some (vi x2), some (vi (nI 0)), some (vi (x4 + (nI 1)))] [] r1.2)
else
(ex (d + 1) 184 23 [some (vr 7 0 0), some (vi x1), some (vi x2), some (vi (nI 1)), some (vi (x4 + (nI 1)))] [] r1.2))
else none)
else
(ex (d + 1) 184 23 [some (vr 7 0 0), some (vi x1), some (vi x2), some (vi (nI 1)), some (vi (x4 + (nI 1)))] [] r0.2)))
else
((ex d 122 0 [some (vi x3)] [] O).bind fun r2 =>
some (r2.1, r2.2)) := (ex_un d 184 300 23 [some (vr 7 0 0), some (vi x1), some (vi x2), some (vi x3), some (vi x4)] [] O).trans rfl
set_option maxRecDepth 100000 in
theorem sX7_taken_0 (d : Nat) (O : Mem_) (x1 : Int32) : ex (d + 1) 185 0 [some (vr 7 0 0), some (vi x1)] [] O =
(ex d 153 0 [some (vr 7 0 0), some (vi (nI 140))] [] O).bind fun r0 =>
ex (d + 1) 185 11 [some (vr 7 0 0), some (vi x1), some (vi (nI 0)), some (vi (nI 0))] [] r0.2 := (ex_un d 185 300 0 [some (vr 7 0 0), some (vi x1)] [] O).trans rfl
set_option maxRecDepth 100000 in
theorem sX7_taken_11 (d : Nat) (O : Mem_) (x1 : Int32) (x2 : Int32) (x3 : Int32) : ex (d + 1) 185 11 [some (vr 7 0 0), some (vi x1), some (vi x2), some (vi x3)] [] O =
if x3 < (O 7 0 0 5) then
(if ib x3 4 then
((ex d 182 0 [some (vr 7 0 0), some (vi x1), some (vi (O 7 0 32 (Int32.toNatClampNeg x3))), some (vi (nI 3))] [] O).bind fun r0 =>
if r0.1 = (oI none) then
(some ((oI none), r0.2))
else
((ex d 178 0 [some (vr 7 0 0), some (vi (nI 140)), some (vi (nI 70))] [] r0.2).bind fun r1 =>
ex (d + 1) 185 11 [some (vr 7 0 0), some (vi x1), some (vi (x2 + r0.1)), some (vi (x3 + (nI 1)))] [] r1.2))
else none)
else
(some (x2, O)) := (ex_un d 185 300 11 [some (vr 7 0 0), some (vi x1), some (vi x2), some (vi x3)] [] O).trans rfl
set_option maxRecDepth 100000 in
theorem sX7_areUnlike_0 (d : Nat) (O : Mem_)  : ex (d + 1) 186 0 [some (vr 7 0 0)] [] O =
ex (d + 1) 186 4 [some (vr 7 0 0), some (vi (nI 0)), some (vi (nI 0))] [] O := (ex_un d 186 300 0 [some (vr 7 0 0)] [] O).trans rfl
set_option maxRecDepth 100000 in
theorem sX7_areUnlike_4 (d : Nat) (O : Mem_) (x1 : Int32) (x2 : Int32) : ex (d + 1) 186 4 [some (vr 7 0 0), some (vi x1), some (vi x2)] [] O =
if x2 < (O 7 0 0 5) then
(if ib x2 4 then
(ex (d + 1) 186 4 [some (vr 7 0 0), some (vi (x1 ||| ((nI 1) <<< ((O 7 0 32 (Int32.toNatClampNeg x2)) &&& (31:Int32))))), some (vi (x2 + (nI 1)))] [] O)
else none)
else
((ex d 123 0 [some (vi x1)] [] O).bind fun r0 =>
if r0.1 = (r0.2 7 0 0 5) then
(some ((nI 1), r0.2))
else
(some ((nI 0), r0.2))) := (ex_un d 186 300 4 [some (vr 7 0 0), some (vi x1), some (vi x2)] [] O).trans rfl
set_option maxRecDepth 100000 in
theorem sX7_order_0 (d : Nat) (O : Mem_) (x1 : Int32) (x2 : Int32) : ex (d + 1) 187 0 [some (vr 7 0 0), some (vi x1), some (vi x2)] [] O =
(ex d 145 0 [some (vr 7 0 0), some (vi x1)] [] O).bind fun r0 =>
if r0.1 = nI 0 then
(some ((-1), r0.2))
else
(if x2 = nI 0 then
(ex (d + 1) 187 38 [some (vr 7 0 0), some (vi x1), some (vi x2), some (vi (nI 1)), some (vi (nI 0))] [] r0.2)
else
((ex d 121 0 [some (vl (Int32.toInt64 x2)), none, some (vl (10)), none, some (vl (Int32.toInt64 ((nI 9) + (r0.2 7 0 0 5)))), none] [] r0.2).bind fun r1 =>
if r1.1 = nI 0 then
(some ((-1), r1.2))
else
(ex (d + 1) 187 38 [some (vr 7 0 0), some (vi x1), some (vi x2), some (vi (nI 1)), some (vi (nI 0))] [] r1.2))) := (ex_un d 187 300 0 [some (vr 7 0 0), some (vi x1), some (vi x2)] [] O).trans rfl
set_option maxRecDepth 100000 in
theorem sX7_order_38 (d : Nat) (O : Mem_) (x1 : Int32) (x2 : Int32) (x3 : Int32) (x4 : Int32) : ex (d + 1) 187 38 [some (vr 7 0 0), some (vi x1), some (vi x2), some (vi x3), some (vi x4)] [] O =
if x4 < (O 7 0 0 5) then
(ex (d + 1) 187 38 [some (vr 7 0 0), some (vi x1), some (vi x2), some (vi (x3 * (O 7 0 0 5))), some (vi (x4 + (nI 1)))] [] O)
else
(ex (d + 1) 187 67 [some (vr 7 0 0), some (vi x1), some (vi x2), some (vi x3), some (vi (oI none)), some (vi (nI 0))] [] O) := (ex_un d 187 300 38 [some (vr 7 0 0), some (vi x1), some (vi x2), some (vi x3), some (vi x4)] [] O).trans rfl
set_option maxRecDepth 100000 in
theorem sX7_order_67 (d : Nat) (O : Mem_) (x1 : Int32) (x2 : Int32) (x3 : Int32) (x4 : Int32) (x5 : Int32) : ex (d + 1) 187 67 [some (vr 7 0 0), some (vi x1), some (vi x2), some (vi x3), some (vi x4), some (vi x5)] [] O =
if x5 < x3 then
(ex (d + 1) 187 85 [some (vr 7 0 0), some (vi x1), some (vi x2), some (vi x3), some (vi x4), some (vi x5), some (vi x5), some (vi ((O 7 0 0 5) - (nI 1)))] [] O)
else
(if x2 = nI 0 then
(some (x4, O))
else
(if x4 = (oI none) then
(some (x4, O))
else
(if ib (x2 - (nI 10)) 4 then
(some ((O 7 0 33 (Int32.toNatClampNeg (x2 - (nI 10)))), O))
else none))) := (ex_un d 187 300 67 [some (vr 7 0 0), some (vi x1), some (vi x2), some (vi x3), some (vi x4), some (vi x5)] [] O).trans rfl
set_option maxRecDepth 100000 in
theorem sX7_order_85 (d : Nat) (O : Mem_) (x1 : Int32) (x2 : Int32) (x3 : Int32) (x4 : Int32) (x5 : Int32) (x6 : Int32) (x7 : Int32) : ex (d + 1) 187 85 [some (vr 7 0 0), some (vi x1), some (vi x2), some (vi x3), some (vi x4), some (vi x5), some (vi x6), some (vi x7)] [] O =
if x7 < nI 0 then
((ex d 186 0 [some (vr 7 0 0)] [] O).bind fun r0 =>
if r0.1 = nI 0 then
(ex (d + 1) 187 136 [some (vr 7 0 0), some (vi x1), some (vi x2), some (vi x3), some (vi x4), some (vi x5)] [vi (oI none)] r0.2)
else
((ex d 185 0 [some (vr 7 0 0), some (vi x1)] [] r0.2).bind fun r1 =>
ex (d + 1) 187 136 [some (vr 7 0 0), some (vi x1), some (vi x2), some (vi x3), some (vi x4), some (vi x5)] [vi r1.1] r1.2))
else
(if (O 7 0 0 5) = nI 0 then none else if ib x7 4 then
(if ((up O 7 0 32 (Int32.toNatClampNeg x7) (x6 - x6 / (O 7 0 0 5) * (O 7 0 0 5))) 7 0 0 5) = nI 0 then none else ex (d + 1) 187 85 [some (vr 7 0 0), some (vi x1), some (vi x2), some (vi x3), some (vi x4), some (vi x5), some (vi (x6 / ((up O 7 0 32 (Int32.toNatClampNeg x7) (x6 - x6 / (O 7 0 0 5) * (O 7 0 0 5))) 7 0 0 5))), some (vi (x7 + (-1)))] [] (up O 7 0 32 (Int32.toNatClampNeg x7) (x6 - x6 / (O 7 0 0 5) * (O 7 0 0 5))))
else none) := (ex_un d 187 300 85 [some (vr 7 0 0), some (vi x1), some (vi x2), some (vi x3), some (vi x4), some (vi x5), some (vi x6), some (vi x7)] [] O).trans rfl
set_option maxRecDepth 100000 in
theorem sX7_order_136 (d : Nat) (O : Mem_) (x1 : Int32) (x2 : Int32) (x3 : Int32) (x4 : Int32) (x5 : Int32) (y0 : Int32) : ex (d + 1) 187 136 [some (vr 7 0 0), some (vi x1), some (vi x2), some (vi x3), some (vi x4), some (vi x5)] [vi y0] O =
if y0 = (oI none) then
(ex (d + 1) 187 67 [some (vr 7 0 0), some (vi x1), some (vi x2), some (vi x3), some (vi x4), some (vi (x5 + (nI 1)))] [] O)
else
(if x4 = (oI none) then
(ex (d + 1) 187 166 [some (vr 7 0 0), some (vi x1), some (vi x2), some (vi x3), some (vi y0), some (vi x5), none, none, some (vi (nI 0))] [] O)
else
(if y0 < x4 then
(ex (d + 1) 187 166 [some (vr 7 0 0), some (vi x1), some (vi x2), some (vi x3), some (vi y0), some (vi x5), none, none, some (vi (nI 0))] [] O)
else
(ex (d + 1) 187 67 [some (vr 7 0 0), some (vi x1), some (vi x2), some (vi x3), some (vi x4), some (vi (x5 + (nI 1)))] [] O))) := (ex_un d 187 300 136 [some (vr 7 0 0), some (vi x1), some (vi x2), some (vi x3), some (vi x4), some (vi x5)] [vi y0] O).trans rfl
set_option maxRecDepth 100000 in
theorem sX7_order_166 (d : Nat) (O : Mem_) (x1 : Int32) (x2 : Int32) (x3 : Int32) (x4 : Int32) (x5 : Int32) (x8 : Int32) : ex (d + 1) 187 166 [some (vr 7 0 0), some (vi x1), some (vi x2), some (vi x3), some (vi x4), some (vi x5), none, none, some (vi x8)] [] O =
if x8 < (O 7 0 0 5) then
(if ib x8 4 then
(if ib x8 4 then
(ex (d + 1) 187 166 [some (vr 7 0 0), some (vi x1), some (vi x2), some (vi x3), some (vi x4), some (vi x5), none, none, some (vi (x8 + (nI 1)))] [] (up O 7 0 33 (Int32.toNatClampNeg x8) (O 7 0 32 (Int32.toNatClampNeg x8))))
else none)
else none)
else
(ex (d + 1) 187 67 [some (vr 7 0 0), some (vi x1), some (vi x2), some (vi x3), some (vi x4), some (vi (x5 + (nI 1)))] [] O) := (ex_un d 187 300 166 [some (vr 7 0 0), some (vi x1), some (vi x2), some (vi x3), some (vi x4), some (vi x5), none, none, some (vi x8)] [] O).trans rfl
set_option maxRecDepth 100000 in
theorem sX7_chanceOf_0 (d : Nat) (O : Mem_) (x1 : Int32) : ex (d + 1) 188 0 [some (vr 7 0 0), some (vi x1)] [] O =
ex (d + 1) 188 4 [some (vr 7 0 0), some (vi x1), some (vi (nI 0)), some (vi (nI 0))] [] O := (ex_un d 188 300 0 [some (vr 7 0 0), some (vi x1)] [] O).trans rfl
set_option maxRecDepth 100000 in
theorem sX7_chanceOf_4 (d : Nat) (O : Mem_) (x1 : Int32) (x2 : Int32) (x3 : Int32) : ex (d + 1) 188 4 [some (vr 7 0 0), some (vi x1), some (vi x2), some (vi x3)] [] O =
if x3 < (O 7 0 0 7) then
(if ((x1 >>> (x3 &&& (31:Int32))) &&& (nI 1)) = (nI 1) then
(if ib (((nI 5) * x3) + (nI 4)) 30 then
(ex (d + 1) 188 4 [some (vr 7 0 0), some (vi x1), some (vi (x2 + (O 7 0 9 (Int32.toNatClampNeg (((nI 5) * x3) + (nI 4)))))), some (vi (x3 + (nI 1)))] [] O)
else none)
else
(ex (d + 1) 188 4 [some (vr 7 0 0), some (vi x1), some (vi (x2 + (nI 0))), some (vi (x3 + (nI 1)))] [] O))
else
(some (x2, O)) := (ex_un d 188 300 4 [some (vr 7 0 0), some (vi x1), some (vi x2), some (vi x3)] [] O).trans rfl
set_option maxRecDepth 100000 in
theorem sX7_allChances_0 (d : Nat) (O : Mem_)  : ex (d + 1) 189 0 [some (vr 7 0 0)] [] O =
(ex d 188 0 [some (vr 7 0 0), some (vi (((nI 1) <<< ((O 7 0 0 7) &&& (31:Int32))) - (nI 1)))] [] O).bind fun r0 =>
some (r0.1, r0.2) := (ex_un d 189 300 0 [some (vr 7 0 0)] [] O).trans rfl
set_option maxRecDepth 100000 in
theorem sX7_feared_0 (d : Nat) (O : Mem_) (x1 : Int32) : ex (d + 1) 190 0 [some (vr 7 0 0), some (vi x1)] [] O =
ex (d + 1) 190 4 [some (vr 7 0 0), some (vi x1), some (vi (nI 0)), some (vi (nI 0))] [] O := (ex_un d 190 300 0 [some (vr 7 0 0), some (vi x1)] [] O).trans rfl
set_option maxRecDepth 100000 in
theorem sX7_feared_4 (d : Nat) (O : Mem_) (x1 : Int32) (x2 : Int32) (x3 : Int32) : ex (d + 1) 190 4 [some (vr 7 0 0), some (vi x1), some (vi x2), some (vi x3)] [] O =
if x3 < (O 7 0 0 7) then
(if ib (((nI 5) * x3) + (nI 2)) 30 then
(if (O 7 0 9 (Int32.toNatClampNeg (((nI 5) * x3) + (nI 2)))) = (oI none) then
(ex (d + 1) 190 4 [some (vr 7 0 0), some (vi x1), some (vi (x2 ||| (nI 0))), some (vi (x3 + (nI 1)))] [] O)
else
(if x1 = nI 0 then
(ex (d + 1) 190 4 [some (vr 7 0 0), some (vi x1), some (vi (x2 ||| ((nI 1) <<< ((O 7 0 9 (Int32.toNatClampNeg (((nI 5) * x3) + (nI 2)))) &&& (31:Int32))))), some (vi (x3 + (nI 1)))] [] O)
else
(if ib (((nI 5) * x3) + (nI 4)) 30 then
(if nI 0 < (O 7 0 9 (Int32.toNatClampNeg (((nI 5) * x3) + (nI 4)))) then
(ex (d + 1) 190 4 [some (vr 7 0 0), some (vi x1), some (vi (x2 ||| ((nI 1) <<< ((O 7 0 9 (Int32.toNatClampNeg (((nI 5) * x3) + (nI 2)))) &&& (31:Int32))))), some (vi (x3 + (nI 1)))] [] O)
else
(ex (d + 1) 190 4 [some (vr 7 0 0), some (vi x1), some (vi (x2 ||| (nI 0))), some (vi (x3 + (nI 1)))] [] O))
else none)))
else none)
else
(some (x2, O)) := (ex_un d 190 300 4 [some (vr 7 0 0), some (vi x1), some (vi x2), some (vi x3)] [] O).trans rfl
set_option maxRecDepth 100000 in
theorem sX7_lowest_0 (d : Nat) (O : Mem_) (x0 : Int32) (x1 : Int32) (x2 : Int32) : ex (d + 1) 191 0 [some (vi x0), some (vi x1), some (vi x2)] [] O =
ex (d + 1) 191 5 [some (vi x0), some (vi x1), some (vi x2), some (vi x1), some (vi x0)] [] O := (ex_un d 191 300 0 [some (vi x0), some (vi x1), some (vi x2)] [] O).trans rfl
set_option maxRecDepth 100000 in
theorem sX7_lowest_5 (d : Nat) (O : Mem_) (x0 : Int32) (x1 : Int32) (x2 : Int32) (x3 : Int32) (x4 : Int32) : ex (d + 1) 191 5 [some (vi x0), some (vi x1), some (vi x2), some (vi x3), some (vi x4)] [] O =
if x4 = nI 0 then
(if x2 = nI 0 then
(if x3 = nI 0 then none else some ((x0 / x3), O))
else
(if x3 = nI 0 then none else some ((x1 / x3), O)))
else
(if x4 = nI 0 then none else ex (d + 1) 191 5 [some (vi x0), some (vi x1), some (vi x2), some (vi x4), some (vi (x3 - x3 / x4 * x4))] [] O) := (ex_un d 191 300 5 [some (vi x0), some (vi x1), some (vi x2), some (vi x3), some (vi x4)] [] O).trans rfl
set_option maxRecDepth 100000 in
theorem sX7_first_0 (d : Nat) (O : Mem_) (x1 : Int32) (x2 : Int32) : ex (d + 1) 192 0 [some (vr 7 0 0), some (vi x1), some (vi x2)] [] O =
(ex d 143 0 [some (vr 7 0 0), some (vi x1)] [] O).bind fun r0 =>
if r0.1 = nI 0 then
(some ((-1), r0.2))
else
((ex d 121 0 [some (vl (Int32.toInt64 x2)), none, some (vl 0), none, some (vl (2)), none] [] r0.2).bind fun r1 =>
if r1.1 = nI 0 then
(some ((-1), r1.2))
else
(ex (d + 1) 192 31 [some (vr 7 0 0), some (vi x1), some (vi x2), some (vi (oI none)), some (vi (nI 0)), some (vi (nI 0))] [] r1.2)) := (ex_un d 192 300 0 [some (vr 7 0 0), some (vi x1), some (vi x2)] [] O).trans rfl
set_option maxRecDepth 100000 in
theorem sX7_first_31 (d : Nat) (O : Mem_) (x1 : Int32) (x2 : Int32) (x3 : Int32) (x4 : Int32) (x5 : Int32) : ex (d + 1) 192 31 [some (vr 7 0 0), some (vi x1), some (vi x2), some (vi x3), some (vi x4), some (vi x5)] [] O =
if x5 < (O 7 0 0 0) then
((ex d 189 0 [some (vr 7 0 0)] [] O).bind fun r0 =>
if nI 0 < r0.1 then
((ex d 190 0 [some (vr 7 0 0), some (vi (nI 1))] [] r0.2).bind fun r1 =>
if ((r1.1 >>> (x5 &&& (31:Int32))) &&& (nI 1)) = nI 0 then
((ex d 153 0 [some (vr 7 0 0), some (vi (nI 70))] [] r1.2).bind fun r2 =>
(ex d 164 0 [some (vr 7 0 0), some (vi x1), some (vi x5)] [] r2.2).bind fun r3 =>
(ex d 161 0 [some (vr 7 0 0), some (vi (nI 70)), some (vi (nI 0)), some (vi x1), some (vi x5), some (vi r3.1)] [] r3.2).bind fun r4 =>
ex (d + 1) 192 89 [some (vr 7 0 0), some (vi x1), some (vi x2), some (vi x3), some (vi x4), some (vi x5), some (vi (nI 0)), some (vi (nI 0))] [] r4.2)
else
(ex (d + 1) 192 31 [some (vr 7 0 0), some (vi x1), some (vi x2), some (vi x3), some (vi x4), some (vi (x5 + (nI 1)))] [] r1.2))
else
(ex (d + 1) 192 188 [some (vr 7 0 0), none, some (vi x2), some (vi x3), some (vi x4)] [] r0.2))
else
(ex (d + 1) 192 188 [some (vr 7 0 0), none, some (vi x2), some (vi x3), some (vi x4)] [] O) := (ex_un d 192 300 31 [some (vr 7 0 0), some (vi x1), some (vi x2), some (vi x3), some (vi x4), some (vi x5)] [] O).trans rfl
set_option maxRecDepth 100000 in
theorem sX7_first_89 (d : Nat) (O : Mem_) (x1 : Int32) (x2 : Int32) (x3 : Int32) (x4 : Int32) (x5 : Int32) (x6 : Int32) (x7 : Int32) : ex (d + 1) 192 89 [some (vr 7 0 0), some (vi x1), some (vi x2), some (vi x3), some (vi x4), some (vi x5), some (vi x6), some (vi x7)] [] O =
if x7 < (O 7 0 0 7) then
((ex d 172 0 [some (vr 7 0 0), some (vi (nI 70)), some (vi x7), some (vi x1)] [] O).bind fun r0 =>
if r0.1 = nI 0 then
(ex (d + 1) 192 89 [some (vr 7 0 0), some (vi x1), some (vi x2), some (vi x3), some (vi x4), some (vi x5), some (vi (x6 + (nI 0))), some (vi (x7 + (nI 1)))] [] r0.2)
else
(if ib (((nI 5) * x7) + (nI 4)) 30 then
(ex (d + 1) 192 89 [some (vr 7 0 0), some (vi x1), some (vi x2), some (vi x3), some (vi x4), some (vi x5), some (vi (x6 + (r0.2 7 0 9 (Int32.toNatClampNeg (((nI 5) * x7) + (nI 4)))))), some (vi (x7 + (nI 1)))] [] r0.2)
else none))
else
(if x3 = (oI none) then
(ex (d + 1) 192 149 [some (vr 7 0 0), some (vi x1), some (vi x2), some (vi x3), some (vi x4), some (vi x5), some (vi x6)] [] O)
else
(if x4 < x6 then
(ex (d + 1) 192 149 [some (vr 7 0 0), some (vi x1), some (vi x2), some (vi x3), some (vi x4), some (vi x5), some (vi x6)] [] O)
else
(if (nI 0) = nI 0 then
(ex (d + 1) 192 167 [some (vr 7 0 0), some (vi x1), some (vi x2), none, some (vi x4), some (vi x5), some (vi x6), some (vi (nI 0))] [vi x3] O)
else
(ex (d + 1) 192 167 [some (vr 7 0 0), some (vi x1), some (vi x2), none, some (vi x4), some (vi x5), some (vi x6), some (vi (nI 0))] [vi x5] O)))) := (ex_un d 192 300 89 [some (vr 7 0 0), some (vi x1), some (vi x2), some (vi x3), some (vi x4), some (vi x5), some (vi x6), some (vi x7)] [] O).trans rfl
set_option maxRecDepth 100000 in
theorem sX7_first_149 (d : Nat) (O : Mem_) (x1 : Int32) (x2 : Int32) (x3 : Int32) (x4 : Int32) (x5 : Int32) (x6 : Int32) : ex (d + 1) 192 149 [some (vr 7 0 0), some (vi x1), some (vi x2), some (vi x3), some (vi x4), some (vi x5), some (vi x6)] [] O =
if (nI 1) = nI 0 then
(ex (d + 1) 192 167 [some (vr 7 0 0), some (vi x1), some (vi x2), none, some (vi x4), some (vi x5), some (vi x6), some (vi (nI 1))] [vi x3] O)
else
(ex (d + 1) 192 167 [some (vr 7 0 0), some (vi x1), some (vi x2), none, some (vi x4), some (vi x5), some (vi x6), some (vi (nI 1))] [vi x5] O) := (ex_un d 192 300 149 [some (vr 7 0 0), some (vi x1), some (vi x2), some (vi x3), some (vi x4), some (vi x5), some (vi x6)] [] O).trans rfl
set_option maxRecDepth 100000 in
theorem sX7_first_167 (d : Nat) (O : Mem_) (x1 : Int32) (x2 : Int32) (x4 : Int32) (x5 : Int32) (x6 : Int32) (x7 : Int32) (y0 : Int32) : ex (d + 1) 192 167 [some (vr 7 0 0), some (vi x1), some (vi x2), none, some (vi x4), some (vi x5), some (vi x6), some (vi x7)] [vi y0] O =
if x7 = nI 0 then
(ex (d + 1) 192 31 [some (vr 7 0 0), some (vi x1), some (vi x2), some (vi y0), some (vi x4), some (vi (x5 + (nI 1)))] [] O)
else
(ex (d + 1) 192 31 [some (vr 7 0 0), some (vi x1), some (vi x2), some (vi y0), some (vi x6), some (vi (x5 + (nI 1)))] [] O) := (ex_un d 192 300 167 [some (vr 7 0 0), some (vi x1), some (vi x2), none, some (vi x4), some (vi x5), some (vi x6), some (vi x7)] [vi y0] O).trans rfl
set_option maxRecDepth 100000 in
theorem sX7_first_188 (d : Nat) (O : Mem_) (x2 : Int32) (x3 : Int32) (x4 : Int32) : ex (d + 1) 192 188 [some (vr 7 0 0), none, some (vi x2), some (vi x3), some (vi x4)] [] O =
if x3 = (oI none) then
(some ((oI none), O))
else
(if x2 = nI 0 then
(some (x3, O))
else
((ex d 189 0 [some (vr 7 0 0)] [] O).bind fun r0 =>
(ex d 191 0 [some (vi x4), some (vi r0.1), some (vi (x2 - (nI 1)))] [] r0.2).bind fun r1 =>
some (r1.1, r1.2))) := (ex_un d 192 300 188 [some (vr 7 0 0), none, some (vi x2), some (vi x3), some (vi x4)] [] O).trans rfl
set_option maxRecDepth 100000 in
theorem sX7_fears_0 (d : Nat) (O : Mem_) (x1 : Int32) : ex (d + 1) 193 0 [some (vr 7 0 0), some (vi x1)] [] O =
if x1 = nI 0 then
((ex d 190 0 [some (vr 7 0 0), some (vi (nI 1))] [] O).bind fun r0 =>
some (r0.1, r0.2))
else
(if x1 = (nI 1) then
((ex d 190 0 [some (vr 7 0 0), some (vi (nI 0))] [] O).bind fun r1 =>
some (((((nI 1) <<< ((O 7 0 0 0) &&& (31:Int32))) - (nI 1)) &&& (r1.1 ^^^ (-1))), r1.2))
else
(some ((-1), O))) := (ex_un d 193 300 0 [some (vr 7 0 0), some (vi x1)] [] O).trans rfl
set_option maxRecDepth 100000 in
theorem sX7_answerOf_0 (d : Nat) (O : Mem_) (x1 : Int32) (x2 : Int32) (x3 : Int32) : ex (d + 1) 194 0 [some (vr 7 0 0), some (vi x1), some (vi x2), some (vi x3)] [] O =
if ib (((nI 0) + ((nI 10) * x1)) + x2) 210 then
(if (O 7 0 28 (Int32.toNatClampNeg (((nI 0) + ((nI 10) * x1)) + x2))) = (oI none) then
(some ((oI none), O))
else
(if ib (O 7 0 28 (Int32.toNatClampNeg (((nI 0) + ((nI 10) * x1)) + x2))) 12 then
(some ((((O 7 0 19 (Int32.toNatClampNeg (O 7 0 28 (Int32.toNatClampNeg (((nI 0) + ((nI 10) * x1)) + x2))))) >>> (x3 &&& (31:Int32))) &&& (nI 1)), O))
else none))
else none := (ex_un d 194 300 0 [some (vr 7 0 0), some (vi x1), some (vi x2), some (vi x3)] [] O).trans rfl
set_option maxRecDepth 100000 in
theorem sX7_answer_0 (d : Nat) (O : Mem_) (x1 : Int32) (x2 : Int32) (x3 : Int32) : ex (d + 1) 195 0 [some (vr 7 0 0), some (vi x1), some (vi x2), some (vi x3)] [] O =
(ex d 144 0 [some (vr 7 0 0), some (vi x1)] [] O).bind fun r0 =>
if r0.1 = nI 0 then
(some ((-1), r0.2))
else
((ex d 143 0 [some (vr 7 0 0), some (vi x2)] [] r0.2).bind fun r1 =>
if r1.1 = nI 0 then
(some ((-1), r1.2))
else
((ex d 142 0 [some (vr 7 0 0), some (vi x3)] [] r1.2).bind fun r2 =>
if r2.1 = nI 0 then
(some ((-1), r2.2))
else
((ex d 194 0 [some (vr 7 0 0), some (vi x1), some (vi x2), some (vi x3)] [] r2.2).bind fun r3 =>
some (r3.1, r3.2)))) := (ex_un d 195 300 0 [some (vr 7 0 0), some (vi x1), some (vi x2), some (vi x3)] [] O).trans rfl
set_option maxRecDepth 100000 in
theorem sX7_whoSay_0 (d : Nat) (O : Mem_) (x1 : Int32) (x2 : Int32) (x3 : Int32) : ex (d + 1) 196 0 [some (vr 7 0 0), some (vi x1), some (vi x2), some (vi x3)] [] O =
ex (d + 1) 196 6 [some (vr 7 0 0), some (vi x1), some (vi x2), some (vi x3), some (vi (nI 0)), some (vi (nI 0))] [] O := (ex_un d 196 300 0 [some (vr 7 0 0), some (vi x1), some (vi x2), some (vi x3)] [] O).trans rfl
set_option maxRecDepth 100000 in
theorem sX7_whoSay_6 (d : Nat) (O : Mem_) (x1 : Int32) (x2 : Int32) (x3 : Int32) (x4 : Int32) (x5 : Int32) : ex (d + 1) 196 6 [some (vr 7 0 0), some (vi x1), some (vi x2), some (vi x3), some (vi x4), some (vi x5)] [] O =
if x5 < (O 7 0 0 7) then
((ex d 194 0 [some (vr 7 0 0), some (vi x5), some (vi x1), some (vi x2)] [] O).bind fun r0 =>
if r0.1 = x3 then
(ex (d + 1) 196 6 [some (vr 7 0 0), some (vi x1), some (vi x2), some (vi x3), some (vi (x4 ||| ((nI 1) <<< (x5 &&& (31:Int32))))), some (vi (x5 + (nI 1)))] [] r0.2)
else
(ex (d + 1) 196 6 [some (vr 7 0 0), some (vi x1), some (vi x2), some (vi x3), some (vi (x4 ||| (nI 0))), some (vi (x5 + (nI 1)))] [] r0.2))
else
(some (x4, O)) := (ex_un d 196 300 6 [some (vr 7 0 0), some (vi x1), some (vi x2), some (vi x3), some (vi x4), some (vi x5)] [] O).trans rfl
set_option maxRecDepth 100000 in
theorem sX7_heard_0 (d : Nat) (O : Mem_) (x1 : Int32) (x2 : Int32) (x3 : Int32) : ex (d + 1) 197 0 [some (vr 7 0 0), some (vi x1), some (vi x2), some (vi x3)] [] O =
(ex d 143 0 [some (vr 7 0 0), some (vi x1)] [] O).bind fun r0 =>
if r0.1 = nI 0 then
(some ((-1), r0.2))
else
((ex d 142 0 [some (vr 7 0 0), some (vi x2)] [] r0.2).bind fun r1 =>
if r1.1 = nI 0 then
(some ((-1), r1.2))
else
(if x3 = (oI none) then
(ex (d + 1) 197 34 [some (vr 7 0 0), some (vi x1), some (vi x2), some (vi x3)] [] r1.2)
else
((ex d 121 0 [some (vl (Int32.toInt64 x3)), none, some (vl 0), none, some (vl 1), none] [] r1.2).bind fun r2 =>
if r2.1 = nI 0 then
(some ((-1), r2.2))
else
(ex (d + 1) 197 34 [some (vr 7 0 0), some (vi x1), some (vi x2), some (vi x3)] [] r2.2)))) := (ex_un d 197 300 0 [some (vr 7 0 0), some (vi x1), some (vi x2), some (vi x3)] [] O).trans rfl
set_option maxRecDepth 100000 in
theorem sX7_heard_34 (d : Nat) (O : Mem_) (x1 : Int32) (x2 : Int32) (x3 : Int32) : ex (d + 1) 197 34 [some (vr 7 0 0), some (vi x1), some (vi x2), some (vi x3)] [] O =
(ex d 196 0 [some (vr 7 0 0), some (vi x1), some (vi x2), some (vi x3)] [] O).bind fun r0 =>
some (((up r0.2 7 0 0 33 ((O 7 0 0 33) &&& r0.1)) 7 0 0 33), (up r0.2 7 0 0 33 ((O 7 0 0 33) &&& r0.1))) := (ex_un d 197 300 34 [some (vr 7 0 0), some (vi x1), some (vi x2), some (vi x3)] [] O).trans rfl
set_option maxRecDepth 100000 in
theorem sX7_left_0 (d : Nat) (O : Mem_) (x1 : Int32) : ex (d + 1) 198 0 [some (vr 7 0 0), some (vi x1)] [] O =
if x1 = nI 0 then
(some ((O 7 0 0 33), O))
else
(if x1 = (nI 1) then
((ex d 188 0 [some (vr 7 0 0), some (vi (O 7 0 0 33))] [] O).bind fun r0 =>
some (r0.1, r0.2))
else
(if x1 = (nI 2) then
((ex d 189 0 [some (vr 7 0 0)] [] O).bind fun r1 =>
some (r1.1, r1.2))
else
(some ((-1), O)))) := (ex_un d 198 300 0 [some (vr 7 0 0), some (vi x1)] [] O).trans rfl
set_option maxRecDepth 100000 in
theorem sX7_ask_0 (d : Nat) (O : Mem_) (x1 : Int32) : ex (d + 1) 199 0 [some (vr 7 0 0), some (vi x1)] [] O =
(ex d 121 0 [some (vl (Int32.toInt64 x1)), none, some (vl 0), none, some (vl (2)), none] [] O).bind fun r0 =>
if r0.1 = nI 0 then
(some ((-1), r0.2))
else
(ex (d + 1) 199 22 [some (vr 7 0 0), some (vi x1), some (vi (oI none)), some (vi (nI 0)), some (vi (nI 0))] [] r0.2) := (ex_un d 199 300 0 [some (vr 7 0 0), some (vi x1)] [] O).trans rfl
set_option maxRecDepth 100000 in
theorem sX7_ask_22 (d : Nat) (O : Mem_) (x1 : Int32) (x2 : Int32) (x3 : Int32) (x4 : Int32) : ex (d + 1) 199 22 [some (vr 7 0 0), some (vi x1), some (vi x2), some (vi x3), some (vi x4)] [] O =
if x4 < (O 7 0 0 5) then
(if (O 7 0 0 33) = nI 0 then
(ex (d + 1) 199 177 [none, some (vi x1), some (vi x2), some (vi x3)] [] O)
else
(ex (d + 1) 199 41 [some (vr 7 0 0), some (vi x1), some (vi x2), some (vi x3), some (vi x4), some (vi (nI 0))] [] O))
else
(ex (d + 1) 199 177 [none, some (vi x1), some (vi x2), some (vi x3)] [] O) := (ex_un d 199 300 22 [some (vr 7 0 0), some (vi x1), some (vi x2), some (vi x3), some (vi x4)] [] O).trans rfl
set_option maxRecDepth 100000 in
theorem sX7_ask_41 (d : Nat) (O : Mem_) (x1 : Int32) (x2 : Int32) (x3 : Int32) (x4 : Int32) (x5 : Int32) : ex (d + 1) 199 41 [some (vr 7 0 0), some (vi x1), some (vi x2), some (vi x3), some (vi x4), some (vi x5)] [] O =
if x5 < (O 7 0 0 0) then
(ex (d + 1) 199 56 [some (vr 7 0 0), some (vi x1), some (vi x2), some (vi x3), some (vi x4), some (vi x5), some (vi (nI 0)), some (vi (nI 0))] [] O)
else
(ex (d + 1) 199 22 [some (vr 7 0 0), some (vi x1), some (vi x2), some (vi x3), some (vi (x4 + (nI 1)))] [] O) := (ex_un d 199 300 41 [some (vr 7 0 0), some (vi x1), some (vi x2), some (vi x3), some (vi x4), some (vi x5)] [] O).trans rfl
set_option maxRecDepth 100000 in
theorem sX7_ask_56 (d : Nat) (O : Mem_) (x1 : Int32) (x2 : Int32) (x3 : Int32) (x4 : Int32) (x5 : Int32) (x6 : Int32) (x7 : Int32) : ex (d + 1) 199 56 [some (vr 7 0 0), some (vi x1), some (vi x2), some (vi x3), some (vi x4), some (vi x5), some (vi x6), some (vi x7)] [] O =
if x7 < (nI 3) then
(if x7 = (nI 2) then
(ex (d + 1) 199 85 [some (vr 7 0 0), some (vi x1), some (vi x2), some (vi x3), some (vi x4), some (vi x5), some (vi x6), some (vi x7)] [vi (oI none), vi x5, vi x4, vr 7 0 0, vi (O 7 0 0 33), vr 7 0 0] O)
else
(ex (d + 1) 199 85 [some (vr 7 0 0), some (vi x1), some (vi x2), some (vi x3), some (vi x4), some (vi x5), some (vi x6), some (vi x7)] [vi x7, vi x5, vi x4, vr 7 0 0, vi (O 7 0 0 33), vr 7 0 0] O))
else
(if x2 = (oI none) then
(ex (d + 1) 199 133 [some (vr 7 0 0), some (vi x1), some (vi x2), some (vi x3), some (vi x4), some (vi x5), some (vi x6)] [vi (nI 1)] O)
else
(if x6 < x3 then
(ex (d + 1) 199 133 [some (vr 7 0 0), some (vi x1), some (vi x2), some (vi x3), some (vi x4), some (vi x5), some (vi x6)] [vi (nI 1)] O)
else
(ex (d + 1) 199 133 [some (vr 7 0 0), some (vi x1), some (vi x2), some (vi x3), some (vi x4), some (vi x5), some (vi x6)] [vi (nI 0)] O))) := (ex_un d 199 300 56 [some (vr 7 0 0), some (vi x1), some (vi x2), some (vi x3), some (vi x4), some (vi x5), some (vi x6), some (vi x7)] [] O).trans rfl
set_option maxRecDepth 100000 in
theorem sX7_ask_85 (d : Nat) (O : Mem_) (x1 : Int32) (x2 : Int32) (x3 : Int32) (x4 : Int32) (x5 : Int32) (x6 : Int32) (x7 : Int32) (y0 : Int32) (y1 : Int32) (y2 : Int32) (y4 : Int32) : ex (d + 1) 199 85 [some (vr 7 0 0), some (vi x1), some (vi x2), some (vi x3), some (vi x4), some (vi x5), some (vi x6), some (vi x7)] [vi y0, vi y1, vi y2, vr 7 0 0, vi y4, vr 7 0 0] O =
(ex d 196 0 [some (vr 7 0 0), some (vi y2), some (vi y1), some (vi y0)] [] O).bind fun r0 =>
(ex d 188 0 [some (vr 7 0 0), some (vi (y4 &&& r0.1))] [] r0.2).bind fun r1 =>
if x6 < r1.1 then
(ex (d + 1) 199 56 [some (vr 7 0 0), some (vi x1), some (vi x2), some (vi x3), some (vi x4), some (vi x5), some (vi r1.1), some (vi (x7 + (nI 1)))] [] r1.2)
else
(ex (d + 1) 199 56 [some (vr 7 0 0), some (vi x1), some (vi x2), some (vi x3), some (vi x4), some (vi x5), some (vi x6), some (vi (x7 + (nI 1)))] [] r1.2) := (ex_un d 199 300 85 [some (vr 7 0 0), some (vi x1), some (vi x2), some (vi x3), some (vi x4), some (vi x5), some (vi x6), some (vi x7)] [vi y0, vi y1, vi y2, vr 7 0 0, vi y4, vr 7 0 0] O).trans rfl
set_option maxRecDepth 100000 in
theorem sX7_ask_133 (d : Nat) (O : Mem_) (x1 : Int32) (x2 : Int32) (x3 : Int32) (x4 : Int32) (x5 : Int32) (x6 : Int32) (y0 : Int32) : ex (d + 1) 199 133 [some (vr 7 0 0), some (vi x1), some (vi x2), some (vi x3), some (vi x4), some (vi x5), some (vi x6)] [vi y0] O =
if y0 = nI 0 then
(ex (d + 1) 199 152 [some (vr 7 0 0), some (vi x1), none, some (vi x3), some (vi x4), some (vi x5), some (vi x6), some (vi y0)] [vi x2] O)
else
(ex (d + 1) 199 152 [some (vr 7 0 0), some (vi x1), none, some (vi x3), some (vi x4), some (vi x5), some (vi x6), some (vi y0)] [vi (((nI 8) * x4) + x5)] O) := (ex_un d 199 300 133 [some (vr 7 0 0), some (vi x1), some (vi x2), some (vi x3), some (vi x4), some (vi x5), some (vi x6)] [vi y0] O).trans rfl
set_option maxRecDepth 100000 in
theorem sX7_ask_152 (d : Nat) (O : Mem_) (x1 : Int32) (x3 : Int32) (x4 : Int32) (x5 : Int32) (x6 : Int32) (x7 : Int32) (y0 : Int32) : ex (d + 1) 199 152 [some (vr 7 0 0), some (vi x1), none, some (vi x3), some (vi x4), some (vi x5), some (vi x6), some (vi x7)] [vi y0] O =
if x7 = nI 0 then
(ex (d + 1) 199 41 [some (vr 7 0 0), some (vi x1), some (vi y0), some (vi x3), some (vi x4), some (vi (x5 + (nI 1)))] [] O)
else
(ex (d + 1) 199 41 [some (vr 7 0 0), some (vi x1), some (vi y0), some (vi x6), some (vi x4), some (vi (x5 + (nI 1)))] [] O) := (ex_un d 199 300 152 [some (vr 7 0 0), some (vi x1), none, some (vi x3), some (vi x4), some (vi x5), some (vi x6), some (vi x7)] [vi y0] O).trans rfl
set_option maxRecDepth 100000 in
theorem sX7_ask_177 (d : Nat) (O : Mem_) (x1 : Int32) (x2 : Int32) (x3 : Int32) : ex (d + 1) 199 177 [none, some (vi x1), some (vi x2), some (vi x3)] [] O =
if x2 = (oI none) then
(some ((oI none), O))
else
(if x1 = nI 0 then
(if (nI 8) = nI 0 then none else some ((x2 / (nI 8)), O))
else
(if x1 = (nI 1) then
(if (nI 8) = nI 0 then none else some ((x2 - x2 / (nI 8) * (nI 8)), O))
else
(some (x3, O)))) := (ex_un d 199 300 177 [none, some (vi x1), some (vi x2), some (vi x3)] [] O).trans rfl
set_option maxRecDepth 100000 in
theorem sX7_sure_0 (d : Nat) (O : Mem_) (x1 : Int32) (x2 : Int32) : ex (d + 1) 200 0 [some (vr 7 0 0), some (vi x1), some (vi x2)] [] O =
(ex d 143 0 [some (vr 7 0 0), some (vi x1)] [] O).bind fun r0 =>
if r0.1 = nI 0 then
(some ((-1), r0.2))
else
((ex d 121 0 [some (vl (Int32.toInt64 x2)), none, some (vl 0), none, some (vl 1), none] [] r0.2).bind fun r1 =>
if r1.1 = nI 0 then
(some ((-1), r1.2))
else
(ex (d + 1) 200 25 [some (vr 7 0 0), some (vi x1), some (vi x2), some (vi (nI 0)), some (vi (nI 0))] [] r1.2)) := (ex_un d 200 300 0 [some (vr 7 0 0), some (vi x1), some (vi x2)] [] O).trans rfl
set_option maxRecDepth 100000 in
theorem sX7_sure_25 (d : Nat) (O : Mem_) (x1 : Int32) (x2 : Int32) (x3 : Int32) (x4 : Int32) : ex (d + 1) 200 25 [some (vr 7 0 0), some (vi x1), some (vi x2), some (vi x3), some (vi x4)] [] O =
if x4 < (O 7 0 0 7) then
((ex d 147 0 [some (vr 7 0 0), some (vi x4)] [] O).bind fun r0 =>
ex (d + 1) 200 25 [some (vr 7 0 0), some (vi x1), some (vi x2), some (vi (x3 ||| r0.1)), some (vi (x4 + (nI 1)))] [] r0.2)
else
(ex (d + 1) 200 56 [some (vr 7 0 0), some (vi x1), some (vi x2), some (vi x3), some (vi (oI none)), some (vi (nI 0))] [] O) := (ex_un d 200 300 25 [some (vr 7 0 0), some (vi x1), some (vi x2), some (vi x3), some (vi x4)] [] O).trans rfl
set_option maxRecDepth 100000 in
theorem sX7_sure_56 (d : Nat) (O : Mem_) (x1 : Int32) (x2 : Int32) (x3 : Int32) (x4 : Int32) (x5 : Int32) : ex (d + 1) 200 56 [some (vr 7 0 0), some (vi x1), some (vi x2), some (vi x3), some (vi x4), some (vi x5)] [] O =
if x5 < ((nI 1) <<< ((O 7 0 0 0) &&& (31:Int32))) then
(if x4 = (oI none) then
(ex (d + 1) 200 97 [some (vr 7 0 0), some (vi x1), some (vi x2), some (vi x3), some (vi x4), some (vi x5), some (vi (nI 1)), some (vi (nI 0))] [] O)
else
((ex d 123 0 [some (vi x5)] [] O).bind fun r0 =>
(ex d 123 0 [some (vi x4)] [] r0.2).bind fun r1 =>
if r0.1 < r1.1 then
(ex (d + 1) 200 97 [some (vr 7 0 0), some (vi x1), some (vi x2), some (vi x3), some (vi x4), some (vi x5), some (vi (nI 1)), some (vi (nI 0))] [] r1.2)
else
(ex (d + 1) 200 97 [some (vr 7 0 0), some (vi x1), some (vi x2), some (vi x3), some (vi x4), some (vi x5), some (vi (nI 0)), some (vi (nI 0))] [] r1.2)))
else
(if x2 = nI 0 then
((ex d 123 0 [some (vi x4)] [] O).bind fun r2 =>
some (r2.1, r2.2))
else
(some (x4, O))) := (ex_un d 200 300 56 [some (vr 7 0 0), some (vi x1), some (vi x2), some (vi x3), some (vi x4), some (vi x5)] [] O).trans rfl
set_option maxRecDepth 100000 in
theorem sX7_sure_97 (d : Nat) (O : Mem_) (x1 : Int32) (x2 : Int32) (x3 : Int32) (x4 : Int32) (x5 : Int32) (x6 : Int32) (x7 : Int32) : ex (d + 1) 200 97 [some (vr 7 0 0), some (vi x1), some (vi x2), some (vi x3), some (vi x4), some (vi x5), some (vi x6), some (vi x7)] [] O =
if x7 < (O 7 0 0 2) then
(if x6 = nI 0 then
(ex (d + 1) 200 161 [some (vr 7 0 0), some (vi x1), some (vi x2), some (vi x3), some (vi x4), some (vi x5), some (vi x6)] [] O)
else
(if ib x7 12 then
((ex d 148 0 [some (vr 7 0 0), some (vi x1)] [] O).bind fun r0 =>
if ((x3 >>> (x7 &&& (31:Int32))) &&& (nI 1)) = nI 0 then
(ex (d + 1) 200 97 [some (vr 7 0 0), some (vi x1), some (vi x2), some (vi x3), some (vi x4), some (vi x5), some (vi (nI 1)), some (vi (x7 + (nI 1)))] [] r0.2)
else
(if ((O 7 0 19 (Int32.toNatClampNeg x7)) ^^^ r0.1) = nI 0 then
(ex (d + 1) 200 97 [some (vr 7 0 0), some (vi x1), some (vi x2), some (vi x3), some (vi x4), some (vi x5), some (vi (nI 1)), some (vi (x7 + (nI 1)))] [] r0.2)
else
(if (((O 7 0 19 (Int32.toNatClampNeg x7)) ^^^ r0.1) &&& x5) = nI 0 then
(ex (d + 1) 200 97 [some (vr 7 0 0), some (vi x1), some (vi x2), some (vi x3), some (vi x4), some (vi x5), some (vi (nI 0)), some (vi (x7 + (nI 1)))] [] r0.2)
else
(ex (d + 1) 200 97 [some (vr 7 0 0), some (vi x1), some (vi x2), some (vi x3), some (vi x4), some (vi x5), some (vi (nI 1)), some (vi (x7 + (nI 1)))] [] r0.2))))
else none))
else
(ex (d + 1) 200 161 [some (vr 7 0 0), some (vi x1), some (vi x2), some (vi x3), some (vi x4), some (vi x5), some (vi x6)] [] O) := (ex_un d 200 300 97 [some (vr 7 0 0), some (vi x1), some (vi x2), some (vi x3), some (vi x4), some (vi x5), some (vi x6), some (vi x7)] [] O).trans rfl
set_option maxRecDepth 100000 in
theorem sX7_sure_161 (d : Nat) (O : Mem_) (x1 : Int32) (x2 : Int32) (x3 : Int32) (x4 : Int32) (x5 : Int32) (x6 : Int32) : ex (d + 1) 200 161 [some (vr 7 0 0), some (vi x1), some (vi x2), some (vi x3), some (vi x4), some (vi x5), some (vi x6)] [] O =
if x6 = nI 0 then
(ex (d + 1) 200 56 [some (vr 7 0 0), some (vi x1), some (vi x2), some (vi x3), some (vi x4), some (vi (x5 + (nI 1)))] [] O)
else
(ex (d + 1) 200 56 [some (vr 7 0 0), some (vi x1), some (vi x2), some (vi x3), some (vi x5), some (vi (x5 + (nI 1)))] [] O) := (ex_un d 200 300 161 [some (vr 7 0 0), some (vi x1), some (vi x2), some (vi x3), some (vi x4), some (vi x5), some (vi x6)] [] O).trans rfl
set_option maxRecDepth 100000 in
theorem sX7_likely_0 (d : Nat) (O : Mem_) (x1 : Int32) (x2 : Int32) : ex (d + 1) 201 0 [some (vr 7 0 0), some (vi x1), some (vi x2)] [] O =
(ex d 143 0 [some (vr 7 0 0), some (vi x1)] [] O).bind fun r0 =>
if r0.1 = nI 0 then
(some ((-1), r0.2))
else
((ex d 121 0 [some (vl (Int32.toInt64 x2)), none, some (vl 0), none, some (vl 1), none] [] r0.2).bind fun r1 =>
if r1.1 = nI 0 then
(some ((-1), r1.2))
else
(ex (d + 1) 201 25 [some (vr 7 0 0), some (vi x1), some (vi x2), some (vi (nI 0)), some (vi (nI 0))] [] r1.2)) := (ex_un d 201 300 0 [some (vr 7 0 0), some (vi x1), some (vi x2)] [] O).trans rfl
set_option maxRecDepth 100000 in
theorem sX7_likely_25 (d : Nat) (O : Mem_) (x1 : Int32) (x2 : Int32) (x3 : Int32) (x4 : Int32) : ex (d + 1) 201 25 [some (vr 7 0 0), some (vi x1), some (vi x2), some (vi x3), some (vi x4)] [] O =
if x4 < (O 7 0 0 7) then
((ex d 172 0 [some (vr 7 0 0), some (vi (nI 0)), some (vi x4), some (vi x1)] [] O).bind fun r0 =>
if r0.1 = nI 0 then
(ex (d + 1) 201 25 [some (vr 7 0 0), some (vi x1), some (vi x2), some (vi (x3 + (nI 0))), some (vi (x4 + (nI 1)))] [] r0.2)
else
(if ib (((nI 5) * x4) + (nI 4)) 30 then
(ex (d + 1) 201 25 [some (vr 7 0 0), some (vi x1), some (vi x2), some (vi (x3 + (r0.2 7 0 9 (Int32.toNatClampNeg (((nI 5) * x4) + (nI 4)))))), some (vi (x4 + (nI 1)))] [] r0.2)
else none))
else
((ex d 189 0 [some (vr 7 0 0)] [] O).bind fun r1 =>
if r1.1 = nI 0 then
(some ((oI none), r1.2))
else
((ex d 189 0 [some (vr 7 0 0)] [] r1.2).bind fun r2 =>
(ex d 191 0 [some (vi x3), some (vi r2.1), some (vi x2)] [] r2.2).bind fun r3 =>
some (r3.1, r3.2))) := (ex_un d 201 300 25 [some (vr 7 0 0), some (vi x1), some (vi x2), some (vi x3), some (vi x4)] [] O).trans rfl
set_option maxRecDepth 100000 in
theorem sX7_theirs_0 (d : Nat) (O : Mem_) (x1 : Int32) (x2 : Int32) : ex (d + 1) 202 0 [some (vr 7 0 0), some (vi x1), some (vi x2)] [] O =
(ex d 142 0 [some (vr 7 0 0), some (vi x1)] [] O).bind fun r0 =>
if r0.1 = nI 0 then
(some ((-1), r0.2))
else
(if (r0.2 7 0 0 34) = (nI 12) then
(some ((-3), r0.2))
else
(if ib (r0.2 7 0 0 34) 12 then
(if ib ((up r0.2 7 0 36 (Int32.toNatClampNeg (r0.2 7 0 0 34)) x1) 7 0 0 34) 12 then
(if x2 = nI 0 ∨ x2 = nI 1 then
(some (((up (up (up r0.2 7 0 36 (Int32.toNatClampNeg (r0.2 7 0 0 34)) x1) 7 0 37 (Int32.toNatClampNeg ((up r0.2 7 0 36 (Int32.toNatClampNeg (r0.2 7 0 0 34)) x1) 7 0 0 34)) x2) 7 0 0 34 (((up (up r0.2 7 0 36 (Int32.toNatClampNeg (r0.2 7 0 0 34)) x1) 7 0 37 (Int32.toNatClampNeg ((up r0.2 7 0 36 (Int32.toNatClampNeg (r0.2 7 0 0 34)) x1) 7 0 0 34)) x2) 7 0 0 34) + (nI 1))) 7 0 0 34), (up (up (up r0.2 7 0 36 (Int32.toNatClampNeg (r0.2 7 0 0 34)) x1) 7 0 37 (Int32.toNatClampNeg ((up r0.2 7 0 36 (Int32.toNatClampNeg (r0.2 7 0 0 34)) x1) 7 0 0 34)) x2) 7 0 0 34 (((up (up r0.2 7 0 36 (Int32.toNatClampNeg (r0.2 7 0 0 34)) x1) 7 0 37 (Int32.toNatClampNeg ((up r0.2 7 0 36 (Int32.toNatClampNeg (r0.2 7 0 0 34)) x1) 7 0 0 34)) x2) 7 0 0 34) + (nI 1)))))
else none)
else none)
else none)) := (ex_un d 202 300 0 [some (vr 7 0 0), some (vi x1), some (vi x2)] [] O).trans rfl
set_option maxRecDepth 100000 in
theorem sX7_hush_0 (d : Nat) (O : Mem_)  : ex (d + 1) 203 0 [some (vr 7 0 0)] [] O =
some ((O 7 0 0 34), (up O 7 0 0 34 (nI 0))) := (ex_un d 203 300 0 [some (vr 7 0 0)] [] O).trans rfl
set_option maxRecDepth 100000 in
theorem sX7_fitsTheirs_0 (d : Nat) (O : Mem_)  : ex (d + 1) 204 0 [some (vr 7 0 0)] [] O =
ex (d + 1) 204 4 [some (vr 7 0 0), some (vi (nI 0)), some (vi (nI 0))] [] O := (ex_un d 204 300 0 [some (vr 7 0 0)] [] O).trans rfl
set_option maxRecDepth 100000 in
theorem sX7_fitsTheirs_4 (d : Nat) (O : Mem_) (x1 : Int32) (x2 : Int32) : ex (d + 1) 204 4 [some (vr 7 0 0), some (vi x1), some (vi x2)] [] O =
if x2 < (O 7 0 0 2) then
(ex (d + 1) 204 17 [some (vr 7 0 0), some (vi x1), some (vi x2), some (vi (nI 1)), some (vi (nI 0))] [] O)
else
(some (x1, O)) := (ex_un d 204 300 4 [some (vr 7 0 0), some (vi x1), some (vi x2)] [] O).trans rfl
set_option maxRecDepth 100000 in
theorem sX7_fitsTheirs_17 (d : Nat) (O : Mem_) (x1 : Int32) (x2 : Int32) (x3 : Int32) (x4 : Int32) : ex (d + 1) 204 17 [some (vr 7 0 0), some (vi x1), some (vi x2), some (vi x3), some (vi x4)] [] O =
if x4 < (O 7 0 0 34) then
(if x3 = nI 0 then
(ex (d + 1) 204 17 [some (vr 7 0 0), some (vi x1), some (vi x2), some (vi (nI 0)), some (vi (x4 + (nI 1)))] [] O)
else
(if ib x2 12 then
(if ib x4 12 then
(if ib x4 12 then
((ex d 122 0 [some (vi (O 7 0 37 (Int32.toNatClampNeg x4)))] [] O).bind fun r0 =>
if (((O 7 0 19 (Int32.toNatClampNeg x2)) >>> ((O 7 0 36 (Int32.toNatClampNeg x4)) &&& (31:Int32))) &&& (nI 1)) = r0.1 then
(ex (d + 1) 204 17 [some (vr 7 0 0), some (vi x1), some (vi x2), some (vi (nI 1)), some (vi (x4 + (nI 1)))] [] r0.2)
else
(ex (d + 1) 204 17 [some (vr 7 0 0), some (vi x1), some (vi x2), some (vi (nI 0)), some (vi (x4 + (nI 1)))] [] r0.2))
else none)
else none)
else none))
else
(if x3 = nI 0 then
(ex (d + 1) 204 4 [some (vr 7 0 0), some (vi (x1 ||| (nI 0))), some (vi (x2 + (nI 1)))] [] O)
else
(ex (d + 1) 204 4 [some (vr 7 0 0), some (vi (x1 ||| ((nI 1) <<< (x2 &&& (31:Int32))))), some (vi (x2 + (nI 1)))] [] O)) := (ex_un d 204 300 17 [some (vr 7 0 0), some (vi x1), some (vi x2), some (vi x3), some (vi x4)] [] O).trans rfl
set_option maxRecDepth 100000 in
theorem sX7_toAsk_0 (d : Nat) (O : Mem_) (x1 : Int32) : ex (d + 1) 205 0 [some (vr 7 0 0), some (vi x1)] [] O =
ex (d + 1) 205 8 [some (vr 7 0 0), some (vi x1), some (vi (oI none)), some (vi (-1)), some (vi (nI 0))] [] O := (ex_un d 205 300 0 [some (vr 7 0 0), some (vi x1)] [] O).trans rfl
set_option maxRecDepth 100000 in
theorem sX7_toAsk_8 (d : Nat) (O : Mem_) (x1 : Int32) (x2 : Int32) (x3 : Int32) (x4 : Int32) : ex (d + 1) 205 8 [some (vr 7 0 0), some (vi x1), some (vi x2), some (vi x3), some (vi x4)] [] O =
if x4 < (O 7 0 0 0) then
(if x1 = nI 0 then
(some (x2, O))
else
(ex (d + 1) 205 27 [some (vr 7 0 0), some (vi x1), some (vi x2), some (vi x3), some (vi x4), some (vi (nI 0)), some (vi (nI 0))] [] O))
else
(some (x2, O)) := (ex_un d 205 300 8 [some (vr 7 0 0), some (vi x1), some (vi x2), some (vi x3), some (vi x4)] [] O).trans rfl
set_option maxRecDepth 100000 in
theorem sX7_toAsk_27 (d : Nat) (O : Mem_) (x1 : Int32) (x2 : Int32) (x3 : Int32) (x4 : Int32) (x5 : Int32) (x6 : Int32) : ex (d + 1) 205 27 [some (vr 7 0 0), some (vi x1), some (vi x2), some (vi x3), some (vi x4), some (vi x5), some (vi x6)] [] O =
if x6 < (O 7 0 0 2) then
(if ((x1 >>> (x6 &&& (31:Int32))) &&& (nI 1)) = (nI 1) then
(if ib x6 12 then
(ex (d + 1) 205 27 [some (vr 7 0 0), some (vi x1), some (vi x2), some (vi x3), some (vi x4), some (vi (x5 + (((O 7 0 19 (Int32.toNatClampNeg x6)) >>> (x4 &&& (31:Int32))) &&& (nI 1)))), some (vi (x6 + (nI 1)))] [] O)
else none)
else
(ex (d + 1) 205 27 [some (vr 7 0 0), some (vi x1), some (vi x2), some (vi x3), some (vi x4), some (vi (x5 + (nI 0))), some (vi (x6 + (nI 1)))] [] O))
else
((ex d 123 0 [some (vi x1)] [] O).bind fun r0 =>
if x5 < (r0.1 - x5) then
(if x3 < x5 then
(ex (d + 1) 205 111 [some (vr 7 0 0), some (vi x1), none, some (vi x3), some (vi x4), none, some (vi x5)] [vi x4] r0.2)
else
(ex (d + 1) 205 111 [some (vr 7 0 0), some (vi x1), none, some (vi x3), some (vi x4), none, some (vi x5)] [vi x2] r0.2))
else
((ex d 123 0 [some (vi x1)] [] r0.2).bind fun r1 =>
if x3 < (r1.1 - x5) then
(ex (d + 1) 205 111 [some (vr 7 0 0), some (vi x1), none, some (vi x3), some (vi x4), none, some (vi (r1.1 - x5))] [vi x4] r1.2)
else
(ex (d + 1) 205 111 [some (vr 7 0 0), some (vi x1), none, some (vi x3), some (vi x4), none, some (vi (r1.1 - x5))] [vi x2] r1.2))) := (ex_un d 205 300 27 [some (vr 7 0 0), some (vi x1), some (vi x2), some (vi x3), some (vi x4), some (vi x5), some (vi x6)] [] O).trans rfl
set_option maxRecDepth 100000 in
theorem sX7_toAsk_111 (d : Nat) (O : Mem_) (x1 : Int32) (x3 : Int32) (x4 : Int32) (x6 : Int32) (y0 : Int32) : ex (d + 1) 205 111 [some (vr 7 0 0), some (vi x1), none, some (vi x3), some (vi x4), none, some (vi x6)] [vi y0] O =
if x3 < x6 then
(ex (d + 1) 205 8 [some (vr 7 0 0), some (vi x1), some (vi y0), some (vi x6), some (vi (x4 + (nI 1)))] [] O)
else
(ex (d + 1) 205 8 [some (vr 7 0 0), some (vi x1), some (vi y0), some (vi x3), some (vi (x4 + (nI 1)))] [] O) := (ex_un d 205 300 111 [some (vr 7 0 0), some (vi x1), none, some (vi x3), some (vi x4), none, some (vi x6)] [vi y0] O).trans rfl
set_option maxRecDepth 100000 in
theorem sX7_meant_0 (d : Nat) (O : Mem_) (x1 : Int32) : ex (d + 1) 206 0 [some (vr 7 0 0), some (vi x1)] [] O =
(ex d 204 0 [some (vr 7 0 0)] [] O).bind fun r0 =>
if x1 = (nI 0) then
((ex d 123 0 [some (vi r0.1)] [] r0.2).bind fun r1 =>
some (r1.1, r1.2))
else if x1 = (nI 1) then
((ex d 156 0 [some (vr 7 0 0), some (vi r0.1)] [] r0.2).bind fun r2 =>
some (r2.1, r2.2))
else if x1 = (nI 2) then
(some (r0.1, r0.2))
else if x1 = (nI 3) then
((ex d 205 0 [some (vr 7 0 0), some (vi r0.1)] [] r0.2).bind fun r3 =>
some (r3.1, r3.2))
else 
(some ((-1), r0.2)) := (ex_un d 206 300 0 [some (vr 7 0 0), some (vi x1)] [] O).trans rfl
set_option maxRecDepth 100000 in
theorem sX7_build_0 (d : Nat) (O : Mem_) (x1 : Int32) (x2 : Int32) : ex (d + 1) 207 0 [some (vr 7 0 0), some (vi x1), some (vi x2)] [] O =
(ex d 121 0 [some (vl (Int32.toInt64 x1)), none, some (vl 0), none, some (vl (Int32.toInt64 ((O 7 0 0 2) - (nI 1)))), none] [] O).bind fun r0 =>
if r0.1 = nI 0 then
(some ((-1), r0.2))
else
((ex d 121 0 [some (vl (Int32.toInt64 x2)), none, some (vl 0), none, some (vl (2)), none] [] r0.2).bind fun r1 =>
if r1.1 = nI 0 then
(some ((-1), r1.2))
else
(ex (d + 1) 207 42 [some (vr 7 0 0), some (vi x1), some (vi x2), some (vi (((nI 1) <<< ((r1.2 7 0 0 0) &&& (31:Int32))) - (nI 1))), some (vi (nI 1))] [] r1.2)) := (ex_un d 207 300 0 [some (vr 7 0 0), some (vi x1), some (vi x2)] [] O).trans rfl
set_option maxRecDepth 100000 in
theorem sX7_build_42 (d : Nat) (O : Mem_) (x1 : Int32) (x2 : Int32) (x3 : Int32) (x4 : Int32) : ex (d + 1) 207 42 [some (vr 7 0 0), some (vi x1), some (vi x2), some (vi x3), some (vi x4)] [] O =
if x4 < (nI 4) then
(ex (d + 1) 207 51 [some (vr 7 0 0), some (vi x1), some (vi x2), some (vi x3), some (vi x4), some (vi (nI 0))] [] O)
else
(some ((oI none), O)) := (ex_un d 207 300 42 [some (vr 7 0 0), some (vi x1), some (vi x2), some (vi x3), some (vi x4)] [] O).trans rfl
set_option maxRecDepth 100000 in
theorem sX7_build_51 (d : Nat) (O : Mem_) (x1 : Int32) (x2 : Int32) (x3 : Int32) (x4 : Int32) (x5 : Int32) : ex (d + 1) 207 51 [some (vr 7 0 0), some (vi x1), some (vi x2), some (vi x3), some (vi x4), some (vi x5)] [] O =
if x5 < (O 7 0 0 5) then
(ex (d + 1) 207 63 [some (vr 7 0 0), some (vi x1), some (vi x2), some (vi x3), some (vi x4), some (vi x5), some (vi (nI 0))] [] O)
else
(ex (d + 1) 207 42 [some (vr 7 0 0), some (vi x1), some (vi x2), some (vi x3), some (vi (x4 + (nI 1)))] [] O) := (ex_un d 207 300 51 [some (vr 7 0 0), some (vi x1), some (vi x2), some (vi x3), some (vi x4), some (vi x5)] [] O).trans rfl
set_option maxRecDepth 100000 in
theorem sX7_build_63 (d : Nat) (O : Mem_) (x1 : Int32) (x2 : Int32) (x3 : Int32) (x4 : Int32) (x5 : Int32) (x6 : Int32) : ex (d + 1) 207 63 [some (vr 7 0 0), some (vi x1), some (vi x2), some (vi x3), some (vi x4), some (vi x5), some (vi x6)] [] O =
if x4 = (nI 1) then
(ex (d + 1) 207 79 [some (vr 7 0 0), some (vi x1), some (vi x2), some (vi x3), some (vi x4), some (vi x5), some (vi x6)] [vi (nI 1), vi x6] O)
else
(ex (d + 1) 207 79 [some (vr 7 0 0), some (vi x1), some (vi x2), some (vi x3), some (vi x4), some (vi x5), some (vi x6)] [vi (O 7 0 0 5), vi x6] O) := (ex_un d 207 300 63 [some (vr 7 0 0), some (vi x1), some (vi x2), some (vi x3), some (vi x4), some (vi x5), some (vi x6)] [] O).trans rfl
set_option maxRecDepth 100000 in
theorem sX7_build_79 (d : Nat) (O : Mem_) (x1 : Int32) (x2 : Int32) (x3 : Int32) (x4 : Int32) (x5 : Int32) (x6 : Int32) (y0 : Int32) (y1 : Int32) : ex (d + 1) 207 79 [some (vr 7 0 0), some (vi x1), some (vi x2), some (vi x3), some (vi x4), some (vi x5), some (vi x6)] [vi y0, vi y1] O =
if y1 < y0 then
(if x4 = (nI 1) then
((ex d 148 0 [some (vr 7 0 0), some (vi x5)] [] O).bind fun r0 =>
ex (d + 1) 207 136 [some (vr 7 0 0), some (vi x1), some (vi x2), some (vi x3), some (vi x4), some (vi x5), some (vi x6)] [vi r0.1] r0.2)
else
(if x4 = (nI 2) then
((ex d 148 0 [some (vr 7 0 0), some (vi x5)] [] O).bind fun r1 =>
(ex d 148 0 [some (vr 7 0 0), some (vi x6)] [] r1.2).bind fun r2 =>
ex (d + 1) 207 136 [some (vr 7 0 0), some (vi x1), some (vi x2), some (vi x3), some (vi x4), some (vi x5), some (vi x6)] [vi (r1.1 &&& r2.1)] r2.2)
else
((ex d 148 0 [some (vr 7 0 0), some (vi x5)] [] O).bind fun r3 =>
(ex d 148 0 [some (vr 7 0 0), some (vi x6)] [] r3.2).bind fun r4 =>
ex (d + 1) 207 136 [some (vr 7 0 0), some (vi x1), some (vi x2), some (vi x3), some (vi x4), some (vi x5), some (vi x6)] [vi ((r3.1 &&& (r4.1 ^^^ (-1))) &&& x3)] r4.2)))
else
(ex (d + 1) 207 51 [some (vr 7 0 0), some (vi x1), some (vi x2), some (vi x3), some (vi x4), some (vi (x5 + (nI 1)))] [] O) := (ex_un d 207 300 79 [some (vr 7 0 0), some (vi x1), some (vi x2), some (vi x3), some (vi x4), some (vi x5), some (vi x6)] [vi y0, vi y1] O).trans rfl
set_option maxRecDepth 100000 in
theorem sX7_build_136 (d : Nat) (O : Mem_) (x1 : Int32) (x2 : Int32) (x3 : Int32) (x4 : Int32) (x5 : Int32) (x6 : Int32) (y0 : Int32) : ex (d + 1) 207 136 [some (vr 7 0 0), some (vi x1), some (vi x2), some (vi x3), some (vi x4), some (vi x5), some (vi x6)] [vi y0] O =
if x4 = (nI 1) then
(ex (d + 1) 207 151 [some (vr 7 0 0), some (vi x1), some (vi x2), some (vi x3), some (vi x4), some (vi x5), some (vi x6), some (vi y0)] [] O)
else
(if x5 = x6 then
(ex (d + 1) 207 63 [some (vr 7 0 0), some (vi x1), some (vi x2), some (vi x3), some (vi x4), some (vi x5), some (vi (x6 + (nI 1)))] [] O)
else
(ex (d + 1) 207 151 [some (vr 7 0 0), some (vi x1), some (vi x2), some (vi x3), some (vi x4), some (vi x5), some (vi x6), some (vi y0)] [] O)) := (ex_un d 207 300 136 [some (vr 7 0 0), some (vi x1), some (vi x2), some (vi x3), some (vi x4), some (vi x5), some (vi x6)] [vi y0] O).trans rfl
set_option maxRecDepth 100000 in
theorem sX7_build_151 (d : Nat) (O : Mem_) (x1 : Int32) (x2 : Int32) (x3 : Int32) (x4 : Int32) (x5 : Int32) (x6 : Int32) (x7 : Int32) : ex (d + 1) 207 151 [some (vr 7 0 0), some (vi x1), some (vi x2), some (vi x3), some (vi x4), some (vi x5), some (vi x6), some (vi x7)] [] O =
if ib x1 12 then
(if x7 = (O 7 0 19 (Int32.toNatClampNeg x1)) then
(if x2 = nI 0 then
(some (x4, O))
else
(if x2 = (nI 1) then
(some (x5, O))
else
(if x4 = (nI 1) then
(some ((oI none), O))
else
(some (x6, O)))))
else
(ex (d + 1) 207 63 [some (vr 7 0 0), some (vi x1), some (vi x2), some (vi x3), some (vi x4), some (vi x5), some (vi (x6 + (nI 1)))] [] O))
else none := (ex_un d 207 300 151 [some (vr 7 0 0), some (vi x1), some (vi x2), some (vi x3), some (vi x4), some (vi x5), some (vi x6), some (vi x7)] [] O).trans rfl
set_option maxRecDepth 100000 in
theorem sX7_draw_0 (d : Nat) (O : Mem_) (x1 : Int32) : ex (d + 1) 208 0 [some (vr 7 0 0), some (vi x1)] [] O =
(ex d 189 0 [some (vr 7 0 0)] [] O).bind fun r0 =>
if r0.1 = nI 0 then
(some ((oI none), r0.2))
else
((ex d 189 0 [some (vr 7 0 0)] [] r0.2).bind fun r1 =>
if r1.1 = nI 0 then none else ex (d + 1) 208 34 [some (vr 7 0 0), none, some (vi (((((x1 * (nI 1103515245)) + (nI 12345)) >>> ((nI 16) &&& (31:Int32))) &&& (nI 32767)) - ((((x1 * (nI 1103515245)) + (nI 12345)) >>> ((nI 16) &&& (31:Int32))) &&& (nI 32767)) / r1.1 * r1.1)), some (vi (nI 0))] [] r1.2) := (ex_un d 208 300 0 [some (vr 7 0 0), some (vi x1)] [] O).trans rfl
set_option maxRecDepth 100000 in
theorem sX7_draw_34 (d : Nat) (O : Mem_) (x2 : Int32) (x3 : Int32) : ex (d + 1) 208 34 [some (vr 7 0 0), none, some (vi x2), some (vi x3)] [] O =
if ib (((nI 5) * x3) + (nI 4)) 30 then
(if x2 < (O 7 0 9 (Int32.toNatClampNeg (((nI 5) * x3) + (nI 4)))) then
(some (x3, O))
else
(if ib (((nI 5) * x3) + (nI 4)) 30 then
(ex (d + 1) 208 34 [some (vr 7 0 0), none, some (vi (x2 - (O 7 0 9 (Int32.toNatClampNeg (((nI 5) * x3) + (nI 4)))))), some (vi (x3 + (nI 1)))] [] O)
else none))
else none := (ex_un d 208 300 34 [some (vr 7 0 0), none, some (vi x2), some (vi x3)] [] O).trans rfl
set_option maxRecDepth 100000 in
theorem sX7_keep_0 (d : Nat) (O : Mem_) (x1 : Int32) : ex (d + 1) 209 0 [some (vr 7 0 0), some (vi x1)] [] O =
(ex d 121 0 [some (vl (Int32.toInt64 x1)), none, some (vl 0), none, some (vl 1), none] [] O).bind fun r0 =>
if r0.1 = nI 0 then
(some ((-1), r0.2))
else
(if ib x1 2 then
((ex d 122 0 [some (vi (r0.2 7 0 38 (Int32.toNatClampNeg x1)))] [] r0.2).bind fun r1 =>
if ib x1 2 then
(if (nI 1) = nI 0 ∨ (nI 1) = nI 1 then
(if ib ((nI 3) * x1) 6 then
(if ib (((nI 3) * x1) + (nI 1)) 6 then
(if ib (((nI 3) * x1) + (nI 2)) 6 then
(ex (d + 1) 209 71 [some (vr 7 0 0), some (vi x1), some (vi r1.1), some (vi (nI 0))] [] (up (up (up (up r1.2 7 0 38 (Int32.toNatClampNeg x1) (nI 1)) 7 0 39 (Int32.toNatClampNeg ((nI 3) * x1)) ((up r1.2 7 0 38 (Int32.toNatClampNeg x1) (nI 1)) 7 0 0 28)) 7 0 39 (Int32.toNatClampNeg (((nI 3) * x1) + (nI 1))) ((up (up r1.2 7 0 38 (Int32.toNatClampNeg x1) (nI 1)) 7 0 39 (Int32.toNatClampNeg ((nI 3) * x1)) ((up r1.2 7 0 38 (Int32.toNatClampNeg x1) (nI 1)) 7 0 0 28)) 7 0 0 33)) 7 0 39 (Int32.toNatClampNeg (((nI 3) * x1) + (nI 2))) ((up (up (up r1.2 7 0 38 (Int32.toNatClampNeg x1) (nI 1)) 7 0 39 (Int32.toNatClampNeg ((nI 3) * x1)) ((up r1.2 7 0 38 (Int32.toNatClampNeg x1) (nI 1)) 7 0 0 28)) 7 0 39 (Int32.toNatClampNeg (((nI 3) * x1) + (nI 1))) ((up (up r1.2 7 0 38 (Int32.toNatClampNeg x1) (nI 1)) 7 0 39 (Int32.toNatClampNeg ((nI 3) * x1)) ((up r1.2 7 0 38 (Int32.toNatClampNeg x1) (nI 1)) 7 0 0 28)) 7 0 0 33)) 7 0 0 34)))
else none)
else none)
else none)
else none)
else none)
else none) := (ex_un d 209 300 0 [some (vr 7 0 0), some (vi x1)] [] O).trans rfl
set_option maxRecDepth 100000 in
theorem sX7_keep_71 (d : Nat) (O : Mem_) (x1 : Int32) (x2 : Int32) (x3 : Int32) : ex (d + 1) 209 71 [some (vr 7 0 0), some (vi x1), some (vi x2), some (vi x3)] [] O =
if x3 < (nI 72) then
(if ib x3 72 then
(if ib (((nI 72) * x1) + x3) 144 then
(ex (d + 1) 209 71 [some (vr 7 0 0), some (vi x1), some (vi x2), some (vi (x3 + (nI 1)))] [] (up O 7 0 40 (Int32.toNatClampNeg (((nI 72) * x1) + x3)) (O 7 0 30 (Int32.toNatClampNeg x3))))
else none)
else none)
else
(ex (d + 1) 209 102 [some (vr 7 0 0), some (vi x1), some (vi x2), some (vi (nI 0))] [] O) := (ex_un d 209 300 71 [some (vr 7 0 0), some (vi x1), some (vi x2), some (vi x3)] [] O).trans rfl
set_option maxRecDepth 100000 in
theorem sX7_keep_102 (d : Nat) (O : Mem_) (x1 : Int32) (x2 : Int32) (x3 : Int32) : ex (d + 1) 209 102 [some (vr 7 0 0), some (vi x1), some (vi x2), some (vi x3)] [] O =
if x3 < (nI 12) then
(if ib x3 12 then
(if ib (((nI 24) * x1) + ((nI 2) * x3)) 48 then
(if ib x3 12 then
((ex d 122 0 [some (vi ((up O 7 0 41 (Int32.toNatClampNeg (((nI 24) * x1) + ((nI 2) * x3))) (O 7 0 36 (Int32.toNatClampNeg x3))) 7 0 37 (Int32.toNatClampNeg x3)))] [] (up O 7 0 41 (Int32.toNatClampNeg (((nI 24) * x1) + ((nI 2) * x3))) (O 7 0 36 (Int32.toNatClampNeg x3)))).bind fun r0 =>
if ib ((((nI 24) * x1) + ((nI 2) * x3)) + (nI 1)) 48 then
(ex (d + 1) 209 102 [some (vr 7 0 0), some (vi x1), some (vi x2), some (vi (x3 + (nI 1)))] [] (up r0.2 7 0 41 (Int32.toNatClampNeg ((((nI 24) * x1) + ((nI 2) * x3)) + (nI 1))) r0.1))
else none)
else none)
else none)
else none)
else
(some (x2, O)) := (ex_un d 209 300 102 [some (vr 7 0 0), some (vi x1), some (vi x2), some (vi x3)] [] O).trans rfl
set_option maxRecDepth 100000 in
theorem sX7_back_0 (d : Nat) (O : Mem_) (x1 : Int32) : ex (d + 1) 210 0 [some (vr 7 0 0), some (vi x1)] [] O =
(ex d 121 0 [some (vl (Int32.toInt64 x1)), none, some (vl 0), none, some (vl 1), none] [] O).bind fun r0 =>
if r0.1 = nI 0 then
(some ((-1), r0.2))
else
(if ib x1 2 then
(if (r0.2 7 0 38 (Int32.toNatClampNeg x1)) = nI 0 then
(some ((-2), r0.2))
else
(if ib ((nI 3) * x1) 6 then
(if ib (((nI 3) * x1) + (nI 1)) 6 then
(if ib (((nI 3) * x1) + (nI 2)) 6 then
(ex (d + 1) 210 66 [some (vr 7 0 0), some (vi x1), some (vi (nI 0))] [] (up (up (up r0.2 7 0 0 28 (r0.2 7 0 39 (Int32.toNatClampNeg ((nI 3) * x1)))) 7 0 0 33 ((up r0.2 7 0 0 28 (r0.2 7 0 39 (Int32.toNatClampNeg ((nI 3) * x1)))) 7 0 39 (Int32.toNatClampNeg (((nI 3) * x1) + (nI 1))))) 7 0 0 34 ((up (up r0.2 7 0 0 28 (r0.2 7 0 39 (Int32.toNatClampNeg ((nI 3) * x1)))) 7 0 0 33 ((up r0.2 7 0 0 28 (r0.2 7 0 39 (Int32.toNatClampNeg ((nI 3) * x1)))) 7 0 39 (Int32.toNatClampNeg (((nI 3) * x1) + (nI 1))))) 7 0 39 (Int32.toNatClampNeg (((nI 3) * x1) + (nI 2))))))
else none)
else none)
else none))
else none) := (ex_un d 210 300 0 [some (vr 7 0 0), some (vi x1)] [] O).trans rfl
set_option maxRecDepth 100000 in
theorem sX7_back_66 (d : Nat) (O : Mem_) (x1 : Int32) (x2 : Int32) : ex (d + 1) 210 66 [some (vr 7 0 0), some (vi x1), some (vi x2)] [] O =
if x2 < (nI 72) then
(if ib (((nI 72) * x1) + x2) 144 then
(if ib x2 72 then
(ex (d + 1) 210 66 [some (vr 7 0 0), some (vi x1), some (vi (x2 + (nI 1)))] [] (up O 7 0 30 (Int32.toNatClampNeg x2) (O 7 0 40 (Int32.toNatClampNeg (((nI 72) * x1) + x2)))))
else none)
else none)
else
(ex (d + 1) 210 97 [some (vr 7 0 0), some (vi x1), some (vi (nI 0))] [] O) := (ex_un d 210 300 66 [some (vr 7 0 0), some (vi x1), some (vi x2)] [] O).trans rfl
set_option maxRecDepth 100000 in
theorem sX7_back_97 (d : Nat) (O : Mem_) (x1 : Int32) (x2 : Int32) : ex (d + 1) 210 97 [some (vr 7 0 0), some (vi x1), some (vi x2)] [] O =
if x2 < (nI 12) then
(if ib (((nI 24) * x1) + ((nI 2) * x2)) 48 then
(if ib x2 12 then
(if ib ((((nI 24) * x1) + ((nI 2) * x2)) + (nI 1)) 48 then
(if ((up O 7 0 36 (Int32.toNatClampNeg x2) (O 7 0 41 (Int32.toNatClampNeg (((nI 24) * x1) + ((nI 2) * x2))))) 7 0 41 (Int32.toNatClampNeg ((((nI 24) * x1) + ((nI 2) * x2)) + (nI 1)))) = (nI 1) then
(if ib x2 12 then
(ex (d + 1) 210 97 [some (vr 7 0 0), some (vi x1), some (vi (x2 + (nI 1)))] [] (up (up O 7 0 36 (Int32.toNatClampNeg x2) (O 7 0 41 (Int32.toNatClampNeg (((nI 24) * x1) + ((nI 2) * x2))))) 7 0 37 (Int32.toNatClampNeg x2) (nI 1)))
else none)
else
(if ib x2 12 then
(ex (d + 1) 210 97 [some (vr 7 0 0), some (vi x1), some (vi (x2 + (nI 1)))] [] (up (up O 7 0 36 (Int32.toNatClampNeg x2) (O 7 0 41 (Int32.toNatClampNeg (((nI 24) * x1) + ((nI 2) * x2))))) 7 0 37 (Int32.toNatClampNeg x2) (nI 0)))
else none))
else none)
else none)
else none)
else
((ex d 162 0 [some (vr 7 0 0)] [] O).bind fun r0 =>
some ((r0.2 7 0 0 28), r0.2)) := (ex_un d 210 300 97 [some (vr 7 0 0), some (vi x1), some (vi x2)] [] O).trans rfl
set_option maxRecDepth 100000 in
theorem sX7_isSheet_0 (d : Nat) (O : Mem_) (x0 : Int32) (x1 : Int32) : ex (d + 1) 211 0 [some (vi x0), some (vi x1)] [] O =
(ex d 121 0 [some (vl (Int32.toInt64 x0)), none, some (vl 0), none, some (vl (3)), none] [] O).bind fun r0 =>
if r0.1 = nI 0 then
(some ((nI 0), r0.2))
else
((ex d 121 0 [some (vl (Int32.toInt64 x1)), none, some (vl 0), none, some (vl (2)), none] [] r0.2).bind fun r1 =>
if r1.1 = nI 0 then
(some ((nI 0), r1.2))
else
(some ((nI 1), r1.2))) := (ex_un d 211 300 0 [some (vi x0), some (vi x1)] [] O).trans rfl
set_option maxRecDepth 100000 in
theorem sX7_sheet_0 (d : Nat) (O : Mem_) (x1 : Int32) (x2 : Int32) (x3 : Int32) : ex (d + 1) 212 0 [some (vr 7 0 0), some (vi x1), some (vi x2), some (vi x3)] [] O =
(ex d 211 0 [some (vi x1), some (vi x2)] [] O).bind fun r0 =>
if r0.1 = nI 0 then
(some ((-1), r0.2))
else
(if (nI 40) < x3 then
(some ((-1), r0.2))
else
(if x3 < nI 0 then
(some ((-14), r0.2))
else
(if ib x1 4 then
(if ib x1 4 then
(ex (d + 1) 212 40 [some (vr 7 0 0), some (vi x1), none, none, some (vi (nI 0))] [] (up (up r0.2 7 0 42 (Int32.toNatClampNeg x1) x2) 7 0 43 (Int32.toNatClampNeg x1) x3))
else none)
else none))) := (ex_un d 212 300 0 [some (vr 7 0 0), some (vi x1), some (vi x2), some (vi x3)] [] O).trans rfl
set_option maxRecDepth 100000 in
theorem sX7_sheet_40 (d : Nat) (O : Mem_) (x1 : Int32) (x4 : Int32) : ex (d + 1) 212 40 [some (vr 7 0 0), some (vi x1), none, none, some (vi x4)] [] O =
if x4 < (nI 40) then
(if ib (((nI 40) * x1) + x4) 160 then
(ex (d + 1) 212 40 [some (vr 7 0 0), some (vi x1), none, none, some (vi (x4 + (nI 1)))] [] (up O 7 0 44 (Int32.toNatClampNeg (((nI 40) * x1) + x4)) (nI 0)))
else none)
else
(some ((nI 1), O)) := (ex_un d 212 300 40 [some (vr 7 0 0), some (vi x1), none, none, some (vi x4)] [] O).trans rfl
set_option maxRecDepth 100000 in
theorem sX7_lay_0 (d : Nat) (O : Mem_) (x1 : Int32) (x2 : Int32) (x3 : Int32) : ex (d + 1) 213 0 [some (vr 7 0 0), some (vi x1), some (vi x2), some (vi x3)] [] O =
(ex d 211 0 [some (vi x1), some (vi (nI 0))] [] O).bind fun r0 =>
if r0.1 = nI 0 then
(some ((-1), r0.2))
else
(if ib x1 4 then
(if (r0.2 7 0 42 (Int32.toNatClampNeg x1)) = (oI none) then
(some ((-11), r0.2))
else
(if ib x1 4 then
((ex d 121 0 [some (vl (Int32.toInt64 x2)), none, some (vl 0), none, some (vl (Int32.toInt64 ((r0.2 7 0 43 (Int32.toNatClampNeg x1)) - (nI 1)))), none] [] r0.2).bind fun r1 =>
if r1.1 = nI 0 then
(some ((-12), r1.2))
else
(if ib x1 4 then
(if (r1.2 7 0 42 (Int32.toNatClampNeg x1)) = nI 0 then
(if ib (((nI 40) * x1) + x2) 160 then
(some ((nI 1), (up r1.2 7 0 44 (Int32.toNatClampNeg (((nI 40) * x1) + x2)) ((Int32.toInt8 x3).toInt32))))
else none)
else
(if ib x1 4 then
(if (r1.2 7 0 42 (Int32.toNatClampNeg x1)) = (nI 1) then
(if ib (((nI 40) * x1) + x2) 160 then
(some ((nI 1), (up r1.2 7 0 44 (Int32.toNatClampNeg (((nI 40) * x1) + x2)) ((Int32.toInt16 x3).toInt32))))
else none)
else
(if ib (((nI 40) * x1) + x2) 160 then
(some ((nI 1), (up r1.2 7 0 44 (Int32.toNatClampNeg (((nI 40) * x1) + x2)) x3)))
else none))
else none))
else none))
else none))
else none) := (ex_un d 213 300 0 [some (vr 7 0 0), some (vi x1), some (vi x2), some (vi x3)] [] O).trans rfl
set_option maxRecDepth 100000 in
theorem sX7_read_0 (d : Nat) (O : Mem_) (x1 : Int32) (x2 : Int32) (x3 : Int32) (x4 : Int32) : ex (d + 1) 214 0 [some (vr 7 0 0), some (vi x1), some (vi x2), some (vi x3), some (vi x4)] [] O =
(ex d 211 0 [some (vi x1), some (vi x2)] [] O).bind fun r0 =>
if r0.1 = nI 0 then
(some ((-1), r0.2))
else
((ex d 121 0 [some (vl (Int32.toInt64 x4)), none, some (vl 0), none, some (vl (13)), none] [] r0.2).bind fun r1 =>
if r1.1 = nI 0 then
(some ((-1), r1.2))
else
(ex (d + 1) 214 32 [some (vr 7 0 0), some (vi x1), some (vi x2), some (vi x3), some (vi x4), some (vi (nI 0)), some (vi (nI 0)), some (vi (nI 0))] [] r1.2)) := (ex_un d 214 300 0 [some (vr 7 0 0), some (vi x1), some (vi x2), some (vi x3), some (vi x4)] [] O).trans rfl
set_option maxRecDepth 100000 in
theorem sX7_read_32 (d : Nat) (O : Mem_) (x1 : Int32) (x2 : Int32) (x3 : Int32) (x4 : Int32) (x5 : Int32) (x6 : Int32) (x7 : Int32) : ex (d + 1) 214 32 [some (vr 7 0 0), some (vi x1), some (vi x2), some (vi x3), some (vi x4), some (vi x5), some (vi x6), some (vi x7)] [] O =
if x7 < x4 then
(if x5 = nI 0 then
(ex (d + 1) 214 47 [some (vr 7 0 0), some (vi x1), some (vi x2), some (vi x3), some (vi x4), some (vi x5), some (vi x6), some (vi x7), some (vi (nI 0))] [] O)
else
(ex (d + 1) 214 239 [some (vr 7 0 0), some (vi x1), none, some (vi x3), none, none, some (vi x6), some (vi (nI 0))] [] (up O 7 0 0 44 x5)))
else
(ex (d + 1) 214 239 [some (vr 7 0 0), some (vi x1), none, some (vi x3), none, none, some (vi x6), some (vi (nI 0))] [] (up O 7 0 0 44 x5)) := (ex_un d 214 300 32 [some (vr 7 0 0), some (vi x1), some (vi x2), some (vi x3), some (vi x4), some (vi x5), some (vi x6), some (vi x7)] [] O).trans rfl
set_option maxRecDepth 100000 in
theorem sX7_read_47 (d : Nat) (O : Mem_) (x1 : Int32) (x2 : Int32) (x3 : Int32) (x4 : Int32) (x5 : Int32) (x6 : Int32) (x7 : Int32) (x8 : Int32) : ex (d + 1) 214 47 [some (vr 7 0 0), some (vi x1), some (vi x2), some (vi x3), some (vi x4), some (vi x5), some (vi x6), some (vi x7), some (vi x8)] [] O =
if x8 < (nI 3) then
(if x5 = nI 0 then
(if ib x1 4 then
(if (O 7 0 42 (Int32.toNatClampNeg x1)) = (oI none) then
(ex (d + 1) 214 47 [some (vr 7 0 0), some (vi x1), some (vi x2), some (vi x3), some (vi x4), some (vi (nI 1)), some (vi x6), some (vi x7), some (vi (x8 + (nI 1)))] [] O)
else
(if ib x1 4 then
(if (O 7 0 42 (Int32.toNatClampNeg x1)) = x2 then
(if (lg_cmp (((Int32.toInt64 x3) + (Int32.toInt64 ((nI 3) * x7))) + (Int32.toInt64 x8)) 0) < nI 0 then
(ex (d + 1) 214 47 [some (vr 7 0 0), some (vi x1), some (vi x2), some (vi x3), some (vi x4), some (vi (nI 2)), some (vi x6), some (vi x7), some (vi (x8 + (nI 1)))] [] O)
else
(if ib x1 4 then
(if (lg_cmp (((Int32.toInt64 x3) + (Int32.toInt64 ((nI 3) * x7))) + (Int32.toInt64 x8)) (Int32.toInt64 (O 7 0 43 (Int32.toNatClampNeg x1)))) < nI 0 then
(ex (d + 1) 214 47 [some (vr 7 0 0), some (vi x1), some (vi x2), some (vi x3), some (vi x4), some (vi (nI 0)), some (vi x6), some (vi x7), some (vi (x8 + (nI 1)))] [] O)
else
(ex (d + 1) 214 47 [some (vr 7 0 0), some (vi x1), some (vi x2), some (vi x3), some (vi x4), some (vi (nI 2)), some (vi x6), some (vi x7), some (vi (x8 + (nI 1)))] [] O))
else none))
else
(ex (d + 1) 214 47 [some (vr 7 0 0), some (vi x1), some (vi x2), some (vi x3), some (vi x4), some (vi (nI 3)), some (vi x6), some (vi x7), some (vi (x8 + (nI 1)))] [] O))
else none))
else none)
else
(ex (d + 1) 214 134 [some (vr 7 0 0), some (vi x1), some (vi x2), some (vi x3), some (vi x4), some (vi x5), some (vi x6), some (vi x7)] [] O))
else
(ex (d + 1) 214 134 [some (vr 7 0 0), some (vi x1), some (vi x2), some (vi x3), some (vi x4), some (vi x5), some (vi x6), some (vi x7)] [] O) := (ex_un d 214 300 47 [some (vr 7 0 0), some (vi x1), some (vi x2), some (vi x3), some (vi x4), some (vi x5), some (vi x6), some (vi x7), some (vi x8)] [] O).trans rfl
set_option maxRecDepth 100000 in
theorem sX7_read_134 (d : Nat) (O : Mem_) (x1 : Int32) (x2 : Int32) (x3 : Int32) (x4 : Int32) (x5 : Int32) (x6 : Int32) (x7 : Int32) : ex (d + 1) 214 134 [some (vr 7 0 0), some (vi x1), some (vi x2), some (vi x3), some (vi x4), some (vi x5), some (vi x6), some (vi x7)] [] O =
if x5 = nI 0 then
(if ib ((((nI 40) * x1) + x3) + ((nI 3) * x7)) 160 then
((ex d 143 0 [some (vr 7 0 0), some (vi (O 7 0 44 (Int32.toNatClampNeg ((((nI 40) * x1) + x3) + ((nI 3) * x7)))))] [] O).bind fun r0 =>
if r0.1 = nI 0 then
(some (((-20) - x7), r0.2))
else
(if ib (((((nI 40) * x1) + x3) + ((nI 3) * x7)) + (nI 1)) 160 then
((ex d 142 0 [some (vr 7 0 0), some (vi (r0.2 7 0 44 (Int32.toNatClampNeg (((((nI 40) * x1) + x3) + ((nI 3) * x7)) + (nI 1)))))] [] r0.2).bind fun r1 =>
if r1.1 = nI 0 then
(some (((-20) - x7), r1.2))
else
(if ib (((((nI 40) * x1) + x3) + ((nI 3) * x7)) + (nI 2)) 160 then
((ex d 121 0 [some (vl (Int32.toInt64 (r1.2 7 0 44 (Int32.toNatClampNeg (((((nI 40) * x1) + x3) + ((nI 3) * x7)) + (nI 2)))))), none, some (vl 0), none, some (vl 1), none] [] r1.2).bind fun r2 =>
if r2.1 = nI 0 then
(some (((-20) - x7), r2.2))
else
(if ((r2.2 7 0 0 28) + x6) = (nI 24) then
(some ((-3), r2.2))
else
(ex (d + 1) 214 32 [some (vr 7 0 0), some (vi x1), some (vi x2), some (vi x3), some (vi x4), some (vi x5), some (vi (x6 + (nI 1))), some (vi (x7 + (nI 1)))] [] r2.2)))
else none))
else none))
else none)
else
(ex (d + 1) 214 32 [some (vr 7 0 0), some (vi x1), some (vi x2), some (vi x3), some (vi x4), some (vi x5), some (vi x6), some (vi (x7 + (nI 1)))] [] O) := (ex_un d 214 300 134 [some (vr 7 0 0), some (vi x1), some (vi x2), some (vi x3), some (vi x4), some (vi x5), some (vi x6), some (vi x7)] [] O).trans rfl
set_option maxRecDepth 100000 in
theorem sX7_read_239 (d : Nat) (O : Mem_) (x1 : Int32) (x3 : Int32) (x6 : Int32) (x7 : Int32) : ex (d + 1) 214 239 [some (vr 7 0 0), some (vi x1), none, some (vi x3), none, none, some (vi x6), some (vi x7)] [] O =
if x7 < x6 then
(if ib ((((nI 40) * x1) + x3) + ((nI 3) * x7)) 160 then
(if ib (((((nI 40) * x1) + x3) + ((nI 3) * x7)) + (nI 1)) 160 then
(if ib (((((nI 40) * x1) + x3) + ((nI 3) * x7)) + (nI 2)) 160 then
(if (O 7 0 44 (Int32.toNatClampNeg (((((nI 40) * x1) + x3) + ((nI 3) * x7)) + (nI 2)))) = (nI 1) then
(ex (d + 1) 214 294 [some (vr 7 0 0), some (vi x1), none, some (vi x3), none, none, some (vi x6), some (vi x7)] [vi (nI 1), vi (O 7 0 44 (Int32.toNatClampNeg (((((nI 40) * x1) + x3) + ((nI 3) * x7)) + (nI 1)))), vi (O 7 0 44 (Int32.toNatClampNeg ((((nI 40) * x1) + x3) + ((nI 3) * x7)))), vr 7 0 0] O)
else
(ex (d + 1) 214 294 [some (vr 7 0 0), some (vi x1), none, some (vi x3), none, none, some (vi x6), some (vi x7)] [vi (nI 0), vi (O 7 0 44 (Int32.toNatClampNeg (((((nI 40) * x1) + x3) + ((nI 3) * x7)) + (nI 1)))), vi (O 7 0 44 (Int32.toNatClampNeg ((((nI 40) * x1) + x3) + ((nI 3) * x7)))), vr 7 0 0] O))
else none)
else none)
else none)
else
(some (x6, O)) := (ex_un d 214 300 239 [some (vr 7 0 0), some (vi x1), none, some (vi x3), none, none, some (vi x6), some (vi x7)] [] O).trans rfl
set_option maxRecDepth 100000 in
theorem sX7_read_294 (d : Nat) (O : Mem_) (x1 : Int32) (x3 : Int32) (x6 : Int32) (x7 : Int32) (y0 : Int32) (y1 : Int32) (y2 : Int32) : ex (d + 1) 214 294 [some (vr 7 0 0), some (vi x1), none, some (vi x3), none, none, some (vi x6), some (vi x7)] [vi y0, vi y1, vi y2, vr 7 0 0] O =
(ex d 163 0 [some (vr 7 0 0), some (vi y2), some (vi y1), some (vi y0)] [] O).bind fun r0 =>
ex (d + 1) 214 239 [some (vr 7 0 0), some (vi x1), none, some (vi x3), none, none, some (vi x6), some (vi (x7 + (nI 1)))] [] r0.2 := (ex_un d 214 300 294 [some (vr 7 0 0), some (vi x1), none, some (vi x3), none, none, some (vi x6), some (vi x7)] [vi y0, vi y1, vi y2, vr 7 0 0] O).trans rfl
set_option maxRecDepth 100000 in
theorem sX7_torn_0 (d : Nat) (O : Mem_)  : ex (d + 1) 215 0 [some (vr 7 0 0)] [] O =
some ((O 7 0 0 44), O) := (ex_un d 215 300 0 [some (vr 7 0 0)] [] O).trans rfl
set_option maxRecDepth 100000 in
theorem sX7_count_0 (d : Nat) (O : Mem_) (x1 : Int32) : ex (d + 1) 216 0 [some (vr 7 0 0), some (vi x1)] [] O =
if x1 = (nI 0) then
(some ((O 7 0 0 0), O))
else if x1 = (nI 1) then
(some ((O 7 0 0 2), O))
else if x1 = (nI 2) then
(some ((O 7 0 0 5), O))
else if x1 = (nI 3) then
(some ((O 7 0 0 7), O))
else if x1 = (nI 4) then
(some ((O 7 0 0 28), O))
else if x1 = (nI 5) then
(some ((O 7 0 0 34), O))
else if x1 = (nI 6) then
(if ib (nI 0) 2 then
((ex d 122 0 [some (vi (O 7 0 38 (Int32.toNatClampNeg (nI 0))))] [] O).bind fun r0 =>
if ib (nI 1) 2 then
((ex d 122 0 [some (vi (r0.2 7 0 38 (Int32.toNatClampNeg (nI 1))))] [] r0.2).bind fun r1 =>
some ((r0.1 + r1.1), r1.2))
else none)
else none)
else if x1 = (nI 7) then
(some ((O 7 0 0 20), O))
else if x1 = (nI 8) then
(if ib (nI 0) 4 then
(if (O 7 0 42 (Int32.toNatClampNeg (nI 0))) = (oI none) then
(some ((oI none), O))
else
(if ib (nI 0) 4 then
(some ((O 7 0 43 (Int32.toNatClampNeg (nI 0))), O))
else none))
else none)
else 
(some ((-1), O)) := (ex_un d 216 300 0 [some (vr 7 0 0), some (vi x1)] [] O).trans rfl
end
section
set_option maxRecDepth 100000 in
theorem sL_law_18 (d : Nat) (O : Mem_) (x3 : Int32) : ex (d + 1) 218 18 [some (vr 8 0 0), some (vr 6 0 0), some (vr 7 0 0), some (vi x3)] [] O =
if ((O 8 0 1 0) - (nI 5)) < x3 then
(some ((nI 1), O))
else
(if ib x3 (O 8 0 1 0).toNatClampNeg then
(if ((O 8 0 0 (Int32.toNatClampNeg x3)) &&& (nI 63)) = (nI 0) then
(if ib (x3 + (nI 1)) (O 8 0 1 0).toNatClampNeg then
(if ib (x3 + (nI 2)) (O 8 0 1 0).toNatClampNeg then
((ex d 67 0 [some (vr 6 0 0), some (vl (((Int32.toInt64 (O 8 0 0 (Int32.toNatClampNeg (x3 + (nI 1))))) <<< (Int32.toInt64 (nI 32) &&& 63)) ||| ((Int32.toInt64 (O 8 0 0 (Int32.toNatClampNeg (x3 + (nI 2))))) &&& (4294967295)))), none] [] O).bind fun r0 =>
if ib (x3 + (nI 1)) (r0.2 8 0 1 0).toNatClampNeg then
(if ib (x3 + (nI 2)) (r0.2 8 0 1 0).toNatClampNeg then
((ex d 126 0 [some (vr 7 0 0), some (vl (((Int32.toInt64 (r0.2 8 0 0 (Int32.toNatClampNeg (x3 + (nI 1))))) <<< (Int32.toInt64 (nI 32) &&& 63)) ||| ((Int32.toInt64 (r0.2 8 0 0 (Int32.toNatClampNeg (x3 + (nI 2))))) &&& (4294967295)))), none] [] r0.2).bind fun r1 =>
if r0.1 = r1.1 then
(ex (d + 1) 218 18 [some (vr 8 0 0), some (vr 6 0 0), some (vr 7 0 0), some (vi (x3 + (nI 5)))] [] r1.2)
else
(some ((nI 0), r1.2)))
else none)
else none)
else none)
else none)
else if ((O 8 0 0 (Int32.toNatClampNeg x3)) &&& (nI 63)) = (nI 1) then
(if ib (x3 + (nI 1)) (O 8 0 1 0).toNatClampNeg then
((ex d 68 0 [some (vr 6 0 0), some (vi (O 8 0 0 (Int32.toNatClampNeg (x3 + (nI 1)))))] [] O).bind fun r2 =>
if ib (x3 + (nI 1)) (r2.2 8 0 1 0).toNatClampNeg then
((ex d 127 0 [some (vr 7 0 0), some (vi (r2.2 8 0 0 (Int32.toNatClampNeg (x3 + (nI 1)))))] [] r2.2).bind fun r3 =>
if r2.1 = r3.1 then
(ex (d + 1) 218 18 [some (vr 8 0 0), some (vr 6 0 0), some (vr 7 0 0), some (vi (x3 + (nI 5)))] [] r3.2)
else
(some ((nI 0), r3.2)))
else none)
else none)
else if ((O 8 0 0 (Int32.toNatClampNeg x3)) &&& (nI 63)) = (nI 2) then
((ex d 69 0 [some (vr 6 0 0)] [] O).bind fun r4 =>
(ex d 140 0 [some (vr 7 0 0)] [] r4.2).bind fun r5 =>
if r4.1 = r5.1 then
(ex (d + 1) 218 18 [some (vr 8 0 0), some (vr 6 0 0), some (vr 7 0 0), some (vi (x3 + (nI 5)))] [] r5.2)
else
(some ((nI 0), r5.2)))
else if ((O 8 0 0 (Int32.toNatClampNeg x3)) &&& (nI 63)) = (nI 3) then
((ex d 70 0 [some (vr 6 0 0)] [] O).bind fun r6 =>
(ex d 141 0 [some (vr 7 0 0)] [] r6.2).bind fun r7 =>
if r6.1 = r7.1 then
(ex (d + 1) 218 18 [some (vr 8 0 0), some (vr 6 0 0), some (vr 7 0 0), some (vi (x3 + (nI 5)))] [] r7.2)
else
(some ((nI 0), r7.2)))
else if ((O 8 0 0 (Int32.toNatClampNeg x3)) &&& (nI 63)) = (nI 4) then
(if ib (x3 + (nI 1)) (O 8 0 1 0).toNatClampNeg then
((ex d 71 0 [some (vr 6 0 0), some (vi (O 8 0 0 (Int32.toNatClampNeg (x3 + (nI 1)))))] [] O).bind fun r8 =>
if ib (x3 + (nI 1)) (r8.2 8 0 1 0).toNatClampNeg then
((ex d 149 0 [some (vr 7 0 0), some (vi (r8.2 8 0 0 (Int32.toNatClampNeg (x3 + (nI 1)))))] [] r8.2).bind fun r9 =>
if r8.1 = r9.1 then
(ex (d + 1) 218 18 [some (vr 8 0 0), some (vr 6 0 0), some (vr 7 0 0), some (vi (x3 + (nI 5)))] [] r9.2)
else
(some ((nI 0), r9.2)))
else none)
else none)
else if ((O 8 0 0 (Int32.toNatClampNeg x3)) &&& (nI 63)) = (nI 5) then
(if ib (x3 + (nI 1)) (O 8 0 1 0).toNatClampNeg then
(if ib (x3 + (nI 2)) (O 8 0 1 0).toNatClampNeg then
((ex d 72 0 [some (vr 6 0 0), some (vi (O 8 0 0 (Int32.toNatClampNeg (x3 + (nI 1))))), some (vi (O 8 0 0 (Int32.toNatClampNeg (x3 + (nI 2)))))] [] O).bind fun r10 =>
if ib (x3 + (nI 1)) (r10.2 8 0 1 0).toNatClampNeg then
(if ib (x3 + (nI 2)) (r10.2 8 0 1 0).toNatClampNeg then
((ex d 150 0 [some (vr 7 0 0), some (vi (r10.2 8 0 0 (Int32.toNatClampNeg (x3 + (nI 1))))), some (vi (r10.2 8 0 0 (Int32.toNatClampNeg (x3 + (nI 2)))))] [] r10.2).bind fun r11 =>
if r10.1 = r11.1 then
(ex (d + 1) 218 18 [some (vr 8 0 0), some (vr 6 0 0), some (vr 7 0 0), some (vi (x3 + (nI 5)))] [] r11.2)
else
(some ((nI 0), r11.2)))
else none)
else none)
else none)
else none)
else if ((O 8 0 0 (Int32.toNatClampNeg x3)) &&& (nI 63)) = (nI 6) then
(if ib (x3 + (nI 1)) (O 8 0 1 0).toNatClampNeg then
((ex d 73 0 [some (vr 6 0 0), some (vi (O 8 0 0 (Int32.toNatClampNeg (x3 + (nI 1)))))] [] O).bind fun r12 =>
if ib (x3 + (nI 1)) (r12.2 8 0 1 0).toNatClampNeg then
((ex d 151 0 [some (vr 7 0 0), some (vi (r12.2 8 0 0 (Int32.toNatClampNeg (x3 + (nI 1)))))] [] r12.2).bind fun r13 =>
if r12.1 = r13.1 then
(ex (d + 1) 218 18 [some (vr 8 0 0), some (vr 6 0 0), some (vr 7 0 0), some (vi (x3 + (nI 5)))] [] r13.2)
else
(some ((nI 0), r13.2)))
else none)
else none)
else if ((O 8 0 0 (Int32.toNatClampNeg x3)) &&& (nI 63)) = (nI 7) then
(if ib (x3 + (nI 1)) (O 8 0 1 0).toNatClampNeg then
(if ib (x3 + (nI 2)) (O 8 0 1 0).toNatClampNeg then
((ex d 74 0 [some (vr 6 0 0), some (vi (O 8 0 0 (Int32.toNatClampNeg (x3 + (nI 1))))), some (vi (O 8 0 0 (Int32.toNatClampNeg (x3 + (nI 2)))))] [] O).bind fun r14 =>
if ib (x3 + (nI 1)) (r14.2 8 0 1 0).toNatClampNeg then
(if ib (x3 + (nI 2)) (r14.2 8 0 1 0).toNatClampNeg then
((ex d 152 0 [some (vr 7 0 0), some (vi (r14.2 8 0 0 (Int32.toNatClampNeg (x3 + (nI 1))))), some (vi (r14.2 8 0 0 (Int32.toNatClampNeg (x3 + (nI 2)))))] [] r14.2).bind fun r15 =>
if r14.1 = r15.1 then
(ex (d + 1) 218 18 [some (vr 8 0 0), some (vr 6 0 0), some (vr 7 0 0), some (vi (x3 + (nI 5)))] [] r15.2)
else
(some ((nI 0), r15.2)))
else none)
else none)
else none)
else none)
else if ((O 8 0 0 (Int32.toNatClampNeg x3)) &&& (nI 63)) = (nI 8) then
(if ib (x3 + (nI 1)) (O 8 0 1 0).toNatClampNeg then
(if ib (x3 + (nI 2)) (O 8 0 1 0).toNatClampNeg then
(if ib (x3 + (nI 3)) (O 8 0 1 0).toNatClampNeg then
(if (O 8 0 0 (Int32.toNatClampNeg (x3 + (nI 3)))) = nI 0 then
(ex (d + 1) 218 454 [some (vr 8 0 0), some (vr 6 0 0), some (vr 7 0 0), some (vi x3)] [vi (nI 0), vi (O 8 0 0 (Int32.toNatClampNeg (x3 + (nI 2)))), vi (O 8 0 0 (Int32.toNatClampNeg (x3 + (nI 1)))), vr 6 0 0] O)
else
(ex (d + 1) 218 454 [some (vr 8 0 0), some (vr 6 0 0), some (vr 7 0 0), some (vi x3)] [vi (nI 1), vi (O 8 0 0 (Int32.toNatClampNeg (x3 + (nI 2)))), vi (O 8 0 0 (Int32.toNatClampNeg (x3 + (nI 1)))), vr 6 0 0] O))
else none)
else none)
else none)
else if ((O 8 0 0 (Int32.toNatClampNeg x3)) &&& (nI 63)) = (nI 9) then
(if ib (x3 + (nI 1)) (O 8 0 1 0).toNatClampNeg then
(if ib (x3 + (nI 2)) (O 8 0 1 0).toNatClampNeg then
((ex d 76 0 [some (vr 6 0 0), some (vi (O 8 0 0 (Int32.toNatClampNeg (x3 + (nI 1))))), some (vi (O 8 0 0 (Int32.toNatClampNeg (x3 + (nI 2)))))] [] O).bind fun r16 =>
if ib (x3 + (nI 1)) (r16.2 8 0 1 0).toNatClampNeg then
(if ib (x3 + (nI 2)) (r16.2 8 0 1 0).toNatClampNeg then
((ex d 166 0 [some (vr 7 0 0), some (vi (r16.2 8 0 0 (Int32.toNatClampNeg (x3 + (nI 1))))), some (vi (r16.2 8 0 0 (Int32.toNatClampNeg (x3 + (nI 2)))))] [] r16.2).bind fun r17 =>
if r16.1 = r17.1 then
(ex (d + 1) 218 18 [some (vr 8 0 0), some (vr 6 0 0), some (vr 7 0 0), some (vi (x3 + (nI 5)))] [] r17.2)
else
(some ((nI 0), r17.2)))
else none)
else none)
else none)
else none)
else if ((O 8 0 0 (Int32.toNatClampNeg x3)) &&& (nI 63)) = (nI 10) then
((ex d 77 0 [some (vr 6 0 0)] [] O).bind fun r18 =>
(ex d 167 0 [some (vr 7 0 0)] [] r18.2).bind fun r19 =>
if r18.1 = r19.1 then
(ex (d + 1) 218 18 [some (vr 8 0 0), some (vr 6 0 0), some (vr 7 0 0), some (vi (x3 + (nI 5)))] [] r19.2)
else
(some ((nI 0), r19.2)))
else if ((O 8 0 0 (Int32.toNatClampNeg x3)) &&& (nI 63)) = (nI 11) then
((ex d 78 0 [some (vr 6 0 0)] [] O).bind fun r20 =>
(ex d 168 0 [some (vr 7 0 0)] [] r20.2).bind fun r21 =>
if r20.1 = r21.1 then
(ex (d + 1) 218 18 [some (vr 8 0 0), some (vr 6 0 0), some (vr 7 0 0), some (vi (x3 + (nI 5)))] [] r21.2)
else
(some ((nI 0), r21.2)))
else if ((O 8 0 0 (Int32.toNatClampNeg x3)) &&& (nI 63)) = (nI 12) then
(if ib (x3 + (nI 1)) (O 8 0 1 0).toNatClampNeg then
(if ib (x3 + (nI 2)) (O 8 0 1 0).toNatClampNeg then
((ex d 79 0 [some (vr 6 0 0), some (vi (O 8 0 0 (Int32.toNatClampNeg (x3 + (nI 1))))), some (vi (O 8 0 0 (Int32.toNatClampNeg (x3 + (nI 2)))))] [] O).bind fun r22 =>
if ib (x3 + (nI 1)) (r22.2 8 0 1 0).toNatClampNeg then
(if ib (x3 + (nI 2)) (r22.2 8 0 1 0).toNatClampNeg then
((ex d 169 0 [some (vr 7 0 0), some (vi (r22.2 8 0 0 (Int32.toNatClampNeg (x3 + (nI 1))))), some (vi (r22.2 8 0 0 (Int32.toNatClampNeg (x3 + (nI 2)))))] [] r22.2).bind fun r23 =>
if r22.1 = r23.1 then
(ex (d + 1) 218 18 [some (vr 8 0 0), some (vr 6 0 0), some (vr 7 0 0), some (vi (x3 + (nI 5)))] [] r23.2)
else
(some ((nI 0), r23.2)))
else none)
else none)
else none)
else none)
else if ((O 8 0 0 (Int32.toNatClampNeg x3)) &&& (nI 63)) = (nI 13) then
(if ib (x3 + (nI 1)) (O 8 0 1 0).toNatClampNeg then
(if ib (x3 + (nI 2)) (O 8 0 1 0).toNatClampNeg then
((ex d 80 0 [some (vr 6 0 0), some (vi (O 8 0 0 (Int32.toNatClampNeg (x3 + (nI 1))))), some (vi (O 8 0 0 (Int32.toNatClampNeg (x3 + (nI 2)))))] [] O).bind fun r24 =>
if ib (x3 + (nI 1)) (r24.2 8 0 1 0).toNatClampNeg then
(if ib (x3 + (nI 2)) (r24.2 8 0 1 0).toNatClampNeg then
((ex d 170 0 [some (vr 7 0 0), some (vi (r24.2 8 0 0 (Int32.toNatClampNeg (x3 + (nI 1))))), some (vi (r24.2 8 0 0 (Int32.toNatClampNeg (x3 + (nI 2)))))] [] r24.2).bind fun r25 =>
if r24.1 = r25.1 then
(ex (d + 1) 218 18 [some (vr 8 0 0), some (vr 6 0 0), some (vr 7 0 0), some (vi (x3 + (nI 5)))] [] r25.2)
else
(some ((nI 0), r25.2)))
else none)
else none)
else none)
else none)
else if ((O 8 0 0 (Int32.toNatClampNeg x3)) &&& (nI 63)) = (nI 14) then
(if ib (x3 + (nI 1)) (O 8 0 1 0).toNatClampNeg then
(if ib (x3 + (nI 2)) (O 8 0 1 0).toNatClampNeg then
((ex d 81 0 [some (vr 6 0 0), some (vi (O 8 0 0 (Int32.toNatClampNeg (x3 + (nI 1))))), some (vi (O 8 0 0 (Int32.toNatClampNeg (x3 + (nI 2)))))] [] O).bind fun r26 =>
if ib (x3 + (nI 1)) (r26.2 8 0 1 0).toNatClampNeg then
(if ib (x3 + (nI 2)) (r26.2 8 0 1 0).toNatClampNeg then
((ex d 171 0 [some (vr 7 0 0), some (vi (r26.2 8 0 0 (Int32.toNatClampNeg (x3 + (nI 1))))), some (vi (r26.2 8 0 0 (Int32.toNatClampNeg (x3 + (nI 2)))))] [] r26.2).bind fun r27 =>
if r26.1 = r27.1 then
(ex (d + 1) 218 18 [some (vr 8 0 0), some (vr 6 0 0), some (vr 7 0 0), some (vi (x3 + (nI 5)))] [] r27.2)
else
(some ((nI 0), r27.2)))
else none)
else none)
else none)
else none)
else if ((O 8 0 0 (Int32.toNatClampNeg x3)) &&& (nI 63)) = (nI 15) then
(if ib (x3 + (nI 1)) (O 8 0 1 0).toNatClampNeg then
(if ib (x3 + (nI 2)) (O 8 0 1 0).toNatClampNeg then
((ex d 82 0 [some (vr 6 0 0), some (vi (O 8 0 0 (Int32.toNatClampNeg (x3 + (nI 1))))), some (vi (O 8 0 0 (Int32.toNatClampNeg (x3 + (nI 2)))))] [] O).bind fun r28 =>
if ib (x3 + (nI 1)) (r28.2 8 0 1 0).toNatClampNeg then
(if ib (x3 + (nI 2)) (r28.2 8 0 1 0).toNatClampNeg then
((ex d 173 0 [some (vr 7 0 0), some (vi (r28.2 8 0 0 (Int32.toNatClampNeg (x3 + (nI 1))))), some (vi (r28.2 8 0 0 (Int32.toNatClampNeg (x3 + (nI 2)))))] [] r28.2).bind fun r29 =>
if r28.1 = r29.1 then
(ex (d + 1) 218 18 [some (vr 8 0 0), some (vr 6 0 0), some (vr 7 0 0), some (vi (x3 + (nI 5)))] [] r29.2)
else
(some ((nI 0), r29.2)))
else none)
else none)
else none)
else none)
else if ((O 8 0 0 (Int32.toNatClampNeg x3)) &&& (nI 63)) = (nI 16) then
(if ib (x3 + (nI 1)) (O 8 0 1 0).toNatClampNeg then
((ex d 83 0 [some (vr 6 0 0), some (vi (O 8 0 0 (Int32.toNatClampNeg (x3 + (nI 1)))))] [] O).bind fun r30 =>
if ib (x3 + (nI 1)) (r30.2 8 0 1 0).toNatClampNeg then
((ex d 174 0 [some (vr 7 0 0), some (vi (r30.2 8 0 0 (Int32.toNatClampNeg (x3 + (nI 1)))))] [] r30.2).bind fun r31 =>
if r30.1 = r31.1 then
(ex (d + 1) 218 18 [some (vr 8 0 0), some (vr 6 0 0), some (vr 7 0 0), some (vi (x3 + (nI 5)))] [] r31.2)
else
(some ((nI 0), r31.2)))
else none)
else none)
else if ((O 8 0 0 (Int32.toNatClampNeg x3)) &&& (nI 63)) = (nI 17) then
(if ib (x3 + (nI 1)) (O 8 0 1 0).toNatClampNeg then
(if ib (x3 + (nI 2)) (O 8 0 1 0).toNatClampNeg then
((ex d 84 0 [some (vr 6 0 0), some (vi (O 8 0 0 (Int32.toNatClampNeg (x3 + (nI 1))))), some (vi (O 8 0 0 (Int32.toNatClampNeg (x3 + (nI 2)))))] [] O).bind fun r32 =>
if ib (x3 + (nI 1)) (r32.2 8 0 1 0).toNatClampNeg then
(if ib (x3 + (nI 2)) (r32.2 8 0 1 0).toNatClampNeg then
((ex d 175 0 [some (vr 7 0 0), some (vi (r32.2 8 0 0 (Int32.toNatClampNeg (x3 + (nI 1))))), some (vi (r32.2 8 0 0 (Int32.toNatClampNeg (x3 + (nI 2)))))] [] r32.2).bind fun r33 =>
if r32.1 = r33.1 then
(ex (d + 1) 218 18 [some (vr 8 0 0), some (vr 6 0 0), some (vr 7 0 0), some (vi (x3 + (nI 5)))] [] r33.2)
else
(some ((nI 0), r33.2)))
else none)
else none)
else none)
else none)
else if ((O 8 0 0 (Int32.toNatClampNeg x3)) &&& (nI 63)) = (nI 18) then
(if ib (x3 + (nI 1)) (O 8 0 1 0).toNatClampNeg then
((ex d 85 0 [some (vr 6 0 0), some (vi (O 8 0 0 (Int32.toNatClampNeg (x3 + (nI 1)))))] [] O).bind fun r34 =>
if ib (x3 + (nI 1)) (r34.2 8 0 1 0).toNatClampNeg then
((ex d 177 0 [some (vr 7 0 0), some (vi (r34.2 8 0 0 (Int32.toNatClampNeg (x3 + (nI 1)))))] [] r34.2).bind fun r35 =>
if r34.1 = r35.1 then
(ex (d + 1) 218 18 [some (vr 8 0 0), some (vr 6 0 0), some (vr 7 0 0), some (vi (x3 + (nI 5)))] [] r35.2)
else
(some ((nI 0), r35.2)))
else none)
else none)
else if ((O 8 0 0 (Int32.toNatClampNeg x3)) &&& (nI 63)) = (nI 19) then
(if ib (x3 + (nI 1)) (O 8 0 1 0).toNatClampNeg then
(if ib (x3 + (nI 2)) (O 8 0 1 0).toNatClampNeg then
(if ib (x3 + (nI 3)) (O 8 0 1 0).toNatClampNeg then
((ex d 86 0 [some (vr 6 0 0), some (vi (O 8 0 0 (Int32.toNatClampNeg (x3 + (nI 1))))), some (vi (O 8 0 0 (Int32.toNatClampNeg (x3 + (nI 2))))), some (vi (O 8 0 0 (Int32.toNatClampNeg (x3 + (nI 3)))))] [] O).bind fun r36 =>
if ib (x3 + (nI 1)) (r36.2 8 0 1 0).toNatClampNeg then
(if ib (x3 + (nI 2)) (r36.2 8 0 1 0).toNatClampNeg then
(if ib (x3 + (nI 3)) (r36.2 8 0 1 0).toNatClampNeg then
((ex d 183 0 [some (vr 7 0 0), some (vi (r36.2 8 0 0 (Int32.toNatClampNeg (x3 + (nI 1))))), some (vi (r36.2 8 0 0 (Int32.toNatClampNeg (x3 + (nI 2))))), some (vi (r36.2 8 0 0 (Int32.toNatClampNeg (x3 + (nI 3)))))] [] r36.2).bind fun r37 =>
if r36.1 = r37.1 then
(ex (d + 1) 218 18 [some (vr 8 0 0), some (vr 6 0 0), some (vr 7 0 0), some (vi (x3 + (nI 5)))] [] r37.2)
else
(some ((nI 0), r37.2)))
else none)
else none)
else none)
else none)
else none)
else none)
else if ((O 8 0 0 (Int32.toNatClampNeg x3)) &&& (nI 63)) = (nI 20) then
(if ib (x3 + (nI 1)) (O 8 0 1 0).toNatClampNeg then
(if ib (x3 + (nI 2)) (O 8 0 1 0).toNatClampNeg then
((ex d 87 0 [some (vr 6 0 0), some (vi (O 8 0 0 (Int32.toNatClampNeg (x3 + (nI 1))))), some (vi (O 8 0 0 (Int32.toNatClampNeg (x3 + (nI 2)))))] [] O).bind fun r38 =>
if ib (x3 + (nI 1)) (r38.2 8 0 1 0).toNatClampNeg then
(if ib (x3 + (nI 2)) (r38.2 8 0 1 0).toNatClampNeg then
((ex d 184 0 [some (vr 7 0 0), some (vi (r38.2 8 0 0 (Int32.toNatClampNeg (x3 + (nI 1))))), some (vi (r38.2 8 0 0 (Int32.toNatClampNeg (x3 + (nI 2)))))] [] r38.2).bind fun r39 =>
if r38.1 = r39.1 then
(ex (d + 1) 218 18 [some (vr 8 0 0), some (vr 6 0 0), some (vr 7 0 0), some (vi (x3 + (nI 5)))] [] r39.2)
else
(some ((nI 0), r39.2)))
else none)
else none)
else none)
else none)
else if ((O 8 0 0 (Int32.toNatClampNeg x3)) &&& (nI 63)) = (nI 21) then
(if ib (x3 + (nI 1)) (O 8 0 1 0).toNatClampNeg then
(if ib (x3 + (nI 2)) (O 8 0 1 0).toNatClampNeg then
((ex d 88 0 [some (vr 6 0 0), some (vi (O 8 0 0 (Int32.toNatClampNeg (x3 + (nI 1))))), some (vi (O 8 0 0 (Int32.toNatClampNeg (x3 + (nI 2)))))] [] O).bind fun r40 =>
if ib (x3 + (nI 1)) (r40.2 8 0 1 0).toNatClampNeg then
(if ib (x3 + (nI 2)) (r40.2 8 0 1 0).toNatClampNeg then
((ex d 187 0 [some (vr 7 0 0), some (vi (r40.2 8 0 0 (Int32.toNatClampNeg (x3 + (nI 1))))), some (vi (r40.2 8 0 0 (Int32.toNatClampNeg (x3 + (nI 2)))))] [] r40.2).bind fun r41 =>
if r40.1 = r41.1 then
(ex (d + 1) 218 18 [some (vr 8 0 0), some (vr 6 0 0), some (vr 7 0 0), some (vi (x3 + (nI 5)))] [] r41.2)
else
(some ((nI 0), r41.2)))
else none)
else none)
else none)
else none)
else if ((O 8 0 0 (Int32.toNatClampNeg x3)) &&& (nI 63)) = (nI 22) then
(if ib (x3 + (nI 1)) (O 8 0 1 0).toNatClampNeg then
(if ib (x3 + (nI 2)) (O 8 0 1 0).toNatClampNeg then
((ex d 89 0 [some (vr 6 0 0), some (vi (O 8 0 0 (Int32.toNatClampNeg (x3 + (nI 1))))), some (vi (O 8 0 0 (Int32.toNatClampNeg (x3 + (nI 2)))))] [] O).bind fun r42 =>
if ib (x3 + (nI 1)) (r42.2 8 0 1 0).toNatClampNeg then
(if ib (x3 + (nI 2)) (r42.2 8 0 1 0).toNatClampNeg then
((ex d 192 0 [some (vr 7 0 0), some (vi (r42.2 8 0 0 (Int32.toNatClampNeg (x3 + (nI 1))))), some (vi (r42.2 8 0 0 (Int32.toNatClampNeg (x3 + (nI 2)))))] [] r42.2).bind fun r43 =>
if r42.1 = r43.1 then
(ex (d + 1) 218 18 [some (vr 8 0 0), some (vr 6 0 0), some (vr 7 0 0), some (vi (x3 + (nI 5)))] [] r43.2)
else
(some ((nI 0), r43.2)))
else none)
else none)
else none)
else none)
else if ((O 8 0 0 (Int32.toNatClampNeg x3)) &&& (nI 63)) = (nI 23) then
(if ib (x3 + (nI 1)) (O 8 0 1 0).toNatClampNeg then
((ex d 90 0 [some (vr 6 0 0), some (vi (O 8 0 0 (Int32.toNatClampNeg (x3 + (nI 1)))))] [] O).bind fun r44 =>
if ib (x3 + (nI 1)) (r44.2 8 0 1 0).toNatClampNeg then
((ex d 193 0 [some (vr 7 0 0), some (vi (r44.2 8 0 0 (Int32.toNatClampNeg (x3 + (nI 1)))))] [] r44.2).bind fun r45 =>
if r44.1 = r45.1 then
(ex (d + 1) 218 18 [some (vr 8 0 0), some (vr 6 0 0), some (vr 7 0 0), some (vi (x3 + (nI 5)))] [] r45.2)
else
(some ((nI 0), r45.2)))
else none)
else none)
else if ((O 8 0 0 (Int32.toNatClampNeg x3)) &&& (nI 63)) = (nI 24) then
(if ib (x3 + (nI 1)) (O 8 0 1 0).toNatClampNeg then
(if ib (x3 + (nI 2)) (O 8 0 1 0).toNatClampNeg then
(if ib (x3 + (nI 3)) (O 8 0 1 0).toNatClampNeg then
((ex d 91 0 [some (vr 6 0 0), some (vi (O 8 0 0 (Int32.toNatClampNeg (x3 + (nI 1))))), some (vi (O 8 0 0 (Int32.toNatClampNeg (x3 + (nI 2))))), some (vi (O 8 0 0 (Int32.toNatClampNeg (x3 + (nI 3)))))] [] O).bind fun r46 =>
if ib (x3 + (nI 1)) (r46.2 8 0 1 0).toNatClampNeg then
(if ib (x3 + (nI 2)) (r46.2 8 0 1 0).toNatClampNeg then
(if ib (x3 + (nI 3)) (r46.2 8 0 1 0).toNatClampNeg then
((ex d 195 0 [some (vr 7 0 0), some (vi (r46.2 8 0 0 (Int32.toNatClampNeg (x3 + (nI 1))))), some (vi (r46.2 8 0 0 (Int32.toNatClampNeg (x3 + (nI 2))))), some (vi (r46.2 8 0 0 (Int32.toNatClampNeg (x3 + (nI 3)))))] [] r46.2).bind fun r47 =>
if r46.1 = r47.1 then
(ex (d + 1) 218 18 [some (vr 8 0 0), some (vr 6 0 0), some (vr 7 0 0), some (vi (x3 + (nI 5)))] [] r47.2)
else
(some ((nI 0), r47.2)))
else none)
else none)
else none)
else none)
else none)
else none)
else if ((O 8 0 0 (Int32.toNatClampNeg x3)) &&& (nI 63)) = (nI 25) then
(if ib (x3 + (nI 1)) (O 8 0 1 0).toNatClampNeg then
(if ib (x3 + (nI 2)) (O 8 0 1 0).toNatClampNeg then
(if ib (x3 + (nI 3)) (O 8 0 1 0).toNatClampNeg then
((ex d 92 0 [some (vr 6 0 0), some (vi (O 8 0 0 (Int32.toNatClampNeg (x3 + (nI 1))))), some (vi (O 8 0 0 (Int32.toNatClampNeg (x3 + (nI 2))))), some (vi (O 8 0 0 (Int32.toNatClampNeg (x3 + (nI 3)))))] [] O).bind fun r48 =>
if ib (x3 + (nI 1)) (r48.2 8 0 1 0).toNatClampNeg then
(if ib (x3 + (nI 2)) (r48.2 8 0 1 0).toNatClampNeg then
(if ib (x3 + (nI 3)) (r48.2 8 0 1 0).toNatClampNeg then
((ex d 197 0 [some (vr 7 0 0), some (vi (r48.2 8 0 0 (Int32.toNatClampNeg (x3 + (nI 1))))), some (vi (r48.2 8 0 0 (Int32.toNatClampNeg (x3 + (nI 2))))), some (vi (r48.2 8 0 0 (Int32.toNatClampNeg (x3 + (nI 3)))))] [] r48.2).bind fun r49 =>
if r48.1 = r49.1 then
(ex (d + 1) 218 18 [some (vr 8 0 0), some (vr 6 0 0), some (vr 7 0 0), some (vi (x3 + (nI 5)))] [] r49.2)
else
(some ((nI 0), r49.2)))
else none)
else none)
else none)
else none)
else none)
else none)
else if ((O 8 0 0 (Int32.toNatClampNeg x3)) &&& (nI 63)) = (nI 26) then
(if ib (x3 + (nI 1)) (O 8 0 1 0).toNatClampNeg then
((ex d 93 0 [some (vr 6 0 0), some (vi (O 8 0 0 (Int32.toNatClampNeg (x3 + (nI 1)))))] [] O).bind fun r50 =>
if ib (x3 + (nI 1)) (r50.2 8 0 1 0).toNatClampNeg then
((ex d 198 0 [some (vr 7 0 0), some (vi (r50.2 8 0 0 (Int32.toNatClampNeg (x3 + (nI 1)))))] [] r50.2).bind fun r51 =>
if r50.1 = r51.1 then
(ex (d + 1) 218 18 [some (vr 8 0 0), some (vr 6 0 0), some (vr 7 0 0), some (vi (x3 + (nI 5)))] [] r51.2)
else
(some ((nI 0), r51.2)))
else none)
else none)
else if ((O 8 0 0 (Int32.toNatClampNeg x3)) &&& (nI 63)) = (nI 27) then
(if ib (x3 + (nI 1)) (O 8 0 1 0).toNatClampNeg then
((ex d 94 0 [some (vr 6 0 0), some (vi (O 8 0 0 (Int32.toNatClampNeg (x3 + (nI 1)))))] [] O).bind fun r52 =>
if ib (x3 + (nI 1)) (r52.2 8 0 1 0).toNatClampNeg then
((ex d 199 0 [some (vr 7 0 0), some (vi (r52.2 8 0 0 (Int32.toNatClampNeg (x3 + (nI 1)))))] [] r52.2).bind fun r53 =>
if r52.1 = r53.1 then
(ex (d + 1) 218 18 [some (vr 8 0 0), some (vr 6 0 0), some (vr 7 0 0), some (vi (x3 + (nI 5)))] [] r53.2)
else
(some ((nI 0), r53.2)))
else none)
else none)
else if ((O 8 0 0 (Int32.toNatClampNeg x3)) &&& (nI 63)) = (nI 28) then
(if ib (x3 + (nI 1)) (O 8 0 1 0).toNatClampNeg then
(if ib (x3 + (nI 2)) (O 8 0 1 0).toNatClampNeg then
((ex d 95 0 [some (vr 6 0 0), some (vi (O 8 0 0 (Int32.toNatClampNeg (x3 + (nI 1))))), some (vi (O 8 0 0 (Int32.toNatClampNeg (x3 + (nI 2)))))] [] O).bind fun r54 =>
if ib (x3 + (nI 1)) (r54.2 8 0 1 0).toNatClampNeg then
(if ib (x3 + (nI 2)) (r54.2 8 0 1 0).toNatClampNeg then
((ex d 200 0 [some (vr 7 0 0), some (vi (r54.2 8 0 0 (Int32.toNatClampNeg (x3 + (nI 1))))), some (vi (r54.2 8 0 0 (Int32.toNatClampNeg (x3 + (nI 2)))))] [] r54.2).bind fun r55 =>
if r54.1 = r55.1 then
(ex (d + 1) 218 18 [some (vr 8 0 0), some (vr 6 0 0), some (vr 7 0 0), some (vi (x3 + (nI 5)))] [] r55.2)
else
(some ((nI 0), r55.2)))
else none)
else none)
else none)
else none)
else if ((O 8 0 0 (Int32.toNatClampNeg x3)) &&& (nI 63)) = (nI 29) then
(if ib (x3 + (nI 1)) (O 8 0 1 0).toNatClampNeg then
(if ib (x3 + (nI 2)) (O 8 0 1 0).toNatClampNeg then
((ex d 96 0 [some (vr 6 0 0), some (vi (O 8 0 0 (Int32.toNatClampNeg (x3 + (nI 1))))), some (vi (O 8 0 0 (Int32.toNatClampNeg (x3 + (nI 2)))))] [] O).bind fun r56 =>
if ib (x3 + (nI 1)) (r56.2 8 0 1 0).toNatClampNeg then
(if ib (x3 + (nI 2)) (r56.2 8 0 1 0).toNatClampNeg then
((ex d 201 0 [some (vr 7 0 0), some (vi (r56.2 8 0 0 (Int32.toNatClampNeg (x3 + (nI 1))))), some (vi (r56.2 8 0 0 (Int32.toNatClampNeg (x3 + (nI 2)))))] [] r56.2).bind fun r57 =>
if r56.1 = r57.1 then
(ex (d + 1) 218 18 [some (vr 8 0 0), some (vr 6 0 0), some (vr 7 0 0), some (vi (x3 + (nI 5)))] [] r57.2)
else
(some ((nI 0), r57.2)))
else none)
else none)
else none)
else none)
else if ((O 8 0 0 (Int32.toNatClampNeg x3)) &&& (nI 63)) = (nI 30) then
(if ib (x3 + (nI 1)) (O 8 0 1 0).toNatClampNeg then
(if ib (x3 + (nI 2)) (O 8 0 1 0).toNatClampNeg then
(if (O 8 0 0 (Int32.toNatClampNeg (x3 + (nI 2)))) = nI 0 then
(ex (d + 1) 218 1141 [some (vr 8 0 0), some (vr 6 0 0), some (vr 7 0 0), some (vi x3)] [vi (nI 0), vi (O 8 0 0 (Int32.toNatClampNeg (x3 + (nI 1)))), vr 6 0 0] O)
else
(ex (d + 1) 218 1141 [some (vr 8 0 0), some (vr 6 0 0), some (vr 7 0 0), some (vi x3)] [vi (nI 1), vi (O 8 0 0 (Int32.toNatClampNeg (x3 + (nI 1)))), vr 6 0 0] O))
else none)
else none)
else if ((O 8 0 0 (Int32.toNatClampNeg x3)) &&& (nI 63)) = (nI 31) then
((ex d 98 0 [some (vr 6 0 0)] [] O).bind fun r58 =>
(ex d 203 0 [some (vr 7 0 0)] [] r58.2).bind fun r59 =>
if r58.1 = r59.1 then
(ex (d + 1) 218 18 [some (vr 8 0 0), some (vr 6 0 0), some (vr 7 0 0), some (vi (x3 + (nI 5)))] [] r59.2)
else
(some ((nI 0), r59.2)))
else if ((O 8 0 0 (Int32.toNatClampNeg x3)) &&& (nI 63)) = (nI 32) then
(if ib (x3 + (nI 1)) (O 8 0 1 0).toNatClampNeg then
((ex d 99 0 [some (vr 6 0 0), some (vi (O 8 0 0 (Int32.toNatClampNeg (x3 + (nI 1)))))] [] O).bind fun r60 =>
if ib (x3 + (nI 1)) (r60.2 8 0 1 0).toNatClampNeg then
((ex d 206 0 [some (vr 7 0 0), some (vi (r60.2 8 0 0 (Int32.toNatClampNeg (x3 + (nI 1)))))] [] r60.2).bind fun r61 =>
if r60.1 = r61.1 then
(ex (d + 1) 218 18 [some (vr 8 0 0), some (vr 6 0 0), some (vr 7 0 0), some (vi (x3 + (nI 5)))] [] r61.2)
else
(some ((nI 0), r61.2)))
else none)
else none)
else if ((O 8 0 0 (Int32.toNatClampNeg x3)) &&& (nI 63)) = (nI 33) then
(if ib (x3 + (nI 1)) (O 8 0 1 0).toNatClampNeg then
(if ib (x3 + (nI 2)) (O 8 0 1 0).toNatClampNeg then
((ex d 100 0 [some (vr 6 0 0), some (vi (O 8 0 0 (Int32.toNatClampNeg (x3 + (nI 1))))), some (vi (O 8 0 0 (Int32.toNatClampNeg (x3 + (nI 2)))))] [] O).bind fun r62 =>
if ib (x3 + (nI 1)) (r62.2 8 0 1 0).toNatClampNeg then
(if ib (x3 + (nI 2)) (r62.2 8 0 1 0).toNatClampNeg then
((ex d 207 0 [some (vr 7 0 0), some (vi (r62.2 8 0 0 (Int32.toNatClampNeg (x3 + (nI 1))))), some (vi (r62.2 8 0 0 (Int32.toNatClampNeg (x3 + (nI 2)))))] [] r62.2).bind fun r63 =>
if r62.1 = r63.1 then
(ex (d + 1) 218 18 [some (vr 8 0 0), some (vr 6 0 0), some (vr 7 0 0), some (vi (x3 + (nI 5)))] [] r63.2)
else
(some ((nI 0), r63.2)))
else none)
else none)
else none)
else none)
else if ((O 8 0 0 (Int32.toNatClampNeg x3)) &&& (nI 63)) = (nI 34) then
(if ib (x3 + (nI 1)) (O 8 0 1 0).toNatClampNeg then
((ex d 101 0 [some (vr 6 0 0), some (vi (O 8 0 0 (Int32.toNatClampNeg (x3 + (nI 1)))))] [] O).bind fun r64 =>
if ib (x3 + (nI 1)) (r64.2 8 0 1 0).toNatClampNeg then
((ex d 208 0 [some (vr 7 0 0), some (vi (r64.2 8 0 0 (Int32.toNatClampNeg (x3 + (nI 1)))))] [] r64.2).bind fun r65 =>
if r64.1 = r65.1 then
(ex (d + 1) 218 18 [some (vr 8 0 0), some (vr 6 0 0), some (vr 7 0 0), some (vi (x3 + (nI 5)))] [] r65.2)
else
(some ((nI 0), r65.2)))
else none)
else none)
else if ((O 8 0 0 (Int32.toNatClampNeg x3)) &&& (nI 63)) = (nI 35) then
(if ib (x3 + (nI 1)) (O 8 0 1 0).toNatClampNeg then
((ex d 102 0 [some (vr 6 0 0), some (vi (O 8 0 0 (Int32.toNatClampNeg (x3 + (nI 1)))))] [] O).bind fun r66 =>
if ib (x3 + (nI 1)) (r66.2 8 0 1 0).toNatClampNeg then
((ex d 209 0 [some (vr 7 0 0), some (vi (r66.2 8 0 0 (Int32.toNatClampNeg (x3 + (nI 1)))))] [] r66.2).bind fun r67 =>
if r66.1 = r67.1 then
(ex (d + 1) 218 18 [some (vr 8 0 0), some (vr 6 0 0), some (vr 7 0 0), some (vi (x3 + (nI 5)))] [] r67.2)
else
(some ((nI 0), r67.2)))
else none)
else none)
else if ((O 8 0 0 (Int32.toNatClampNeg x3)) &&& (nI 63)) = (nI 36) then
(if ib (x3 + (nI 1)) (O 8 0 1 0).toNatClampNeg then
((ex d 103 0 [some (vr 6 0 0), some (vi (O 8 0 0 (Int32.toNatClampNeg (x3 + (nI 1)))))] [] O).bind fun r68 =>
if ib (x3 + (nI 1)) (r68.2 8 0 1 0).toNatClampNeg then
((ex d 210 0 [some (vr 7 0 0), some (vi (r68.2 8 0 0 (Int32.toNatClampNeg (x3 + (nI 1)))))] [] r68.2).bind fun r69 =>
if r68.1 = r69.1 then
(ex (d + 1) 218 18 [some (vr 8 0 0), some (vr 6 0 0), some (vr 7 0 0), some (vi (x3 + (nI 5)))] [] r69.2)
else
(some ((nI 0), r69.2)))
else none)
else none)
else if ((O 8 0 0 (Int32.toNatClampNeg x3)) &&& (nI 63)) = (nI 37) then
(if ib (x3 + (nI 1)) (O 8 0 1 0).toNatClampNeg then
(if ib (x3 + (nI 2)) (O 8 0 1 0).toNatClampNeg then
(if ib (x3 + (nI 3)) (O 8 0 1 0).toNatClampNeg then
((ex d 104 0 [some (vr 6 0 0), some (vi (O 8 0 0 (Int32.toNatClampNeg (x3 + (nI 1))))), some (vi (O 8 0 0 (Int32.toNatClampNeg (x3 + (nI 2))))), some (vi (O 8 0 0 (Int32.toNatClampNeg (x3 + (nI 3)))))] [] O).bind fun r70 =>
if ib (x3 + (nI 1)) (r70.2 8 0 1 0).toNatClampNeg then
(if ib (x3 + (nI 2)) (r70.2 8 0 1 0).toNatClampNeg then
(if ib (x3 + (nI 3)) (r70.2 8 0 1 0).toNatClampNeg then
((ex d 212 0 [some (vr 7 0 0), some (vi (r70.2 8 0 0 (Int32.toNatClampNeg (x3 + (nI 1))))), some (vi (r70.2 8 0 0 (Int32.toNatClampNeg (x3 + (nI 2))))), some (vi (r70.2 8 0 0 (Int32.toNatClampNeg (x3 + (nI 3)))))] [] r70.2).bind fun r71 =>
if r70.1 = r71.1 then
(ex (d + 1) 218 18 [some (vr 8 0 0), some (vr 6 0 0), some (vr 7 0 0), some (vi (x3 + (nI 5)))] [] r71.2)
else
(some ((nI 0), r71.2)))
else none)
else none)
else none)
else none)
else none)
else none)
else if ((O 8 0 0 (Int32.toNatClampNeg x3)) &&& (nI 63)) = (nI 38) then
(if ib (x3 + (nI 1)) (O 8 0 1 0).toNatClampNeg then
(if ib (x3 + (nI 2)) (O 8 0 1 0).toNatClampNeg then
(if ib (x3 + (nI 3)) (O 8 0 1 0).toNatClampNeg then
((ex d 105 0 [some (vr 6 0 0), some (vi (O 8 0 0 (Int32.toNatClampNeg (x3 + (nI 1))))), some (vi (O 8 0 0 (Int32.toNatClampNeg (x3 + (nI 2))))), some (vi (O 8 0 0 (Int32.toNatClampNeg (x3 + (nI 3)))))] [] O).bind fun r72 =>
if ib (x3 + (nI 1)) (r72.2 8 0 1 0).toNatClampNeg then
(if ib (x3 + (nI 2)) (r72.2 8 0 1 0).toNatClampNeg then
(if ib (x3 + (nI 3)) (r72.2 8 0 1 0).toNatClampNeg then
((ex d 213 0 [some (vr 7 0 0), some (vi (r72.2 8 0 0 (Int32.toNatClampNeg (x3 + (nI 1))))), some (vi (r72.2 8 0 0 (Int32.toNatClampNeg (x3 + (nI 2))))), some (vi (r72.2 8 0 0 (Int32.toNatClampNeg (x3 + (nI 3)))))] [] r72.2).bind fun r73 =>
if r72.1 = r73.1 then
(ex (d + 1) 218 18 [some (vr 8 0 0), some (vr 6 0 0), some (vr 7 0 0), some (vi (x3 + (nI 5)))] [] r73.2)
else
(some ((nI 0), r73.2)))
else none)
else none)
else none)
else none)
else none)
else none)
else if ((O 8 0 0 (Int32.toNatClampNeg x3)) &&& (nI 63)) = (nI 39) then
(if ib (x3 + (nI 1)) (O 8 0 1 0).toNatClampNeg then
(if ib (x3 + (nI 2)) (O 8 0 1 0).toNatClampNeg then
(if ib (x3 + (nI 3)) (O 8 0 1 0).toNatClampNeg then
(if ib (x3 + (nI 4)) (O 8 0 1 0).toNatClampNeg then
((ex d 106 0 [some (vr 6 0 0), some (vi (O 8 0 0 (Int32.toNatClampNeg (x3 + (nI 1))))), some (vi (O 8 0 0 (Int32.toNatClampNeg (x3 + (nI 2))))), some (vi (O 8 0 0 (Int32.toNatClampNeg (x3 + (nI 3))))), some (vi (O 8 0 0 (Int32.toNatClampNeg (x3 + (nI 4)))))] [] O).bind fun r74 =>
if ib (x3 + (nI 1)) (r74.2 8 0 1 0).toNatClampNeg then
(if ib (x3 + (nI 2)) (r74.2 8 0 1 0).toNatClampNeg then
(if ib (x3 + (nI 3)) (r74.2 8 0 1 0).toNatClampNeg then
(if ib (x3 + (nI 4)) (r74.2 8 0 1 0).toNatClampNeg then
((ex d 214 0 [some (vr 7 0 0), some (vi (r74.2 8 0 0 (Int32.toNatClampNeg (x3 + (nI 1))))), some (vi (r74.2 8 0 0 (Int32.toNatClampNeg (x3 + (nI 2))))), some (vi (r74.2 8 0 0 (Int32.toNatClampNeg (x3 + (nI 3))))), some (vi (r74.2 8 0 0 (Int32.toNatClampNeg (x3 + (nI 4)))))] [] r74.2).bind fun r75 =>
if r74.1 = r75.1 then
(ex (d + 1) 218 18 [some (vr 8 0 0), some (vr 6 0 0), some (vr 7 0 0), some (vi (x3 + (nI 5)))] [] r75.2)
else
(some ((nI 0), r75.2)))
else none)
else none)
else none)
else none)
else none)
else none)
else none)
else none)
else if ((O 8 0 0 (Int32.toNatClampNeg x3)) &&& (nI 63)) = (nI 40) then
((ex d 107 0 [some (vr 6 0 0)] [] O).bind fun r76 =>
(ex d 215 0 [some (vr 7 0 0)] [] r76.2).bind fun r77 =>
if r76.1 = r77.1 then
(ex (d + 1) 218 18 [some (vr 8 0 0), some (vr 6 0 0), some (vr 7 0 0), some (vi (x3 + (nI 5)))] [] r77.2)
else
(some ((nI 0), r77.2)))
else if ((O 8 0 0 (Int32.toNatClampNeg x3)) &&& (nI 63)) = (nI 41) then
(if ib (x3 + (nI 1)) (O 8 0 1 0).toNatClampNeg then
((ex d 108 0 [some (vr 6 0 0), some (vi (O 8 0 0 (Int32.toNatClampNeg (x3 + (nI 1)))))] [] O).bind fun r78 =>
if ib (x3 + (nI 1)) (r78.2 8 0 1 0).toNatClampNeg then
((ex d 216 0 [some (vr 7 0 0), some (vi (r78.2 8 0 0 (Int32.toNatClampNeg (x3 + (nI 1)))))] [] r78.2).bind fun r79 =>
if r78.1 = r79.1 then
(ex (d + 1) 218 18 [some (vr 8 0 0), some (vr 6 0 0), some (vr 7 0 0), some (vi (x3 + (nI 5)))] [] r79.2)
else
(some ((nI 0), r79.2)))
else none)
else none)
else 
(ex (d + 1) 218 18 [some (vr 8 0 0), some (vr 6 0 0), some (vr 7 0 0), some (vi (x3 + (nI 5)))] [] O))
else none) := (ex_un d 218 300 18 [some (vr 8 0 0), some (vr 6 0 0), some (vr 7 0 0), some (vi x3)] [] O).trans rfl
set_option maxRecDepth 100000 in
theorem sL_law_454 (d : Nat) (O : Mem_) (x3 : Int32) (y0 : Int32) (y1 : Int32) (y2 : Int32) : ex (d + 1) 218 454 [some (vr 8 0 0), some (vr 6 0 0), some (vr 7 0 0), some (vi x3)] [vi y0, vi y1, vi y2, vr 6 0 0] O =
(ex d 75 0 [some (vr 6 0 0), some (vi y2), some (vi y1), some (vi y0)] [] O).bind fun r0 =>
if ib (x3 + (nI 1)) (r0.2 8 0 1 0).toNatClampNeg then
(if ib (x3 + (nI 2)) (r0.2 8 0 1 0).toNatClampNeg then
(if ib (x3 + (nI 3)) (r0.2 8 0 1 0).toNatClampNeg then
(if (r0.2 8 0 0 (Int32.toNatClampNeg (x3 + (nI 3)))) = nI 0 then
(ex (d + 1) 218 481 [some (vr 8 0 0), some (vr 6 0 0), some (vr 7 0 0), some (vi x3)] [vi (nI 0), vi (r0.2 8 0 0 (Int32.toNatClampNeg (x3 + (nI 2)))), vi (r0.2 8 0 0 (Int32.toNatClampNeg (x3 + (nI 1)))), vr 7 0 0, vi r0.1] r0.2)
else
(ex (d + 1) 218 481 [some (vr 8 0 0), some (vr 6 0 0), some (vr 7 0 0), some (vi x3)] [vi (nI 1), vi (r0.2 8 0 0 (Int32.toNatClampNeg (x3 + (nI 2)))), vi (r0.2 8 0 0 (Int32.toNatClampNeg (x3 + (nI 1)))), vr 7 0 0, vi r0.1] r0.2))
else none)
else none)
else none := (ex_un d 218 300 454 [some (vr 8 0 0), some (vr 6 0 0), some (vr 7 0 0), some (vi x3)] [vi y0, vi y1, vi y2, vr 6 0 0] O).trans rfl
set_option maxRecDepth 100000 in
theorem sL_law_481 (d : Nat) (O : Mem_) (x3 : Int32) (y0 : Int32) (y1 : Int32) (y2 : Int32) (y4 : Int32) : ex (d + 1) 218 481 [some (vr 8 0 0), some (vr 6 0 0), some (vr 7 0 0), some (vi x3)] [vi y0, vi y1, vi y2, vr 7 0 0, vi y4] O =
(ex d 165 0 [some (vr 7 0 0), some (vi y2), some (vi y1), some (vi y0)] [] O).bind fun r0 =>
if y4 = r0.1 then
(ex (d + 1) 218 18 [some (vr 8 0 0), some (vr 6 0 0), some (vr 7 0 0), some (vi (x3 + (nI 5)))] [] r0.2)
else
(some ((nI 0), r0.2)) := (ex_un d 218 300 481 [some (vr 8 0 0), some (vr 6 0 0), some (vr 7 0 0), some (vi x3)] [vi y0, vi y1, vi y2, vr 7 0 0, vi y4] O).trans rfl
set_option maxRecDepth 100000 in
theorem sL_law_1141 (d : Nat) (O : Mem_) (x3 : Int32) (y0 : Int32) (y1 : Int32) : ex (d + 1) 218 1141 [some (vr 8 0 0), some (vr 6 0 0), some (vr 7 0 0), some (vi x3)] [vi y0, vi y1, vr 6 0 0] O =
(ex d 97 0 [some (vr 6 0 0), some (vi y1), some (vi y0)] [] O).bind fun r0 =>
if ib (x3 + (nI 1)) (r0.2 8 0 1 0).toNatClampNeg then
(if ib (x3 + (nI 2)) (r0.2 8 0 1 0).toNatClampNeg then
(if (r0.2 8 0 0 (Int32.toNatClampNeg (x3 + (nI 2)))) = nI 0 then
(ex (d + 1) 218 1163 [some (vr 8 0 0), some (vr 6 0 0), some (vr 7 0 0), some (vi x3)] [vi (nI 0), vi (r0.2 8 0 0 (Int32.toNatClampNeg (x3 + (nI 1)))), vr 7 0 0, vi r0.1] r0.2)
else
(ex (d + 1) 218 1163 [some (vr 8 0 0), some (vr 6 0 0), some (vr 7 0 0), some (vi x3)] [vi (nI 1), vi (r0.2 8 0 0 (Int32.toNatClampNeg (x3 + (nI 1)))), vr 7 0 0, vi r0.1] r0.2))
else none)
else none := (ex_un d 218 300 1141 [some (vr 8 0 0), some (vr 6 0 0), some (vr 7 0 0), some (vi x3)] [vi y0, vi y1, vr 6 0 0] O).trans rfl
set_option maxRecDepth 100000 in
theorem sL_law_1163 (d : Nat) (O : Mem_) (x3 : Int32) (y0 : Int32) (y1 : Int32) (y3 : Int32) : ex (d + 1) 218 1163 [some (vr 8 0 0), some (vr 6 0 0), some (vr 7 0 0), some (vi x3)] [vi y0, vi y1, vr 7 0 0, vi y3] O =
(ex d 202 0 [some (vr 7 0 0), some (vi y1), some (vi y0)] [] O).bind fun r0 =>
if y3 = r0.1 then
(ex (d + 1) 218 18 [some (vr 8 0 0), some (vr 6 0 0), some (vr 7 0 0), some (vi (x3 + (nI 5)))] [] r0.2)
else
(some ((nI 0), r0.2)) := (ex_un d 218 300 1163 [some (vr 8 0 0), some (vr 6 0 0), some (vr 7 0 0), some (vi x3)] [vi y0, vi y1, vr 7 0 0, vi y3] O).trans rfl
end
section
/-! NUMBERS AND MASKS: what the program's words say, of natural numbers below 2^31. -/
section
theorem s_l : ∀ n, n < 32 → ((nI n &&& 31).toBitVec.smod 32).toNat = n := by decide +kernel
theorem q_shr (b i : Nat) (hb : b < 2 ^ 31) (hi : i < 32) : nI b >>> (nI i &&& (31:Int32)) = nI (b >>> i) := by
  rw [pk_shrN hb _ i (s_l i hi), Nat.shiftRight_eq_div_pow]
theorem q_shl (i : Nat) (hi : i < 31) : nI 1 <<< (nI i &&& (31:Int32)) = nI (2 ^ i) := by
  rw [pk_shlN _ i (s_l i (by omega)) (by
    rw [Nat.one_mul]
    exact Nat.pow_lt_pow_right (by decide) (by omega)), Nat.one_mul]
theorem q_and (a b : Nat) : nI a &&& nI b = nI (a &&& b) := by
  apply Int32.toBitVec_inj.mp
  rw [Int32.toBitVec_and]
  exact (BitVec.ofNat_and ..).symm
theorem q_or (a b : Nat) : nI a ||| nI b = nI (a ||| b) := by
  apply Int32.toBitVec_inj.mp
  rw [Int32.toBitVec_or]
  exact (BitVec.ofNat_or ..).symm
theorem q_xor (a b : Nat) : nI a ^^^ nI b = nI (a ^^^ b) := by
  apply Int32.toBitVec_inj.mp
  rw [Int32.toBitVec_xor]
  exact (BitVec.ofNat_xor ..).symm
/-- a's bits that are not b's -/
def dn (a b : Nat) : Nat := a ^^^ (a &&& b)
theorem dn_bit (a b i : Nat) : (dn a b).testBit i = (a.testBit i && !b.testBit i) := by
  unfold dn
  rw [Nat.testBit_xor, Nat.testBit_and]
  cases a.testBit i <;> cases b.testBit i <;> rfl
theorem dn_le (a b : Nat) : dn a b ≤ a := by
  apply Nat.le_of_testBit
  intro i h
  rw [dn_bit] at h
  exact ((Bool.and_eq_true _ _).mp h).1
theorem q_dn (a b : Nat) : nI a &&& (nI b ^^^ (-1)) = nI (dn a b) := by
  have h : ∀ x y : Int32, x &&& (y ^^^ (-1)) = x ^^^ (x &&& y) := fun x y => by
    apply Int32.toBitVec_inj.mp
    rw [Int32.toBitVec_and, Int32.toBitVec_xor, Int32.toBitVec_xor, Int32.toBitVec_and]
    apply BitVec.eq_of_getLsbD_eq
    intro i hi
    rw [BitVec.getLsbD_and, BitVec.getLsbD_xor, BitVec.getLsbD_xor, BitVec.getLsbD_and]
    have h1 : ((-1 : Int32).toBitVec).getLsbD i = true := by
      show (BitVec.allOnes 32).getLsbD i = true
      rw [BitVec.getLsbD_allOnes]
      exact decide_eq_true hi
    rw [h1]
    cases x.toBitVec.getLsbD i <;> cases y.toBitVec.getLsbD i <;> rfl
  rw [h, q_and, q_xor]
  rfl
theorem q_m1 (a : Nat) : nI a &&& (-1) = nI a := by
  have h : ∀ x : Int32, x &&& (-1) = x := fun x => by
    apply Int32.toBitVec_inj.mp
    rw [Int32.toBitVec_and]
    exact BitVec.and_allOnes
  exact h _
theorem q_shlm (n : Nat) (hn : n < 31) : nI 1 <<< (nI n &&& (31:Int32)) - nI 1 = nI (2 ^ n - 1) := by
  rw [q_shl n hn, pk_sub (Nat.two_pow_pos n)]
theorem q_p1 (n : Nat) : nI (2 ^ n) - nI 1 = nI (2 ^ n - 1) := pk_sub (Nat.two_pow_pos n)
theorem q_b1 (a : Nat) (ha : a < 2 ^ 31) : (nI a &&& nI 1 = nI 1) ↔ a.testBit 0 = true := by
  rw [q_and, nI_eq (Nat.lt_of_le_of_lt Nat.and_le_left ha) (by decide), Nat.and_one_is_mod, Nat.testBit_zero]
  exact decide_eq_true_iff.symm
theorem q_bit (b i : Nat) (hb : b < 2 ^ 31) (hi : i < 32) : ((nI b >>> (nI i &&& (31:Int32))) &&& nI 1 = nI 1) ↔ b.testBit i = true := by
  rw [q_shr b i hb hi, q_b1 _ (Nat.lt_of_le_of_lt (Nat.shiftRight_le _ _) hb), Nat.testBit_shiftRight, Nat.add_zero]
theorem q_bitv (b i : Nat) (hb : b < 2 ^ 31) (hi : i < 32) : ((nI b >>> (nI i &&& (31:Int32))) &&& nI 1) = bI (b.testBit i) := by
  rw [q_shr b i hb hi, q_and, Nat.and_one_is_mod]
  unfold bI
  rw [Nat.toNat_testBit, Nat.shiftRight_eq_div_pow]
theorem ib_n {j N : Nat} (h : j < N) (hN : N < 2 ^ 31) : ib (nI j) N = true := by
  unfold ib
  rw [nI_clamp (by omega), decide_eq_true h, decide_eq_true (nI_pos (by omega))]
  rfl
theorem ib_no {j N : Nat} (h : N ≤ j) (hj : j < 2 ^ 31) : ib (nI j) N = false := by
  unfold ib
  rw [nI_clamp hj, decide_eq_false (Nat.not_lt.mpr h), Bool.and_false]
theorem nI_m {j : Nat} : nI j - nI 1 = nI j + (-1) := by
  rw [Int32.sub_eq_add_neg]; rfl
theorem oI_none {j : Nat} (h : j < 2 ^ 31) : ¬ nI j = oI none := fun e => nI_pos h (by rw [e]; decide)
theorem oI_lt0 : (oI none < nI 0) := by decide
theorem oI_sn {j : Nat} (h : j < 2 ^ 31) : ¬ oI (some j) = oI none := oI_none h
theorem oI_inj {a b : Option Nat} (ha : ∀ i, a = some i → i < 2 ^ 31) (hb : ∀ i, b = some i → i < 2 ^ 31) : oI a = oI b ↔ a = b := by
  cases a with
  | none => cases b with
    | none => simp
    | some j => exact ⟨fun e => absurd e.symm (oI_none (hb j rfl)), fun e => by cases e⟩
  | some i => cases b with
    | none => exact ⟨fun e => absurd e (oI_none (ha i rfl)), fun e => by cases e⟩
    | some j => exact ⟨fun e => by rw [(nI_eq (ha i rfl) (hb j rfl)).mp e], fun e => by rw [e]⟩
theorem bI_t : bI true = nI 1 := rfl
theorem bI_f : bI false = nI 0 := rfl
theorem bI_0 (b : Bool) : (bI b = nI 0) ↔ b = false := by cases b <;> decide
theorem bI_1 (b : Bool) : (bI b = nI 1) ↔ b = true := by cases b <;> decide
theorem bI_01 (b : Bool) : (bI b = nI 0 ∨ bI b = nI 1) ↔ True := by cases b <;> decide
theorem b_or (b : Bool) : (b = false ∨ b = true) ↔ True := by cases b <;> decide
theorem bI_eq (b c : Bool) : (bI b = bI c) ↔ b = c := by cases b <;> cases c <;> decide
/-- the mask of the numbers below n that f takes -/
def ms : Nat → (Nat → Bool) → Nat
  | 0, _ => 0
  | n + 1, f => if f n then ms n f ||| 2 ^ n else ms n f
theorem ms_bit (f : Nat → Bool) (i : Nat) : ∀ n, (ms n f).testBit i = (decide (i < n) && f i)
  | 0 => by simp [ms]
  | n + 1 => by
    unfold ms
    have ih := ms_bit f i n
    by_cases hin : i = n
    · subst hin
      cases hf : f i <;> simp [ih]
    · have h : decide (i < n + 1) = decide (i < n) := decide_eq_decide.mpr (by omega)
      rw [h]
      split
      · rw [Nat.testBit_or, ih, Nat.testBit_two_pow_of_ne (Ne.symm hin), Bool.or_false]
      · exact ih
theorem ms_lt (f : Nat → Bool) (n : Nat) : ms n f < 2 ^ n := by
  apply Nat.lt_pow_two_of_testBit
  intro i hi
  rw [ms_bit, decide_eq_false (by omega), Bool.false_and]
theorem ms_lt' (f : Nat → Bool) {n k : Nat} (h : n ≤ k) : ms n f < 2 ^ k := Nat.lt_of_lt_of_le (ms_lt f n) (Nat.pow_le_pow_right (by decide) h)
theorem ms_ext {n : Nat} {f g : Nat → Bool} (h : ∀ i, i < n → f i = g i) : ms n f = ms n g := by
  apply Nat.eq_of_testBit_eq
  intro i
  rw [ms_bit, ms_bit]
  by_cases hi : i < n
  · rw [h i hi]
  · rw [decide_eq_false hi, Bool.false_and, Bool.false_and]
theorem ms_eq {n a : Nat} (ha : a < 2 ^ n) {f : Nat → Bool} (h : ∀ i, i < n → a.testBit i = f i) : a = ms n f := by
  apply Nat.eq_of_testBit_eq
  intro i
  rw [ms_bit]
  by_cases hi : i < n
  · rw [h i hi, decide_eq_true hi, Bool.true_and]
  · rw [decide_eq_false hi, Bool.false_and, Nat.testBit_lt_two_pow (Nat.lt_of_lt_of_le ha (Nat.pow_le_pow_right (by decide) (by omega)))]
theorem ms_s (n : Nat) (f : Nat → Bool) : ms (n + 1) f = if f n then ms n f ||| 2 ^ n else ms n f := rfl
/-- loops: F at a counter, with an accumulator -/
def itn {α : Type} (f : Nat → α → α) : Nat → α → α
  | 0, a => a
  | n + 1, a => f n (itn f n a)
theorem lp_n {α β : Type} (F : Nat → α → β) (f : Nat → α → α) (n : Nat) (h : ∀ k a, k < n → F k a = F (k + 1) (f k a)) (a : α) : F 0 a = F n (itn f n a) := by
  have key : ∀ k, k ≤ n → F 0 a = F k (itn f k a) := by
    intro k
    induction k with
    | zero => intro _; rfl
    | succ k ih => intro hk; rw [ih (by omega), h k _ (by omega)]; rfl
  exact key n (Nat.le_refl n)
/-- loops with a kept word -/
theorem lp_i {α β : Type} (F : Nat → α → β) (P : Nat → α → Prop) (n : Nat) (h : ∀ k a, k < n → P k a → ∃ a', F k a = F (k + 1) a' ∧ P (k + 1) a') (a : α) (h0 : P 0 a) : ∃ a', F 0 a = F n a' ∧ P n a' := by
  have key : ∀ k, k ≤ n → ∃ a', F 0 a = F k a' ∧ P k a' := by
    intro k
    induction k with
    | zero => intro _; exact ⟨a, rfl, h0⟩
    | succ k ih =>
      intro hk
      obtain ⟨a', e, hp⟩ := ih (by omega)
      obtain ⟨a2, e2, hp2⟩ := h k a' (by omega) hp
      exact ⟨a2, e.trans e2, hp2⟩
  exact key n (Nat.le_refl n)
/-- loops that stop at the first k that c takes -/
theorem lp_f {β : Type} (F : Nat → β) (c : Nat → Bool) (R : Nat → β) (n : Nat) (h : ∀ k, k < n → F k = if c k = true then R k else F (k + 1)) : F 0 = match (List.range n).find? c with
    | some k => R k
    | none => F n := by
  have key : ∀ m k, k + m = n → F k = match ((List.range' k m).find? c) with
      | some k => R k
      | none => F n := by
    intro m
    induction m with
    | zero => intro k hk; simp only [List.range'_zero, List.find?_nil]; rw [← hk]; rfl
    | succ m ih =>
      intro k hk
      rw [h k (by omega), List.range'_succ, List.find?_cons]
      cases hc : c k with
      | true => simp
      | false => simp only [Bool.false_eq_true, if_false]; exact ih (k + 1) (by omega)
  rw [key n 0 (by omega), List.range_eq_range']
theorem up_eq (O : Mem_) (c n p j : Nat) (v : Int32) : up O c n p j v c n p j = v := by simp [up]
theorem up_row {O : Mem_} {c n p j : Nat} {v : Int32} {c' n' : Nat} (h : c' ≠ c ∨ n' ≠ n) : up O c n p j v c' n' = O c' n' := by
  funext p' j'
  unfold up
  rw [if_neg]
  rintro ⟨h1, h2, -⟩
  rcases h with h | h
  · exact h h1
  · exact h h2
theorem up_self (O : Mem_) (c n p j : Nat) (v : Int32) (p' j' : Nat) : up O c n p j v c n p' j' = if p' = p ∧ j' = j then v else O c n p' j' := by
  unfold up
  by_cases h : p' = p ∧ j' = j
  · rw [if_pos ⟨rfl, rfl, h⟩, if_pos h]
  · rw [if_neg (fun q => h q.2.2), if_neg h]
theorem up_ne {O : Mem_} {c n p j : Nat} {v : Int32} {p' j' : Nat} (h : ¬ (p' = p ∧ j' = j)) : up O c n p j v c n p' j' = O c n p' j' := by rw [up_self, if_neg h]
theorem up_same {O : Mem_} {c n p j : Nat} {v : Int32} (h : O c n p j = v) : up O c n p j v = O := by
  funext c' n' p' j'
  unfold up
  split
  · rename_i q
    obtain ⟨rfl, rfl, rfl, rfl⟩ := q
    exact h.symm
  · rfl
theorem up_up (O : Mem_) (c n p j : Nat) (v w : Int32) : up (up O c n p j v) c n p j w = up O c n p j w := by
  funext c' n' p' j'
  simp only [up]
  split <;> rfl
theorem up_comm (O : Mem_) {c n p j c2 n2 p2 j2 : Nat} (v w : Int32) (h : ¬ (c = c2 ∧ n = n2 ∧ p = p2 ∧ j = j2)) : up (up O c n p j v) c2 n2 p2 j2 w = up (up O c2 n2 p2 j2 w) c n p j v := by
  funext c' n' p' j'
  simp only [up]
  by_cases h1 : c' = c ∧ n' = n ∧ p' = p ∧ j' = j
  · obtain ⟨rfl, rfl, rfl, rfl⟩ := h1
    rw [if_neg h, if_pos ⟨rfl, rfl, rfl, rfl⟩, if_pos ⟨rfl, rfl, rfl, rfl⟩]
  · rw [if_neg h1, if_neg h1]
theorem cpy_row {O : Mem_} {c0 n0 p0 c n p sp dp len : Nat} {c' n' : Nat} (h : c' ≠ c ∨ n' ≠ n) : cpy O c0 n0 p0 c n p sp dp len c' n' = O c' n' := by
  funext p' j'
  unfold cpy
  rw [if_neg]
  rintro ⟨h1, h2, -⟩
  rcases h with h | h
  · exact h h1
  · exact h h2
end
end
section
/-! WHAT IS TOLD, WHAT IS THOUGHT: of lists and natural numbers. -/
section
/-- marks of things; has, has not of meanings; targets of sounds; kinds: sort, sees, fears, unlike, chance -/
abbrev Td_ : Type := List Nat × List (Nat × Nat) × List Nat × List (Nat × Nat × Option Nat × Bool × Nat)
def nT (T : Td_) : Nat := T.1.length
def nM (T : Td_) : Nat := T.2.1.length
def nS (T : Td_) : Nat := T.2.2.1.length
def nK (T : Td_) : Nat := T.2.2.2.length
def mk_ (T : Td_) (t : Nat) : Nat := T.1.getD t 0
def hs_ (T : Td_) (m : Nat) : Nat := (T.2.1.getD m (0, 0)).1
def hn_ (T : Td_) (m : Nat) : Nat := (T.2.1.getD m (0, 0)).2
def tg_ (T : Td_) (s : Nat) : Nat := T.2.2.1.getD s 0
def kd_ (T : Td_) (k : Nat) : Nat × Nat × Option Nat × Bool × Nat := T.2.2.2.getD k (0, 0, none, false, 0)
def so_ (T : Td_) (k : Nat) : Nat := (kd_ T k).1
def se_ (T : Td_) (k : Nat) : Nat := (kd_ T k).2.1
def fe_ (T : Td_) (k : Nat) : Option Nat := (kd_ T k).2.2.1
def ul_ (T : Td_) (k : Nat) : Bool := (kd_ T k).2.2.2.1
def ch_ (T : Td_) (k : Nat) : Nat := (kd_ T k).2.2.2.2
/-- the words of a text are in their bounds -/
def WT (T : Td_) : Prop := nT T ≤ 8 ∧ nM T ≤ 12 ∧ nS T ≤ 4 ∧ nK T ≤ 6 ∧ (∀ t, mk_ T t < 256) ∧ (∀ m, hs_ T m < 256 ∧ hn_ T m < 256 ∧ hs_ T m &&& hn_ T m = 0) ∧ (∀ s, s < nS T → tg_ T s < nM T) ∧ (∀ k, so_ T k < 4 ∧ se_ T k < 256 ∧ ch_ T k ≤ 9) ∧ ∀ k t, fe_ T k = some t → t < nT T
def isA (T : Td_) (m t : Nat) : Bool := (mk_ T t &&& hs_ T m == hs_ T m) && (mk_ T t &&& hn_ T m == 0)
def are (T : Td_) (m : Nat) : Nat := ms (nT T) (fun t => isA T m t)
def isIt (T : Td_) (t : Nat) : Nat := ms (nM T) (fun m => isA T m t)
def can (T : Td_) (k : Nat) : Nat := ms (nM T) (fun m => dn (hs_ T m ||| hn_ T m) (se_ T k) == 0)
def alike (T : Td_) (m : Nat) : Nat := ms (nM T) (fun o => are T m == are T o)
/-- how many of the first n bits of a mask are set -/
def cnt (a : Nat) : Nat → Nat
  | 0 => 0
  | n + 1 => cnt a n + (a.testBit n).toNat
def asks (T : Td_) (m : Nat) : Nat := cnt (hs_ T m ||| hn_ T m) 8
def fpl (T : Td_) : List Nat := (List.range 9).flatMap fun a => (List.range (nM T)).filter fun m => asks T m == a
def plainest (T : Td_) (these : Nat) : Option Nat := (fpl T).find? fun m => these.testBit m
/-- o is one of the mask's -/
def inO (o : Option Nat) (b : Nat) : Bool := o.any fun i => b.testBit i
def fitg (T : Td_) (t : Nat) (so : Bool) : Nat := if so then isIt T t else dn (2 ^ nM T - 1) (isIt T t)
def tgA (T : Td_) (s : Nat) : Nat := are T (tg_ T s)
def tgL (T : Td_) (s : Nat) : Nat := alike T (tg_ T s)
def isTg (T : Td_) (s t : Nat) : Bool := (tgA T s).testBit t
/-- a mind: thoughts, how often wrong, the latest, where it fled -/
abbrev Mi_ : Type := (Nat → Option Nat) × (Nat → Nat) × Option Nat × Option Nat
/-- minds: what fits each sound, the kinds -/
abbrev Md_ : Type := (Nat → Nat) × (Nat → Mi_)
def taken (T : Td_) (k s : Nat) (th : Nat → Option Nat) (m : Nat) : Bool := ul_ T k && (List.range (nS T)).any fun q => q != s && th q == some m
def chs (T : Td_) (f : Nat) (k s : Nat) (th : Nat → Option Nat) : Nat := ms 12 fun m => (f.testBit m && (can T k).testBit m) && !taken T k s th m
def upF {α : Type} (f : Nat → α) (s : Nat) (v : α) : Nat → α := fun q => if q = s then v else f q
/-- what a kind thinks of a sound behind a showing, and how often it was wrong -/
def thk (T : Td_) (k s t : Nat) (so : Bool) (f : Nat) (μ : Mi_) : Option Nat × Nat :=
  let these := chs T f k s μ.1
  let p := plainest T these
  if so_ T k = 1 then (if inO μ.2.2.1 these then μ.2.2.1 else p, μ.2.1 s)
  else if so_ T k = 2 then (if p.any (fun m => dn these (alike T m) == 0) then p else none, μ.2.1 s)
  else if so_ T k = 3 then
    (let w := if (μ.1 s).isSome && !inO (μ.1 s) (fitg T t so) then μ.2.1 s + 1 else μ.2.1 s
     if (μ.1 s).isNone || decide (2 ≤ w) then (p, 0) else (μ.1 s, w))
  else (p, μ.2.1 s)
def look1 (T : Td_) (k s t : Nat) (so : Bool) (f : Nat) (μ : Mi_) : Mi_ :=
  (upF μ.1 s (thk T k s t so f μ).1, upF μ.2.1 s (thk T k s t so f μ).2, ((thk T k s t so f μ).1 <|> μ.2.2.1), μ.2.2.2)
def see1 (T : Td_) (k s t : Nat) (so : Bool) (i : Nat) (f : Nat) (μ : Mi_) : Mi_ :=
  if μ.2.2.2.isSome then μ else if fe_ T k = some t then (fun _ => none, fun _ => 0, μ.2.2.1, some i) else look1 T k s t so f μ
def see (T : Td_) (i s t : Nat) (so : Bool) (M : Md_) : Md_ :=
  (upF M.1 s (M.1 s &&& fitg T t so), fun k => see1 T k s t so i (M.1 s &&& fitg T t so) (M.2 k))
def mi0 : Mi_ := (fun _ => none, fun _ => 0, none, none)
def md0 (T : Td_) : Md_ := (fun _ => 2 ^ nM T - 1, fun _ => mi0)
/-- the minds behind the first n of a row of showings -/
def mds (T : Td_) (f : Nat → Nat × Nat × Bool) : Nat → Md_
  | 0 => md0 T
  | n + 1 => see T n (f n).1 (f n).2.1 (f n).2.2 (mds T f n)
def sam (T : Td_) (M : Md_) (k s : Nat) : Bool := inO ((M.2 k).1 s) (tgL T s)
def samA (T : Td_) (M : Md_) (K s : Nat) : Bool := (List.range (nK T)).all fun k => !K.testBit k || sam T M k s
/-- a sum over the first n -/
def sm : Nat → (Nat → Nat) → Nat
  | 0, _ => 0
  | n + 1, f => sm n f + f n
def chc (T : Td_) (K : Nat) : Nat := sm (nK T) fun k => if K.testBit k then ch_ T k else 0
def frd (T : Td_) (K : Nat) : Nat := ms (nT T) fun t => (List.range (nK T)).any fun k => K.testBit k && fe_ T k == some t
def ans (T : Td_) (M : Md_) (k s t : Nat) : Option Nat := ((M.2 k).1 s).map fun m => ((are T m).testBit t).toNat
def who (T : Td_) (M : Md_) (s t : Nat) (a : Option Nat) : Nat := ms (nK T) fun k => ans T M k s t == a
end
end
section
/-! THE CLASS'S TOLD: what its calls answer of what is told. -/
section
theorem n_neg {n : Nat} (h : n < 2 ^ 31) : (nI n < nI 0) ↔ False := by rw [nI_ltI h (by decide)]; simp
theorem m_isIn (d : Nat) (O : Mem_) {i b : Nat} (hi : i < 31) (hb : b < 2 ^ 31) : ex (d + 1) 109 0 [some (vi (nI i)), some (vi (nI b))] [] O = some (bI (b.testBit i), O) := by
  rw [sX6_isIn_0]
  simp (disch := omega) only [nI_ltI, nI_eq, nI_add, nI_clamp, ib_n, pk_mul, q_and, q_or, q_dn, q_shl, q_shlm, q_p1, if_true, if_false, ↓reduceIte, Option.bind_some, bI_0, bI_1, bI_01, b_or, Nat.not_lt_zero, Nat.zero_add, Bool.false_eq_true, Bool.true_eq_false, or_false, or_true, true_or, false_or, q_bit, hi]
  cases b.testBit i <;> simp [bI]
theorem m_isInO (d : Nat) (O : Mem_) {o : Option Nat} {b : Nat} (hi : ∀ i, o = some i → i < 31) (hb : b < 2 ^ 31) : ex (d + 1) 109 0 [some (vi (oI o)), some (vi (nI b))] [] O = some (bI (inO o b), O) := by
  cases o with
  | none => rw [sX6_isIn_0, if_pos oI_lt0]; rfl
  | some i => exact m_isIn d O (hi i rfl) hb
/-- x is one of the first n -/
def hsI (x : Int32) (n : Nat) : Bool := !decide (x < nI 0) && decide (x < nI n)
theorem hsI_n {j n : Nat} (hj : j < 2 ^ 31) (hn : n < 2 ^ 31) : hsI (nI j) n = decide (j < n) := by
  unfold hsI
  rw [decide_eq_false (by rw [nI_ltI hj (by decide)]; omega), decide_eq_decide.mpr (nI_ltI hj hn)]
  rfl
theorem hsI_none {n : Nat} : hsI (oI none) n = false := by
  unfold hsI
  rw [decide_eq_true oI_lt0]; rfl
theorem hsI_of {x : Int32} {n : Nat} (hn : n < 2 ^ 31) (h : hsI x n = true) : ∃ j, j < n ∧ x = nI j := by
  unfold hsI at h
  have ⟨h1, h2⟩ := (Bool.and_eq_true _ _).mp h
  have h1 : ¬ x < nI 0 := fun q => by rw [decide_eq_true q] at h1; cases h1
  have h2 := of_decide_eq_true h2
  obtain ⟨j, hj, rfl⟩ := nI_of h1
  exact ⟨j, (nI_ltI hj hn).mp h2, rfl⟩
/-- the class's rows hold what is told -/
def CT (R : Nat → Nat → Int32) (T : Td_) : Prop :=
  (R 0 0 = nI (nT T) ∧ R 0 1 = nI (nM T) ∧ R 0 2 = nI (nS T) ∧ R 0 3 = nI (nK T)) ∧
  (∀ t, t < nT T → R 5 t = nI (mk_ T t) ∧ R 6 t = nI (isIt T t)) ∧
  (∀ m, m < nM T → R 7 m = nI (hs_ T m) ∧ R 8 m = nI (hn_ T m) ∧ R 9 m = nI (asks T m) ∧ R 10 m = nI (are T m) ∧ R 11 m = nI (alike T m) ∧ R 12 m = nI ((fpl T).getD m 0)) ∧
  (∀ s, s < nS T → R 13 s = nI (tg_ T s)) ∧
  (∀ k, k < nK T → R 14 k = nI (so_ T k) ∧ R 15 k = nI (se_ T k) ∧ R 16 k = oI (fe_ T k) ∧ R 17 k = bI (ul_ T k) ∧ R 18 k = nI (ch_ T k) ∧ R 19 k = nI (can T k))
theorem has_of {x c : Int32} {n : Nat} {O : Mem_} (h : c = nI n) : (if x < nI 0 then some (nI 0, O) else (if x < c then some (nI 1, O) else some (nI 0, O))) = some (bI (hsI x n), O) := by
  subst h
  unfold hsI
  by_cases h1 : x < nI 0
  · rw [if_pos h1, decide_eq_true h1]; rfl
  · rw [if_neg h1, decide_eq_false h1]
    by_cases h2 : x < nI n
    · rw [if_pos h2, decide_eq_true h2]; rfl
    · rw [if_neg h2, decide_eq_false h2]; rfl
section
variable {T : Td_} {O : Mem_} {n : Nat}
theorem are_lt (hT : WT T) (m : Nat) : are T m < 256 := by
  exact ms_lt' _ (k := 8) hT.1
theorem isIt_lt (hT : WT T) (t : Nat) : isIt T t < 4096 := ms_lt' _ (k := 12) hT.2.1
theorem can_lt (hT : WT T) (k : Nat) : can T k < 4096 := ms_lt' _ (k := 12) hT.2.1
theorem alike_lt (hT : WT T) (m : Nat) : alike T m < 4096 := ms_lt' _ (k := 12) hT.2.1
theorem tgA_lt (hT : WT T) (s : Nat) : tgA T s < 256 := are_lt hT _
theorem tgL_lt (hT : WT T) (s : Nat) : tgL T s < 4096 := alike_lt hT _
theorem allM_lt (hT : WT T) : 2 ^ nM T - 1 < 4096 := by
  have : 2 ^ nM T ≤ 2 ^ 12 := Nat.pow_le_pow_right (by decide) hT.2.1
  have := Nat.two_pow_pos (nM T)
  omega
theorem fitg_lt (hT : WT T) (t : Nat) (so : Bool) : fitg T t so < 4096 := by
  unfold fitg
  cases so
  · exact Nat.lt_of_le_of_lt (dn_le _ _) (allM_lt hT)
  · exact isIt_lt hT t
theorem m_hasThing (d : Nat) (x : Int32) (h : CT (O 4 n) T) : ex (d + 1) 43 0 [some (vr 4 n 0), some (vi x)] [] O = some (bI (hsI x (nT T)), O) := by
  rw [sX4_hasThing_0]; exact has_of h.1.1
theorem m_hasMeaning (d : Nat) (x : Int32) (h : CT (O 4 n) T) : ex (d + 1) 44 0 [some (vr 4 n 0), some (vi x)] [] O = some (bI (hsI x (nM T)), O) := by
  rw [sX4_hasMeaning_0]; exact has_of h.1.2.1
theorem m_hasSound (d : Nat) (x : Int32) (h : CT (O 4 n) T) : ex (d + 1) 45 0 [some (vr 4 n 0), some (vi x)] [] O = some (bI (hsI x (nS T)), O) := by
  rw [sX4_hasSound_0]; exact has_of h.1.2.2.1
theorem m_hasKind (d : Nat) (x : Int32) (h : CT (O 4 n) T) : ex (d + 1) 46 0 [some (vr 4 n 0), some (vi x)] [] O = some (bI (hsI x (nK T)), O) := by
  rw [sX4_hasKind_0]; exact has_of h.1.2.2.2
theorem m_areKinds (d : Nat) (x : Int32) (h : CT (O 4 n) T) (hT : WT T) : ex (d + 1) 47 0 [some (vr 4 n 0), some (vi x)] [] O = some (bI (hsI x (2 ^ nK T)), O) := by
  rw [sX4_areKinds_0]
  have := hT.2.2.2.1
  exact has_of (by rw [h.1.2.2.2, q_shl _ (by omega)])
theorem m_allThings (d : Nat) (h : CT (O 4 n) T) (hT : WT T) : ex (d + 1) 48 0 [some (vr 4 n 0)] [] O = some (nI (2 ^ nT T - 1), O) := by
  have := hT.1
  rw [sX4_allThings_0, h.1.1, q_shlm _ (by omega)]
theorem m_allMeanings (d : Nat) (h : CT (O 4 n) T) (hT : WT T) : ex (d + 1) 49 0 [some (vr 4 n 0)] [] O = some (nI (2 ^ nM T - 1), O) := by
  have := hT.2.1
  rw [sX4_allMeanings_0, h.1.2.1, q_shlm _ (by omega)]
theorem m_allKinds (d : Nat) (h : CT (O 4 n) T) (hT : WT T) : ex (d + 1) 50 0 [some (vr 4 n 0)] [] O = some (nI (2 ^ nK T - 1), O) := by
  have := hT.2.2.2.1
  rw [sX4_allKinds_0, h.1.2.2.2, q_shlm _ (by omega)]
theorem mem_fpl {m : Nat} (h : m ∈ fpl T) : m < nM T := by
  unfold fpl at h
  obtain ⟨a, -, h⟩ := List.mem_flatMap.mp h
  exact List.mem_range.mp (List.mem_filter.mp h).1
theorem cnt_le (a : Nat) : ∀ k, cnt a k ≤ k
  | 0 => Nat.le_refl _
  | k + 1 => by
    unfold cnt
    have := cnt_le a k
    have : (a.testBit k).toNat ≤ 1 := by cases a.testBit k <;> decide
    omega
theorem count_range {N c : Nat} (h : c < N) : (List.range N).count c = 1 := by
  induction N with
  | zero => omega
  | succ N ih =>
    rw [List.range_succ, List.count_append, List.count_singleton]
    by_cases hc : c < N
    · rw [ih hc]
      have : ¬ N = c := by omega
      simp [this]
    · have e : N = c := by omega
      subst e
      have : (List.range N).count N = 0 := List.count_eq_zero.mpr (fun q => by have := List.mem_range.mp q; omega)
      rw [this]; simp
theorem fpl_count (c : Nat → Nat) : ∀ (N M : Nat), (∀ m, m < M → c m < N) → ((List.range N).flatMap fun a => (List.range M).filter fun m => c m == a).length = M := by
  intro N M
  induction M with
  | zero => intro _; induction List.range N with
    | nil => rfl
    | cons x l ih => simpa using ih
  | succ M ih =>
    intro h
    have hc := h M (by omega)
    have e : ∀ L : List Nat, (L.flatMap fun a => (List.range (M + 1)).filter fun m => c m == a).length = (L.flatMap fun a => (List.range M).filter fun m => c m == a).length + L.count (c M) := by
      intro L
      induction L with
      | nil => rfl
      | cons x L ihL =>
        rw [List.flatMap_cons, List.flatMap_cons, List.length_append, List.length_append, ihL, List.range_succ, List.filter_append, List.length_append, List.count_cons]
        by_cases hx : x = c M
        · subst hx; simp; omega
        · have : ¬ c M = x := fun q => hx q.symm
          simp [this, hx]; omega
    rw [e, ih (fun m hm => h m (by omega)), count_range hc]
theorem fpl_len : (fpl T).length = nM T := fpl_count _ 9 (nM T) (fun m _ => Nat.lt_succ_of_le (cnt_le _ 8))
theorem find_getD (l : List Nat) (c : Nat → Bool) : l.find? c = ((List.range l.length).find? (fun i => c (l.getD i 0))).map (fun i => l.getD i 0) := by
  induction l with
  | nil => rfl
  | cons x l ih =>
    rw [List.find?_cons, List.length_cons, List.range_succ_eq_map, List.find?_cons]
    have h0 : (x :: l).getD 0 0 = x := rfl
    simp only [h0]
    cases hx : c x with
    | true => rfl
    | false =>
      simp only [List.find?_map, Option.map_map]
      exact ih
theorem m_plainest (d : Nat) {b : Nat} (hb : b < 2 ^ 31) (h : CT (O 4 n) T) (hT : WT T) : ex (d + 2) 51 0 [some (vr 4 n 0), some (vi (nI b))] [] O = some (oI (plainest T b), O) := by
  have h12 := hT.2.1
  rw [sX4_plainest_0]
  refine (lp_f (fun i => ex (d + 2) 51 2 [some (vr 4 n 0), some (vi (nI b)), some (vi (nI i))] [] O) (fun i => b.testBit ((fpl T).getD i 0)) (fun i => some (nI ((fpl T).getD i 0), O)) (nM T) (fun i hi => ?_)).trans ?_
  · have hf : (fpl T).getD i 0 < nM T := by
      have hl : i < (fpl T).length := by rw [fpl_len]; exact hi
      rw [List.getD_eq_getElem?_getD, List.getElem?_eq_getElem hl, Option.getD_some]
      exact mem_fpl (List.getElem_mem hl)
    refine (sX4_plainest_2 ..).trans ?_
    simp (disch := omega) only [nI_ltI, nI_eq, nI_add, nI_clamp, ib_n, pk_mul, q_and, q_or, q_dn, q_shl, q_shlm, q_p1, if_true, if_false, ↓reduceIte, Option.bind_some, bI_0, bI_1, bI_01, b_or, Nat.not_lt_zero, Nat.zero_add, Bool.false_eq_true, Bool.true_eq_false, or_false, or_true, true_or, false_or, h.1.2.1, (h.2.2.1 i hi).2.2.2.2.2, m_isIn, hi]
    cases b.testBit ((fpl T).getD i 0) <;> simp
  · unfold plainest
    rw [find_getD (fpl T), fpl_len]
    cases (List.range (nM T)).find? (fun i => b.testBit ((fpl T).getD i 0)) with
    | none =>
      refine (sX4_plainest_2 ..).trans ?_
      simp (disch := omega) only [nI_ltI, nI_eq, nI_add, nI_clamp, ib_n, pk_mul, q_and, q_or, q_dn, q_shl, q_shlm, q_p1, if_true, if_false, ↓reduceIte, Option.bind_some, bI_0, bI_1, bI_01, b_or, Nat.not_lt_zero, Nat.zero_add, Bool.false_eq_true, Bool.true_eq_false, or_false, or_true, true_or, false_or, h.1.2.1, Nat.lt_irrefl]
      rfl
    | some i => rfl
theorem m_fitting (d : Nat) {t : Nat} (so : Bool) (ht : t < nT T) (h : CT (O 4 n) T) (hT : WT T) : ex (d + 2) 52 0 [some (vr 4 n 0), some (vi (nI t)), some (vi (bI so))] [] O = some (nI (fitg T t so), O) := by
  have h8 := hT.1
  rw [sX4_fitting_0]
  simp (disch := omega) only [nI_ltI, nI_eq, nI_add, nI_clamp, ib_n, pk_mul, q_and, q_or, q_dn, q_shl, q_shlm, q_p1, if_true, if_false, ↓reduceIte, Option.bind_some, bI_0, bI_1, bI_01, b_or, Nat.not_lt_zero, Nat.zero_add, Bool.false_eq_true, Bool.true_eq_false, or_false, or_true, true_or, false_or, m_hasThing (h := h), hsI_n, m_allMeanings (h := h) (hT := hT), ht, decide_true, (h.2.1 t ht).2]
  cases so <;> simp [fitg]
theorem m_targetThings (d : Nat) {s : Nat} (hs : s < nS T) (h : CT (O 4 n) T) (hT : WT T) : ex (d + 2) 53 0 [some (vr 4 n 0), some (vi (nI s))] [] O = some (nI (tgA T s), O) := by
  have h4 := hT.2.2.1
  have h12 := hT.2.1
  have ht := hT.2.2.2.2.2.2.1 s hs
  rw [sX4_targetThings_0]
  simp (disch := omega) only [nI_ltI, nI_eq, nI_add, nI_clamp, ib_n, pk_mul, q_and, q_or, q_dn, q_shl, q_shlm, q_p1, if_true, if_false, ↓reduceIte, Option.bind_some, bI_0, bI_1, bI_01, b_or, Nat.not_lt_zero, Nat.zero_add, Bool.false_eq_true, Bool.true_eq_false, or_false, or_true, true_or, false_or, m_hasSound (h := h), m_hasMeaning (h := h), hsI_n, hs, ht, decide_true, h.2.2.2.1 s hs, (h.2.2.1 _ ht).2.2.2.1]
  rfl
theorem m_likeTarget (d : Nat) {s : Nat} (hs : s < nS T) (h : CT (O 4 n) T) (hT : WT T) : ex (d + 2) 54 0 [some (vr 4 n 0), some (vi (nI s))] [] O = some (nI (tgL T s), O) := by
  have h4 := hT.2.2.1
  have h12 := hT.2.1
  have ht := hT.2.2.2.2.2.2.1 s hs
  rw [sX4_likeTarget_0]
  simp (disch := omega) only [nI_ltI, nI_eq, nI_add, nI_clamp, ib_n, pk_mul, q_and, q_or, q_dn, q_shl, q_shlm, q_p1, if_true, if_false, ↓reduceIte, Option.bind_some, bI_0, bI_1, bI_01, b_or, Nat.not_lt_zero, Nat.zero_add, Bool.false_eq_true, Bool.true_eq_false, or_false, or_true, true_or, false_or, m_hasSound (h := h), m_hasMeaning (h := h), hsI_n, hs, ht, decide_true, h.2.2.2.1 s hs, (h.2.2.1 _ ht).2.2.2.2.1]
  rfl
theorem m_isTarget (d : Nat) {s t : Nat} (hs : s < nS T) (ht : t < 31) (h : CT (O 4 n) T) (hT : WT T) : ex (d + 3) 55 0 [some (vr 4 n 0), some (vi (nI s)), some (vi (nI t))] [] O = some (bI (isTg T s t), O) := by
  have := tgA_lt hT s
  rw [sX4_isTarget_0, m_targetThings _ hs h hT]
  simp (disch := omega) only [nI_ltI, nI_eq, nI_add, nI_clamp, ib_n, pk_mul, q_and, q_or, q_dn, q_shl, q_shlm, q_p1, if_true, if_false, ↓reduceIte, Option.bind_some, bI_0, bI_1, bI_01, b_or, Nat.not_lt_zero, Nat.zero_add, Bool.false_eq_true, Bool.true_eq_false, or_false, or_true, true_or, false_or, m_isIn]
  rfl
theorem itn_ms (f : Nat → Bool) : ∀ n, itn (fun k a => if f k = true then a ||| 2 ^ k else a) n 0 = ms n f
  | 0 => rfl
  | n + 1 => by
    show (if f n = true then itn _ n 0 ||| 2 ^ n else itn _ n 0) = _
    rw [itn_ms f n]; rfl
theorem itn_sm (f : Nat → Nat) : ∀ n, itn (fun k a => a + f k) n 0 = sm n f
  | 0 => rfl
  | n + 1 => by
    show itn _ n 0 + f n = _
    rw [itn_sm f n]; rfl
theorem m_kindsThatCan (d : Nat) {m : Nat} (hm : m < 12) (h : CT (O 4 n) T) (hT : WT T) : ex (d + 2) 56 0 [some (vr 4 n 0), some (vi (nI m))] [] O = some (nI (ms (nK T) fun k => (can T k).testBit m), O) := by
  have h6 := hT.2.2.2.1
  rw [sX4_kindsThatCan_0]
  refine (lp_n (fun k a => ex (d + 2) 56 4 [some (vr 4 n 0), some (vi (nI m)), some (vi (nI a)), some (vi (nI k))] [] O) (fun k a => if (can T k).testBit m = true then a ||| 2 ^ k else a) (nK T) (fun k a hk => ?_) 0).trans ?_
  · have := can_lt hT k
    refine (sX4_kindsThatCan_4 ..).trans ?_
    simp (disch := omega) only [nI_ltI, nI_eq, nI_add, nI_clamp, ib_n, pk_mul, q_and, q_or, q_dn, q_shl, q_shlm, q_p1, if_true, if_false, ↓reduceIte, Option.bind_some, bI_0, bI_1, bI_01, b_or, Nat.not_lt_zero, Nat.zero_add, Bool.false_eq_true, Bool.true_eq_false, or_false, or_true, true_or, false_or, h.1.2.2.2, (h.2.2.2.2 k hk).2.2.2.2.2, m_isIn, hk]
    cases (can T k).testBit m <;> simp
  · refine (sX4_kindsThatCan_4 ..).trans ?_
    simp (disch := omega) only [nI_ltI, nI_eq, nI_add, nI_clamp, ib_n, pk_mul, q_and, q_or, q_dn, q_shl, q_shlm, q_p1, if_true, if_false, ↓reduceIte, Option.bind_some, bI_0, bI_1, bI_01, b_or, Nat.not_lt_zero, Nat.zero_add, Bool.false_eq_true, Bool.true_eq_false, or_false, or_true, true_or, false_or, h.1.2.2.2, Nat.lt_irrefl, itn_ms]
theorem m_kindsWithChance (d : Nat) (h : CT (O 4 n) T) (hT : WT T) : ex (d + 1) 57 0 [some (vr 4 n 0)] [] O = some (nI (ms (nK T) fun k => decide (0 < ch_ T k)), O) := by
  have h6 := hT.2.2.2.1
  rw [sX4_kindsWithChance_0]
  refine (lp_n (fun k a => ex (d + 1) 57 4 [some (vr 4 n 0), some (vi (nI a)), some (vi (nI k))] [] O) (fun k a => if decide (0 < ch_ T k) = true then a ||| 2 ^ k else a) (nK T) (fun k a hk => ?_) 0).trans ?_
  · have := (hT.2.2.2.2.2.2.2.1 k).2.2
    refine (sX4_kindsWithChance_4 ..).trans ?_
    simp (disch := omega) only [nI_ltI, nI_eq, nI_add, nI_clamp, ib_n, pk_mul, q_and, q_or, q_dn, q_shl, q_shlm, q_p1, if_true, if_false, ↓reduceIte, Option.bind_some, bI_0, bI_1, bI_01, b_or, Nat.not_lt_zero, Nat.zero_add, Bool.false_eq_true, Bool.true_eq_false, or_false, or_true, true_or, false_or, h.1.2.2.2, (h.2.2.2.2 k hk).2.2.2.2.1, hk, decide_eq_true_eq]
    split <;> rfl
  · refine (sX4_kindsWithChance_4 ..).trans ?_
    simp (disch := omega) only [nI_ltI, nI_eq, nI_add, nI_clamp, ib_n, pk_mul, q_and, q_or, q_dn, q_shl, q_shlm, q_p1, if_true, if_false, ↓reduceIte, Option.bind_some, bI_0, bI_1, bI_01, b_or, Nat.not_lt_zero, Nat.zero_add, Bool.false_eq_true, Bool.true_eq_false, or_false, or_true, true_or, false_or, h.1.2.2.2, Nat.lt_irrefl, itn_ms]
theorem m_chances (d : Nat) {K : Nat} (hK : K < 2 ^ 31) (h : CT (O 4 n) T) (hT : WT T) : ex (d + 2) 58 0 [some (vr 4 n 0), some (vi (nI K))] [] O = some (nI (chc T K), O) := by
  have h6 := hT.2.2.2.1
  rw [sX4_chances_0]
  refine (lp_n (fun k a => ex (d + 2) 58 4 [some (vr 4 n 0), some (vi (nI K)), some (vi (nI a)), some (vi (nI k))] [] O) (fun k a => a + (if K.testBit k = true then ch_ T k else 0)) (nK T) (fun k a hk => ?_) 0).trans ?_
  · refine (sX4_chances_4 ..).trans ?_
    simp (disch := omega) only [nI_ltI, nI_eq, nI_add, nI_clamp, ib_n, pk_mul, q_and, q_or, q_dn, q_shl, q_shlm, q_p1, if_true, if_false, ↓reduceIte, Option.bind_some, bI_0, bI_1, bI_01, b_or, Nat.not_lt_zero, Nat.zero_add, Bool.false_eq_true, Bool.true_eq_false, or_false, or_true, true_or, false_or, h.1.2.2.2, (h.2.2.2.2 k hk).2.2.2.2.1, m_isIn, hk]
    cases K.testBit k <;> simp
  · refine (sX4_chances_4 ..).trans ?_
    simp (disch := omega) only [nI_ltI, nI_eq, nI_add, nI_clamp, ib_n, pk_mul, q_and, q_or, q_dn, q_shl, q_shlm, q_p1, if_true, if_false, ↓reduceIte, Option.bind_some, bI_0, bI_1, bI_01, b_or, Nat.not_lt_zero, Nat.zero_add, Bool.false_eq_true, Bool.true_eq_false, or_false, or_true, true_or, false_or, h.1.2.2.2, Nat.lt_irrefl, itn_sm]
    rfl
theorem m_fearedBy (d : Nat) {K : Nat} (hK : K < 2 ^ 31) (h : CT (O 4 n) T) (hT : WT T) : ex (d + 2) 59 0 [some (vr 4 n 0), some (vi (nI K))] [] O = some (nI (frd T K), O) := by
  have h6 := hT.2.2.2.1
  have h8 := hT.1
  rw [sX4_fearedBy_0]
  refine Exists.elim (lp_i (fun k a => ex (d + 2) 59 4 [some (vr 4 n 0), some (vi (nI K)), some (vi (nI a)), some (vi (nI k))] [] O) (fun k a => a < 2 ^ nT T ∧ ∀ t, t < nT T → a.testBit t = (List.range k).any fun k => K.testBit k && fe_ T k == some t) (nK T) ?_ 0 ⟨Nat.two_pow_pos _, fun t _ => by simp⟩) ?_
  · intro k a hk hp
    cases hf : fe_ T k with
    | none =>
      refine ⟨a, ?_, hp.1, fun t ht => ?_⟩
      · refine (sX4_fearedBy_4 ..).trans ?_
        simp (disch := omega) only [nI_ltI, nI_eq, nI_add, nI_clamp, ib_n, pk_mul, q_and, q_or, q_dn, q_shl, q_shlm, q_p1, if_true, if_false, ↓reduceIte, Option.bind_some, bI_0, bI_1, bI_01, b_or, Nat.not_lt_zero, Nat.zero_add, Bool.false_eq_true, Bool.true_eq_false, or_false, or_true, true_or, false_or, h.1.2.2.2, (h.2.2.2.2 k hk).2.2.1, m_isIn, hk, m_hasThing (h := h), hf, hsI_none]
        cases K.testBit k <;> simp
      · rw [hp.2 t ht, List.range_succ, List.any_append]
        simp [hf]
    | some u =>
      have hu := hT.2.2.2.2.2.2.2.2 k u hf
      refine ⟨if K.testBit k = true then a ||| 2 ^ u else a, ?_, ?_, fun t ht => ?_⟩
      · refine (sX4_fearedBy_4 ..).trans ?_
        simp (disch := omega) only [nI_ltI, nI_eq, nI_add, nI_clamp, ib_n, pk_mul, q_and, q_or, q_dn, q_shl, q_shlm, q_p1, if_true, if_false, ↓reduceIte, Option.bind_some, bI_0, bI_1, bI_01, b_or, Nat.not_lt_zero, Nat.zero_add, Bool.false_eq_true, Bool.true_eq_false, or_false, or_true, true_or, false_or, h.1.2.2.2, (h.2.2.2.2 k hk).2.2.1, m_isIn, hk, m_hasThing (h := h), hf, oI, hsI_n, hu, decide_true]
        cases K.testBit k <;> simp
      · split
        · exact Nat.or_lt_two_pow hp.1 (Nat.pow_lt_pow_right (by decide) hu)
        · exact hp.1
      · rw [List.range_succ, List.any_append, ← hp.2 t ht]
        simp only [List.any_cons, List.any_nil, Bool.or_false, hf]
        cases K.testBit k
        · simp
        · by_cases hut : u = t
          · subst hut; simp
          · simp [Nat.testBit_two_pow_of_ne hut, hut]
  · rintro a ⟨e, ha, hb⟩
    refine e.trans ?_
    refine (sX4_fearedBy_4 ..).trans ?_
    simp (disch := omega) only [nI_ltI, nI_eq, nI_add, nI_clamp, ib_n, pk_mul, q_and, q_or, q_dn, q_shl, q_shlm, q_p1, if_true, if_false, ↓reduceIte, Option.bind_some, bI_0, bI_1, bI_01, b_or, Nat.not_lt_zero, Nat.zero_add, Bool.false_eq_true, Bool.true_eq_false, or_false, or_true, true_or, false_or, h.1.2.2.2, Nat.lt_irrefl]
    unfold frd
    rw [ms_eq ha hb]
end
end
end
section
/-! THE CLASS'S MINDS. -/
section
variable {T : Td_} {O : Mem_} {n i : Nat}
/-- a kind's cells -/
def KM (R : Nat → Nat → Int32) (k : Nat) (μ : Mi_) : Prop := (∀ s, s < 4 → R 2 (k * 4 + s) = oI (μ.1 s) ∧ R 3 (k * 4 + s) = nI (μ.2.1 s)) ∧ R 4 k = oI μ.2.2.1 ∧ R 5 k = oI μ.2.2.2
/-- R' is R but for a kind's cells -/
def KX (k : Nat) (R R' : Nat → Nat → Int32) : Prop := ∀ p q, ¬ (p = 2 ∧ k * 4 ≤ q ∧ q < k * 4 + 4) → ¬ (p = 3 ∧ k * 4 ≤ q ∧ q < k * 4 + 4) → ¬ (p = 4 ∧ q = k) → ¬ (p = 5 ∧ q = k) → R' p q = R p q
theorem KX.km {k k' : Nat} {R R' : Nat → Nat → Int32} {μ : Mi_} (h : KX k R R') (hk : k' ≠ k) (hm : KM R k' μ) : KM R' k' μ := by
  refine ⟨fun s hs => ?_, ?_, ?_⟩
  · rw [h 2 _ (by omega) (by omega) (by omega) (by omega), h 3 _ (by omega) (by omega) (by omega) (by omega)]
    exact hm.1 s hs
  · rw [h 4 _ (by omega) (by omega) (by omega) (by omega)]; exact hm.2.1
  · rw [h 5 _ (by omega) (by omega) (by omega) (by omega)]; exact hm.2.2
/-- a mind of meanings that are told -/
def WMi (T : Td_) (μ : Mi_) : Prop := (∀ s m, μ.1 s = some m → m < nM T) ∧ (∀ s, μ.2.1 s < 2) ∧ (∀ m, μ.2.2.1 = some m → m < nM T) ∧ ∀ j, μ.2.2.2 = some j → j < 1000
theorem plainest_lt {b m : Nat} (h : plainest T b = some m) : m < nM T ∧ b.testBit m = true := ⟨mem_fpl (List.mem_of_find?_eq_some h), List.find?_some (p := fun m => b.testBit m) h⟩
theorem thk_wf {k s t : Nat} {so : Bool} {f : Nat} {μ : Mi_} (h : WMi T μ) : (∀ m, (thk T k s t so f μ).1 = some m → m < nM T) ∧ (thk T k s t so f μ).2 < 2 := by
  have hp : ∀ b m, plainest T b = some m → m < nM T := fun b m q => (plainest_lt q).1
  have hw := h.2.1 s
  unfold thk
  dsimp only
  split
  · refine ⟨fun m q => ?_, hw⟩
    dsimp only at q
    split at q
    · exact h.2.2.1 m q
    · exact hp _ _ q
  · split
    · refine ⟨fun m q => ?_, hw⟩
      dsimp only at q
      split at q
      · exact hp _ _ q
      · cases q
    · split
      · by_cases hc : ((μ.1 s).isNone || decide (2 ≤ if (μ.1 s).isSome && !inO (μ.1 s) (fitg T t so) then μ.2.1 s + 1 else μ.2.1 s)) = true
        · rw [if_pos hc]; exact ⟨hp _, Nat.zero_lt_two⟩
        · rw [if_neg hc]
          refine ⟨h.1 s, ?_⟩
          simp only [Bool.or_eq_true, decide_eq_true_eq, not_or] at hc
          exact Nat.lt_of_not_le hc.2
      · exact ⟨hp _, hw⟩
theorem see1_wf {k s t : Nat} {so : Bool} {j f : Nat} {μ : Mi_} (hj : j < 1000) (h : WMi T μ) : WMi T (see1 T k s t so j f μ) := by
  unfold see1
  split
  · exact h
  · split
    · exact ⟨fun _ _ q => absurd q (by simp), fun _ => Nat.zero_lt_two, h.2.2.1, fun q e => (by cases e; exact hj)⟩
    · obtain ⟨h1, h2⟩ := thk_wf (k := k) (s := s) (t := t) (so := so) (f := f) h
      refine ⟨fun q m e => ?_, fun q => ?_, fun m e => ?_, h.2.2.2⟩
      · simp only [look1, upF] at e
        split at e
        · exact h1 m e
        · exact h.1 q m e
      · simp only [look1, upF]
        split
        · exact h2
        · exact h.2.1 q
      · simp only [look1] at e
        cases hq : (thk T k s t so f μ).1 with
        | none => rw [hq] at e; exact h.2.2.1 m e
        | some x => rw [hq] at e; cases e; exact h1 _ hq
theorem o31 {o : Option Nat} {N : Nat} (hN : N ≤ 31) (h : ∀ m, o = some m → m < N) : ∀ m, o = some m → m < 31 := fun m e => Nat.lt_of_lt_of_le (h m e) hN
theorem oBig {o : Option Nat} {N : Nat} (hN : N ≤ 2 ^ 31) (h : ∀ m, o = some m → m < N) : ∀ m, o = some m → m < 2 ^ 31 := fun m e => Nat.lt_of_lt_of_le (h m e) hN
theorem m_thoughtOf (d : Nat) {k s : Nat} {μ : Mi_} (hk : k < 6) (hs : s < 4) (h : KM (O 0 i) k μ) : ex (d + 1) 7 0 [some (vr 0 i 0), some (vi (nI k)), some (vi (nI s))] [] O = some (oI (μ.1 s), O) := by
  rw [sX0_thoughtOf_0]
  simp (disch := omega) only [nI_ltI, nI_eq, nI_add, nI_clamp, ib_n, pk_mul, q_and, q_or, q_dn, q_shl, q_shlm, q_p1, if_true, if_false, ↓reduceIte, Option.bind_some, bI_0, bI_1, bI_01, b_or, Nat.not_lt_zero, Nat.zero_add, Bool.false_eq_true, Bool.true_eq_false, or_false, or_true, true_or, false_or, (h.1 s hs).1]
  rw [if_pos (by omega)]
theorem m_choices (d : Nat) {k s f : Nat} {μ : Mi_} (hk : k < nK T) (hs : s < nS T) (hf : f < 4096) (hF : O 0 i 6 s = nI f) (h : CT (O 4 n) T) (hT : WT T) (hm : KM (O 0 i) k μ) (hw : WMi T μ) : ex (d + 2) 6 0 [some (vr 0 i 0), some (vr 4 n 0), some (vi (nI k)), some (vi (nI s))] [] O = some (nI (chs T f k s μ.1), O) := by
  have h6 := hT.2.2.2.1
  have h4 := hT.2.2.1
  have h12 := hT.2.1
  have hc := can_lt hT k
  have hfc : f &&& can T k < 4096 := Nat.lt_of_le_of_lt Nat.and_le_left hf
  rw [sX0_choices_0]
  simp (disch := omega) only [nI_ltI, nI_eq, nI_add, nI_clamp, ib_n, pk_mul, q_and, q_or, q_dn, q_shl, q_shlm, q_p1, if_true, if_false, ↓reduceIte, Option.bind_some, bI_0, bI_1, bI_01, b_or, Nat.not_lt_zero, Nat.zero_add, Bool.false_eq_true, Bool.true_eq_false, or_false, or_true, true_or, false_or, hF, (h.2.2.2.2 k hk).2.2.2.2.2]
  cases hu : ul_ T k with
  | false =>
    refine (sX0_choices_18 ..).trans ?_
    simp (disch := omega) only [nI_ltI, nI_eq, nI_add, nI_clamp, ib_n, pk_mul, q_and, q_or, q_dn, q_shl, q_shlm, q_p1, if_true, if_false, ↓reduceIte, Option.bind_some, bI_0, bI_1, bI_01, b_or, Nat.not_lt_zero, Nat.zero_add, Bool.false_eq_true, Bool.true_eq_false, or_false, or_true, true_or, false_or, h.1.2.2.1, (h.2.2.2.2 k hk).2.2.2.1, hu]
    have e : f &&& can T k = chs T f k s μ.1 := ms_eq (n := 12) hfc (fun m _ => by rw [Nat.testBit_and, taken, hu]; simp)
    rw [← e]
    simp only [ite_self]
  | true =>
    refine Exists.elim (lp_i (fun q a => ex (d + 2) 6 18 [some (vr 0 i 0), some (vr 4 n 0), some (vi (nI k)), some (vi (nI s)), some (vi (nI a)), some (vi (nI q))] [] O) (fun q a => a < 4096 ∧ ∀ m, m < 12 → a.testBit m = ((f.testBit m && (can T k).testBit m) && !(List.range q).any fun q => q != s && μ.1 q == some m)) (nS T) ?_ (f &&& can T k) ⟨hfc, fun m _ => by rw [Nat.testBit_and]; simp⟩) ?_
    · intro q a hq ha
      have hth := m_thoughtOf (O := O) (i := i) d (k := k) (s := q) (μ := μ) (by omega) (by omega) hm
      by_cases hqs : q = s
      · subst hqs
        refine ⟨a, ?_, ha.1, fun m hm => ?_⟩
        · refine (sX0_choices_18 ..).trans ?_
          simp (disch := omega) only [nI_ltI, nI_eq, nI_add, nI_clamp, ib_n, pk_mul, q_and, q_or, q_dn, q_shl, q_shlm, q_p1, if_true, if_false, ↓reduceIte, Option.bind_some, bI_0, bI_1, bI_01, b_or, Nat.not_lt_zero, Nat.zero_add, Bool.false_eq_true, Bool.true_eq_false, or_false, or_true, true_or, false_or, h.1.2.2.1, (h.2.2.2.2 k hk).2.2.2.1, hu, hq, hth]
        · rw [ha.2 m hm, List.range_succ, List.any_append]
          simp
      · cases ht : μ.1 q with
        | none =>
          refine ⟨a, ?_, ha.1, fun m hm => ?_⟩
          · refine (sX0_choices_18 ..).trans ?_
            simp (disch := omega) only [nI_ltI, nI_eq, nI_add, nI_clamp, ib_n, pk_mul, q_and, q_or, q_dn, q_shl, q_shlm, q_p1, if_true, if_false, ↓reduceIte, Option.bind_some, bI_0, bI_1, bI_01, b_or, Nat.not_lt_zero, Nat.zero_add, Bool.false_eq_true, Bool.true_eq_false, or_false, or_true, true_or, false_or, h.1.2.2.1, (h.2.2.2.2 k hk).2.2.2.1, hu, hq, hth, hqs, ht]
          · rw [ha.2 m hm, List.range_succ, List.any_append]
            simp [ht]
        | some x =>
          have hx := hw.1 q x ht
          refine ⟨dn a (2 ^ x), ?_, Nat.lt_of_le_of_lt (dn_le _ _) ha.1, fun m hm => ?_⟩
          · refine (sX0_choices_18 ..).trans ?_
            have hn := oI_none (j := x) (by omega)
            simp (disch := omega) only [nI_ltI, nI_eq, nI_add, nI_clamp, ib_n, pk_mul, q_and, q_or, q_dn, q_shl, q_shlm, q_p1, if_true, if_false, ↓reduceIte, Option.bind_some, bI_0, bI_1, bI_01, b_or, Nat.not_lt_zero, Nat.zero_add, Bool.false_eq_true, Bool.true_eq_false, or_false, or_true, true_or, false_or, h.1.2.2.1, (h.2.2.2.2 k hk).2.2.2.1, hu, hq, hth, hqs, ht]
            simp only [oI] at hn ⊢
            simp (disch := omega) only [nI_ltI, nI_eq, nI_add, nI_clamp, ib_n, pk_mul, q_and, q_or, q_dn, q_shl, q_shlm, q_p1, if_true, if_false, ↓reduceIte, Option.bind_some, bI_0, bI_1, bI_01, b_or, Nat.not_lt_zero, Nat.zero_add, Bool.false_eq_true, Bool.true_eq_false, or_false, or_true, true_or, false_or, hn]
          · rw [dn_bit, ha.2 m hm, List.range_succ, List.any_append]
            by_cases hxm : x = m
            · subst hxm; simp [ht, hqs]
            · have hb2 : (x == m) = false := beq_false_of_ne hxm
              simp [ht, Nat.testBit_two_pow_of_ne hxm, hb2]
    · rintro a ⟨e, ha, hb⟩
      refine e.trans ?_
      refine (sX0_choices_18 ..).trans ?_
      simp (disch := omega) only [nI_ltI, nI_eq, nI_add, nI_clamp, ib_n, pk_mul, q_and, q_or, q_dn, q_shl, q_shlm, q_p1, if_true, if_false, ↓reduceIte, Option.bind_some, bI_0, bI_1, bI_01, b_or, Nat.not_lt_zero, Nat.zero_add, Bool.false_eq_true, Bool.true_eq_false, or_false, or_true, true_or, false_or, h.1.2.2.1, Nat.lt_irrefl]
      have e2 : a = chs T f k s μ.1 := ms_eq (n := 12) ha (fun m hm => by rw [hb m hm, taken, hu, Bool.true_and])
      rw [e2]
theorem m_isSame (d : Nat) {k s : Nat} {M : Md_} (hk : k < nK T) (hs : s < nS T) (h : CT (O 4 n) T) (hT : WT T) (hm : KM (O 0 i) k (M.2 k)) (hw : WMi T (M.2 k)) : ex (d + 3) 8 0 [some (vr 0 i 0), some (vr 4 n 0), some (vi (nI k)), some (vi (nI s))] [] O = some (bI (sam T M k s), O) := by
  have h6 := hT.2.2.2.1
  have h4 := hT.2.2.1
  have h12 := hT.2.1
  have := tgL_lt hT s
  rw [sX0_isSame_0, m_thoughtOf (d + 1) (by omega) (by omega) hm]
  simp only [Option.bind_some]
  rw [m_likeTarget _ hs h hT]
  simp only [Option.bind_some]
  rw [m_isInO _ _ (o31 (by omega) (hw.1 s)) (by omega)]
  simp (disch := omega) only [nI_ltI, nI_eq, nI_add, nI_clamp, ib_n, pk_mul, q_and, q_or, q_dn, q_shl, q_shlm, q_p1, if_true, if_false, ↓reduceIte, Option.bind_some, bI_0, bI_1, bI_01, b_or, Nat.not_lt_zero, Nat.zero_add, Bool.false_eq_true, Bool.true_eq_false, or_false, or_true, true_or, false_or]
  rfl
theorem m_isSameForAll (d : Nat) {K s : Nat} {M : Md_} (hK : K < 2 ^ 31) (hs : s < nS T) (h : CT (O 4 n) T) (hT : WT T) (hm : ∀ k, k < nK T → K.testBit k = true → KM (O 0 i) k (M.2 k)) (hw : ∀ k, WMi T (M.2 k)) : ex (d + 4) 9 0 [some (vr 0 i 0), some (vr 4 n 0), some (vi (nI K)), some (vi (nI s))] [] O = some (bI (samA T M K s), O) := by
  have h6 := hT.2.2.2.1
  rw [sX0_isSameForAll_0]
  refine (lp_f (fun k => ex (d + 4) 9 3 [some (vr 0 i 0), some (vr 4 n 0), some (vi (nI K)), some (vi (nI s)), some (vi (nI k))] [] O) (fun k => K.testBit k && !sam T M k s) (fun _ => some (nI 0, O)) (nK T) (fun k hk => ?_)).trans ?_
  · refine (sX0_isSameForAll_3 ..).trans ?_
    simp (disch := omega) only [nI_ltI, nI_eq, nI_add, nI_clamp, ib_n, pk_mul, q_and, q_or, q_dn, q_shl, q_shlm, q_p1, if_true, if_false, ↓reduceIte, Option.bind_some, bI_0, bI_1, bI_01, b_or, Nat.not_lt_zero, Nat.zero_add, Bool.false_eq_true, Bool.true_eq_false, or_false, or_true, true_or, false_or, h.1.2.2.2, m_isIn, hk]
    cases hb : K.testBit k with
    | false => simp
    | true =>
      simp (disch := omega) only [nI_ltI, nI_eq, nI_add, nI_clamp, ib_n, pk_mul, q_and, q_or, q_dn, q_shl, q_shlm, q_p1, if_true, if_false, ↓reduceIte, Option.bind_some, bI_0, bI_1, bI_01, b_or, Nat.not_lt_zero, Nat.zero_add, Bool.false_eq_true, Bool.true_eq_false, or_false, or_true, true_or, false_or, m_isSame (d := d) hk hs h hT (hm k hk hb) (hw k)]
      cases sam T M k s <;> simp
  · unfold samA
    cases hf : (List.range (nK T)).find? (fun k => K.testBit k && !sam T M k s) with
    | none =>
      refine (sX0_isSameForAll_3 ..).trans ?_
      simp (disch := omega) only [nI_ltI, nI_eq, nI_add, nI_clamp, ib_n, pk_mul, q_and, q_or, q_dn, q_shl, q_shlm, q_p1, if_true, if_false, ↓reduceIte, Option.bind_some, bI_0, bI_1, bI_01, b_or, Nat.not_lt_zero, Nat.zero_add, Bool.false_eq_true, Bool.true_eq_false, or_false, or_true, true_or, false_or, h.1.2.2.2, Nat.lt_irrefl]
      rw [List.find?_eq_none] at hf
      rw [List.all_eq_true.mpr]
      · rfl
      · intro k hk
        have := hf k hk
        cases hb : K.testBit k <;> cases hc : sam T M k s <;> simp_all
    | some k =>
      have h1 := List.find?_some hf
      have h2 := List.mem_of_find?_eq_some hf
      have : ((List.range (nK T)).all fun k => !K.testBit k || sam T M k s) = false := by
        rw [List.all_eq_false]
        refine ⟨k, h2, ?_⟩
        simp only [Bool.and_eq_true, Bool.not_eq_true'] at h1
        simp [h1.1, h1.2]
      rw [this]; rfl
theorem m_chanceOfSame (d : Nat) {s : Nat} {M : Md_} (hs : s < nS T) (h : CT (O 4 n) T) (hT : WT T) (hm : ∀ k, k < nK T → KM (O 0 i) k (M.2 k)) (hw : ∀ k, WMi T (M.2 k)) : ex (d + 4) 10 0 [some (vr 0 i 0), some (vr 4 n 0), some (vi (nI s))] [] O = some (nI (sm (nK T) fun k => if sam T M k s then ch_ T k else 0), O) := by
  have h6 := hT.2.2.2.1
  rw [sX0_chanceOfSame_0]
  refine (lp_n (fun k a => ex (d + 4) 10 5 [some (vr 0 i 0), some (vr 4 n 0), some (vi (nI s)), some (vi (nI a)), some (vi (nI k))] [] O) (fun k a => a + (if sam T M k s then ch_ T k else 0)) (nK T) (fun k a hk => ?_) 0).trans ?_
  · refine (sX0_chanceOfSame_5 ..).trans ?_
    simp (disch := omega) only [nI_ltI, nI_eq, nI_add, nI_clamp, ib_n, pk_mul, q_and, q_or, q_dn, q_shl, q_shlm, q_p1, if_true, if_false, ↓reduceIte, Option.bind_some, bI_0, bI_1, bI_01, b_or, Nat.not_lt_zero, Nat.zero_add, Bool.false_eq_true, Bool.true_eq_false, or_false, or_true, true_or, false_or, h.1.2.2.2, (h.2.2.2.2 k hk).2.2.2.2.1, m_isSame (d := d) hk hs h hT (hm k hk) (hw k), hk]
    cases sam T M k s <;> simp
  · refine (sX0_chanceOfSame_5 ..).trans ?_
    simp (disch := omega) only [nI_ltI, nI_eq, nI_add, nI_clamp, ib_n, pk_mul, q_and, q_or, q_dn, q_shl, q_shlm, q_p1, if_true, if_false, ↓reduceIte, Option.bind_some, bI_0, bI_1, bI_01, b_or, Nat.not_lt_zero, Nat.zero_add, Bool.false_eq_true, Bool.true_eq_false, or_false, or_true, true_or, false_or, h.1.2.2.2, Nat.lt_irrefl, itn_sm]
theorem m_answerOf (d : Nat) {k s t : Nat} {M : Md_} (hk : k < nK T) (hs : s < nS T) (ht : t < 31) (h : CT (O 4 n) T) (hT : WT T) (hm : KM (O 0 i) k (M.2 k)) (hw : WMi T (M.2 k)) : ex (d + 2) 11 0 [some (vr 0 i 0), some (vr 4 n 0), some (vi (nI k)), some (vi (nI s)), some (vi (nI t))] [] O = some (oI (ans T M k s t), O) := by
  have h6 := hT.2.2.2.1
  have h4 := hT.2.2.1
  have h12 := hT.2.1
  rw [sX0_answerOf_0, m_thoughtOf d (by omega) (by omega) hm]
  simp only [Option.bind_some]
  cases e : (M.2 k).1 s with
  | none =>
    simp (disch := omega) only [nI_ltI, nI_eq, nI_add, nI_clamp, ib_n, pk_mul, q_and, q_or, q_dn, q_shl, q_shlm, q_p1, if_true, if_false, ↓reduceIte, Option.bind_some, bI_0, bI_1, bI_01, b_or, Nat.not_lt_zero, Nat.zero_add, Bool.false_eq_true, Bool.true_eq_false, or_false, or_true, true_or, false_or, m_hasMeaning (h := h), hsI_none]
    simp [ans, e]
  | some m =>
    have hmm := hw.1 s m e
    have := are_lt hT m
    simp only [oI]
    simp (disch := omega) only [nI_ltI, nI_eq, nI_add, nI_clamp, ib_n, pk_mul, q_and, q_or, q_dn, q_shl, q_shlm, q_p1, if_true, if_false, ↓reduceIte, Option.bind_some, bI_0, bI_1, bI_01, b_or, Nat.not_lt_zero, Nat.zero_add, Bool.false_eq_true, Bool.true_eq_false, or_false, or_true, true_or, false_or, m_hasMeaning (h := h), hsI_n, hmm, decide_true, (h.2.2.1 m hmm).2.2.2.1, m_isIn]
    simp only [ans, e, Option.map_some, oI]
    cases (are T m).testBit t <;> simp
theorem oI_ans {k s t : Nat} {M : Md_} {a : Option Nat} (ha : ∀ j, a = some j → j < 2) : oI (ans T M k s t) = oI a ↔ ans T M k s t = a := by
  refine oI_inj (fun j e => ?_) (fun j e => by have := ha j e; omega)
  unfold ans at e
  cases q : (M.2 k).1 s with
  | none => rw [q] at e; cases e
  | some m =>
    rw [q] at e
    have e : ((are T m).testBit t).toNat = j := Option.some.inj e
    have : ((are T m).testBit t).toNat < 2 := by cases (are T m).testBit t <;> decide
    omega
theorem m_kindsThatAnswer (d : Nat) {s t : Nat} {a : Option Nat} {M : Md_} (ha : ∀ j, a = some j → j < 2) (hs : s < nS T) (ht : t < 31) (h : CT (O 4 n) T) (hT : WT T) (hm : ∀ k, k < nK T → KM (O 0 i) k (M.2 k)) (hw : ∀ k, WMi T (M.2 k)) : ex (d + 3) 12 0 [some (vr 0 i 0), some (vr 4 n 0), some (vi (nI s)), some (vi (nI t)), some (vi (oI a))] [] O = some (nI (who T M s t a), O) := by
  have h6 := hT.2.2.2.1
  rw [sX0_kindsThatAnswer_0]
  refine (lp_n (fun k x => ex (d + 3) 12 6 [some (vr 0 i 0), some (vr 4 n 0), some (vi (nI s)), some (vi (nI t)), some (vi (oI a)), some (vi (nI x)), some (vi (nI k))] [] O) (fun k x => if (ans T M k s t == a) = true then x ||| 2 ^ k else x) (nK T) (fun k x hk => ?_) 0).trans ?_
  · refine (sX0_kindsThatAnswer_6 ..).trans ?_
    simp (disch := omega) only [nI_ltI, nI_eq, nI_add, nI_clamp, ib_n, pk_mul, q_and, q_or, q_dn, q_shl, q_shlm, q_p1, if_true, if_false, ↓reduceIte, Option.bind_some, bI_0, bI_1, bI_01, b_or, Nat.not_lt_zero, Nat.zero_add, Bool.false_eq_true, Bool.true_eq_false, or_false, or_true, true_or, false_or, h.1.2.2.2, m_answerOf (d := d) hk hs ht h hT (hm k hk) (hw k), hk, oI_ans ha, beq_iff_eq]
    split <;> rfl
  · refine (sX0_kindsThatAnswer_6 ..).trans ?_
    simp (disch := omega) only [nI_ltI, nI_eq, nI_add, nI_clamp, ib_n, pk_mul, q_and, q_or, q_dn, q_shl, q_shlm, q_p1, if_true, if_false, ↓reduceIte, Option.bind_some, bI_0, bI_1, bI_01, b_or, Nat.not_lt_zero, Nat.zero_add, Bool.false_eq_true, Bool.true_eq_false, or_false, or_true, true_or, false_or, h.1.2.2.2, Nat.lt_irrefl, itn_ms]
    rfl

/-- the tail of look -/
theorem m_look196 (d : Nat) {k j : Nat} {th th0 la0 : Option Nat} {w w0 : Nat} (hk : k < 6) (hj : j < 24) (b1 : ∀ m, th = some m → m < 2 ^ 31) (b2 : ∀ m, th0 = some m → m < 2 ^ 31) (b3 : ∀ m, la0 = some m → m < 2 ^ 31) (b4 : w < 2 ^ 31) (b5 : w0 < 2 ^ 31) (h1 : O 0 i 2 j = oI th) (h2 : O 0 i 3 j = nI w) (h3 : O 0 i 4 k = oI la0) : ex (d + 1) 4 196 [some (vr 0 i 0), none, some (vi (nI k)), none, none, none, some (vi (nI j)), some (vi (oI th0)), some (vi (nI w0)), some (vi (oI la0))] [] O = some (bI (!(decide (th = th0) && decide (w = w0) && decide ((th <|> la0) = la0))), up O 0 i 4 k (oI (th <|> la0))) := by
  have key : ∀ (O : Mem_) (la : Option Nat), O 0 i 2 j = oI th → O 0 i 3 j = nI w → O 0 i 4 k = oI la → (∀ m, la = some m → m < 2 ^ 31) → ex (d + 1) 4 221 [some (vr 0 i 0), none, some (vi (nI k)), none, none, none, some (vi (nI j)), some (vi (oI th0)), some (vi (nI w0)), some (vi (oI la0))] [] O = some (bI (!(decide (th = th0) && decide (w = w0) && decide (la = la0))), O) := by
    intro O la h1 h2 h3 b6
    rw [sX0_look_221]
    simp (disch := omega) only [nI_ltI, nI_eq, nI_add, nI_clamp, ib_n, pk_mul, q_and, q_or, q_dn, q_shl, q_shlm, q_p1, if_true, if_false, ↓reduceIte, Option.bind_some, bI_0, bI_1, bI_01, b_or, Nat.not_lt_zero, Nat.zero_add, Bool.false_eq_true, Bool.true_eq_false, or_false, or_true, true_or, false_or, h1, h2, h3, oI_inj b1 b2, oI_inj b6 b3]
    by_cases c1 : th = th0 <;> by_cases c2 : w = w0 <;> by_cases c3 : la = la0 <;> simp [c1, c2, c3, bI]
  rw [sX0_look_196]
  simp (disch := omega) only [nI_ltI, nI_eq, nI_add, nI_clamp, ib_n, pk_mul, q_and, q_or, q_dn, q_shl, q_shlm, q_p1, if_true, if_false, ↓reduceIte, Option.bind_some, bI_0, bI_1, bI_01, b_or, Nat.not_lt_zero, Nat.zero_add, Bool.false_eq_true, Bool.true_eq_false, or_false, or_true, true_or, false_or, h1, h3]
  cases th with
  | none =>
    rw [if_pos rfl, key O la0 h1 h2 h3 b3, up_same (by rw [h3]; rfl)]
    rfl
  | some x =>
    rw [if_neg (oI_sn (b1 x rfl)), key _ (some x) (by rw [up_self, if_neg (by omega), h1]) (by rw [up_self, if_neg (by omega), h2]) (by rw [up_eq]) b1]
    rfl
theorem m_holdOrTurn (d : Nat) {j w : Nat} {th p : Option Nat} {b : Bool} (hj : j < 24) (b1 : ∀ m, th = some m → m < 2 ^ 31) (hw : w < 2) (h1 : O 0 i 2 j = oI th) (h2 : O 0 i 3 j = nI w) : ex (d + 1) 5 0 [some (vr 0 i 0), some (vi (nI j)), some (vi (oI p)), some (vi (bI b))] [] O = some (nI 0, (let w' := if th.isSome && !b then w + 1 else w; if th.isNone || decide (2 ≤ w') then up (up O 0 i 2 j (oI p)) 0 i 3 j (nI 0) else up O 0 i 3 j (nI w'))) := by
  have k37 : ∀ (O : Mem_) (y w : Nat), w < 4 → y < 2 → O 0 i 3 j = nI w → ex (d + 1) 5 37 [some (vr 0 i 0), some (vi (nI j)), some (vi (oI p)), none, some (vi (nI y))] [] O = some (nI 0, if y = 0 ∨ 2 ≤ w then up (up O 0 i 2 j (oI p)) 0 i 3 j (nI 0) else O) := by
    intro O y w hw hy h2
    rw [sX0_holdOrTurn_37]
    simp (disch := omega) only [nI_ltI, nI_eq, nI_add, nI_clamp, ib_n, pk_mul, q_and, q_or, q_dn, q_shl, q_shlm, q_p1, if_true, if_false, ↓reduceIte, Option.bind_some, bI_0, bI_1, bI_01, b_or, Nat.not_lt_zero, Nat.zero_add, Bool.false_eq_true, Bool.true_eq_false, or_false, or_true, true_or, false_or, h2, sX0_holdOrTurn_52]
    by_cases hy0 : y = 0
    · simp [hy0]
    · by_cases hw2 : w < 2
      · simp [hy0, hw2, Nat.not_le.mpr hw2]
      · simp [hy0, hw2, Nat.not_lt.mp hw2]
  rw [sX0_holdOrTurn_0]
  simp (disch := omega) only [nI_ltI, nI_eq, nI_add, nI_clamp, ib_n, pk_mul, q_and, q_or, q_dn, q_shl, q_shlm, q_p1, if_true, if_false, ↓reduceIte, Option.bind_some, bI_0, bI_1, bI_01, b_or, Nat.not_lt_zero, Nat.zero_add, Bool.false_eq_true, Bool.true_eq_false, or_false, or_true, true_or, false_or, h1]
  cases th with
  | none =>
    rw [if_pos rfl, sX0_holdOrTurn_16, if_pos rfl]
    rw [k37 O 0 w (by omega) (by decide) h2]
    simp
  | some x =>
    rw [if_neg (oI_sn (b1 x rfl)), sX0_holdOrTurn_16, if_neg (by decide)]
    cases b with
    | false =>
      simp (disch := omega) only [nI_ltI, nI_eq, nI_add, nI_clamp, ib_n, pk_mul, q_and, q_or, q_dn, q_shl, q_shlm, q_p1, if_true, if_false, ↓reduceIte, Option.bind_some, bI_0, bI_1, bI_01, b_or, Nat.not_lt_zero, Nat.zero_add, Bool.false_eq_true, Bool.true_eq_false, or_false, or_true, true_or, false_or, h2]
      rw [k37 _ 1 (w + 1) (by omega) (by decide) (by rw [up_eq])]
      by_cases hw2 : 2 ≤ w + 1
      · simp only [Option.isSome_some, Bool.not_false, Bool.and_true, Option.isNone_some, Bool.false_or, if_true, hw2, or_true, decide_true]
        rw [up_comm _ _ _ (by omega), up_up, up_comm _ _ _ (by omega)]
      · simp [hw2]
    | true =>
      simp only [bI_0, Bool.true_eq_false, if_false]
      rw [k37 _ 1 w (by omega) (by decide) h2]
      have hw2 : ¬ 2 ≤ w := by omega
      simp [hw2, up_same h2]
theorem thk_0 {k s t f : Nat} {so : Bool} {μ : Mi_} (e : so_ T k = 0) : thk T k s t so f μ = (plainest T (chs T f k s μ.1), μ.2.1 s) := by simp [thk, e]
theorem thk_1 {k s t f : Nat} {so : Bool} {μ : Mi_} (e : so_ T k = 1) : thk T k s t so f μ = (if inO μ.2.2.1 (chs T f k s μ.1) then μ.2.2.1 else plainest T (chs T f k s μ.1), μ.2.1 s) := by simp [thk, e]
theorem thk_2 {k s t f : Nat} {so : Bool} {μ : Mi_} (e : so_ T k = 2) : thk T k s t so f μ = (if (plainest T (chs T f k s μ.1)).any (fun m => dn (chs T f k s μ.1) (alike T m) == 0) then plainest T (chs T f k s μ.1) else none, μ.2.1 s) := by simp [thk, e]
theorem thk_3 {k s t f : Nat} {so : Bool} {μ : Mi_} (e : so_ T k = 3) : thk T k s t so f μ = (let w := if (μ.1 s).isSome && !inO (μ.1 s) (fitg T t so) then μ.2.1 s + 1 else μ.2.1 s; if (μ.1 s).isNone || decide (2 ≤ w) then (plainest T (chs T f k s μ.1), 0) else (μ.1 s, w)) := by simp [thk, e]
theorem m_look (d : Nat) {k s t f : Nat} {so : Bool} {μ : Mi_} (hk : k < nK T) (hs : s < nS T) (ht : t < nT T) (hf : f < 4096) (hF : O 0 i 6 s = nI f) (h : CT (O 4 n) T) (hT : WT T) (hm : KM (O 0 i) k μ) (hw : WMi T μ) : ∃ c, (c = false → look1 T k s t so f μ = μ) ∧ ex (d + 3) 4 0 [some (vr 0 i 0), some (vr 4 n 0), some (vi (nI k)), some (vi (nI s)), some (vi (nI t)), some (vi (bI so))] [] O = some (bI c, up (up (up O 0 i 2 (k * 4 + s) (oI (thk T k s t so f μ).1)) 0 i 3 (k * 4 + s) (nI (thk T k s t so f μ).2)) 0 i 4 k (oI ((thk T k s t so f μ).1 <|> μ.2.2.1))) := by
  have h6 := hT.2.2.2.1
  have h4 := hT.2.2.1
  have h12 := hT.2.1
  have hso := (hT.2.2.2.2.2.2.2.1 k).1
  have hfg := fitg_lt hT t so
  have hch : chs T f k s μ.1 < 4096 := ms_lt _ 12
  obtain ⟨wf1, wf2⟩ := thk_wf (k := k) (s := s) (t := t) (so := so) (f := f) hw
  have hj : k * 4 + s < 24 := by omega
  have m1 := (hm.1 s (by omega)).1
  have m2 := (hm.1 s (by omega)).2
  have m3 := hm.2.1
  have wsm := hw.2.1 s
  have bp : ∀ m, plainest T (chs T f k s μ.1) = some m → m < 12 := fun m e => by have := (plainest_lt e).1; omega
  refine ⟨!(decide ((thk T k s t so f μ).1 = μ.1 s) && decide ((thk T k s t so f μ).2 = μ.2.1 s) && decide (((thk T k s t so f μ).1 <|> μ.2.2.1) = μ.2.2.1)), fun hc => ?_, ?_⟩
  · simp only [Bool.not_eq_false', Bool.and_eq_true, decide_eq_true_eq] at hc
    obtain ⟨⟨c1, c2⟩, c3⟩ := hc
    unfold look1
    rw [c3]
    refine Prod.ext ?_ (Prod.ext ?_ rfl)
    · funext q
      simp only [upF]
      split
      · rename_i e; rw [e, c1]
      · rfl
    · funext q
      simp only [upF]
      split
      · rename_i e; rw [e, c2]
      · rfl
  · rw [sX0_look_0]
    simp (disch := omega) only [nI_ltI, nI_eq, nI_add, nI_clamp, ib_n, pk_mul, q_and, q_or, q_dn, q_shl, q_shlm, q_p1, if_true, if_false, ↓reduceIte, Option.bind_some, bI_0, bI_1, bI_01, b_or, Nat.not_lt_zero, Nat.zero_add, Bool.false_eq_true, Bool.true_eq_false, or_false, or_true, true_or, false_or, m_choices (O := O) (i := i) (n := n) (d := d) hk hs hf hF h hT hm hw, m_plainest (O := O) (n := n) (h := h) (hT := hT) (d := d) (b := chs T f k s μ.1), (h.2.2.2.2 k hk).1, m1, m2, m3]
    have fin : ∀ (O1 : Mem_), O1 = up (up O 0 i 2 (k * 4 + s) (oI (thk T k s t so f μ).1)) 0 i 3 (k * 4 + s) (nI (thk T k s t so f μ).2) → ex (d + 3) 4 196 [some (vr 0 i 0), none, some (vi (nI k)), none, none, none, some (vi (nI (k * 4 + s))), some (vi (oI (μ.1 s))), some (vi (nI (μ.2.1 s))), some (vi (oI μ.2.2.1))] [] O1 = some (bI (!(decide ((thk T k s t so f μ).1 = μ.1 s) && decide ((thk T k s t so f μ).2 = μ.2.1 s) && decide (((thk T k s t so f μ).1 <|> μ.2.2.1) = μ.2.2.1))), up (up (up O 0 i 2 (k * 4 + s) (oI (thk T k s t so f μ).1)) 0 i 3 (k * 4 + s) (nI (thk T k s t so f μ).2)) 0 i 4 k (oI ((thk T k s t so f μ).1 <|> μ.2.2.1))) := by
      intro O1 e
      subst e
      exact m_look196 (d + 2) (by omega) hj (oBig (by omega) wf1) (oBig (by omega) (hw.1 s)) (oBig (by omega) hw.2.2.1) (by omega) (by omega) (by rw [up_self, if_neg (by omega), up_eq]) (by rw [up_eq]) (by rw [up_self, if_neg (by omega), up_self, if_neg (by omega), m3])
    have up3 : ∀ (v : Int32), up (up O 0 i 2 (k * 4 + s) v) 0 i 3 (k * 4 + s) (nI (μ.2.1 s)) = up O 0 i 2 (k * 4 + s) v := fun v => up_same (by rw [up_self, if_neg (by omega), m2])
    have hcase : so_ T k = 0 ∨ so_ T k = 1 ∨ so_ T k = 2 ∨ so_ T k = 3 := by omega
    rcases hcase with e | e | e | e
    · simp (disch := omega) only [nI_ltI, nI_eq, nI_add, nI_clamp, ib_n, pk_mul, q_and, q_or, q_dn, q_shl, q_shlm, q_p1, if_true, if_false, ↓reduceIte, Option.bind_some, bI_0, bI_1, bI_01, b_or, Nat.not_lt_zero, Nat.zero_add, Bool.false_eq_true, Bool.true_eq_false, or_false, or_true, true_or, false_or, e, m3]
      refine fin _ ?_
      rw [thk_0 e, up3]
    · simp (disch := omega) only [nI_ltI, nI_eq, nI_add, nI_clamp, ib_n, pk_mul, q_and, q_or, q_dn, q_shl, q_shlm, q_p1, if_true, if_false, ↓reduceIte, Option.bind_some, bI_0, bI_1, bI_01, b_or, Nat.not_lt_zero, Nat.zero_add, Bool.false_eq_true, Bool.true_eq_false, or_false, or_true, true_or, false_or, e, m3]
      rw [m_isInO _ _ (o31 (by omega) hw.2.2.1) (by omega)]
      simp (disch := omega) only [nI_ltI, nI_eq, nI_add, nI_clamp, ib_n, pk_mul, q_and, q_or, q_dn, q_shl, q_shlm, q_p1, if_true, if_false, ↓reduceIte, Option.bind_some, bI_0, bI_1, bI_01, b_or, Nat.not_lt_zero, Nat.zero_add, Bool.false_eq_true, Bool.true_eq_false, or_false, or_true, true_or, false_or]
      cases hin : inO μ.2.2.1 (chs T f k s μ.1) with
      | false =>
        simp only [if_true]
        refine fin _ ?_
        rw [thk_1 e, hin, if_neg (by decide), up3]
      | true =>
        simp (disch := omega) only [nI_ltI, nI_eq, nI_add, nI_clamp, ib_n, pk_mul, q_and, q_or, q_dn, q_shl, q_shlm, q_p1, if_true, if_false, ↓reduceIte, Option.bind_some, bI_0, bI_1, bI_01, b_or, Nat.not_lt_zero, Nat.zero_add, Bool.false_eq_true, Bool.true_eq_false, or_false, or_true, true_or, false_or]
        refine fin _ ?_
        rw [thk_1 e, hin, if_pos rfl, up3, m3]
    · simp (disch := omega) only [nI_ltI, nI_eq, nI_add, nI_clamp, ib_n, pk_mul, q_and, q_or, q_dn, q_shl, q_shlm, q_p1, if_true, if_false, ↓reduceIte, Option.bind_some, bI_0, bI_1, bI_01, b_or, Nat.not_lt_zero, Nat.zero_add, Bool.false_eq_true, Bool.true_eq_false, or_false, or_true, true_or, false_or, e, m3]
      cases hp : plainest T (chs T f k s μ.1) with
      | none =>
        simp only [if_true]
        refine fin _ ?_
        rw [thk_2 e, hp, Option.any_none, if_neg (by decide), up3]
      | some x =>
        have hx := plainest_lt hp
        have := alike_lt hT x
        have hd := dn_le (chs T f k s μ.1) (alike T x)
        rw [if_neg (oI_sn (by omega))]
        simp only [oI]
        simp (disch := omega) only [nI_ltI, nI_eq, nI_add, nI_clamp, ib_n, pk_mul, q_and, q_or, q_dn, q_shl, q_shlm, q_p1, if_true, if_false, ↓reduceIte, Option.bind_some, bI_0, bI_1, bI_01, b_or, Nat.not_lt_zero, Nat.zero_add, Bool.false_eq_true, Bool.true_eq_false, or_false, or_true, true_or, false_or, (h.2.2.1 x hx.1).2.2.2.2.1]
        by_cases hz : dn (chs T f k s μ.1) (alike T x) = 0
        · rw [if_pos hz]
          refine fin _ ?_
          rw [thk_2 e, hp, Option.any_some, if_pos (by rw [hz]; rfl), up3]; rfl
        · rw [if_neg hz]
          refine fin _ ?_
          rw [thk_2 e, hp, Option.any_some, if_neg (by simpa using hz), up3]; rfl
    · simp (disch := omega) only [nI_ltI, nI_eq, nI_add, nI_clamp, ib_n, pk_mul, q_and, q_or, q_dn, q_shl, q_shlm, q_p1, if_true, if_false, ↓reduceIte, Option.bind_some, bI_0, bI_1, bI_01, b_or, Nat.not_lt_zero, Nat.zero_add, Bool.false_eq_true, Bool.true_eq_false, or_false, or_true, true_or, false_or, e, m3]
      rw [m_fitting _ so ht h hT]
      simp (disch := omega) only [nI_ltI, nI_eq, nI_add, nI_clamp, ib_n, pk_mul, q_and, q_or, q_dn, q_shl, q_shlm, q_p1, if_true, if_false, ↓reduceIte, Option.bind_some, bI_0, bI_1, bI_01, b_or, Nat.not_lt_zero, Nat.zero_add, Bool.false_eq_true, Bool.true_eq_false, or_false, or_true, true_or, false_or, m1]
      rw [m_isInO _ _ (o31 (by omega) (hw.1 s)) (by omega)]
      simp (disch := omega) only [nI_ltI, nI_eq, nI_add, nI_clamp, ib_n, pk_mul, q_and, q_or, q_dn, q_shl, q_shlm, q_p1, if_true, if_false, ↓reduceIte, Option.bind_some, bI_0, bI_1, bI_01, b_or, Nat.not_lt_zero, Nat.zero_add, Bool.false_eq_true, Bool.true_eq_false, or_false, or_true, true_or, false_or]
      rw [m_holdOrTurn _ hj (oBig (by omega) (hw.1 s)) (by omega) m1 m2]
      simp only [Option.bind_some]
      refine fin _ ?_
      rw [thk_3 e]
      dsimp only
      generalize (if ((μ.1 s).isSome && !inO (μ.1 s) (fitg T t so)) = true then μ.2.1 s + 1 else μ.2.1 s) = w'
      by_cases hc : ((μ.1 s).isNone || decide (2 ≤ w')) = true
      · rw [if_pos hc, if_pos hc]
      · rw [if_neg hc, if_neg hc, up_same (c := 0) (n := i) (p := 2) (j := k * 4 + s) m1]

/-- rows but an object's -/
def Ro (c n : Nat) (O O' : Mem_) : Prop := ∀ c' n', c' ≠ c ∨ n' ≠ n → O' c' n' = O c' n'
theorem Ro.rfl {c n : Nat} {O : Mem_} : Ro c n O O := fun _ _ _ => Eq.refl _
theorem Ro.up {c n p j : Nat} {v : Int32} {O O' : Mem_} (h : Ro c n O O') : Ro c n O (up O' c n p j v) := fun c' n' q => (up_row q).trans (h c' n' q)
theorem Ro.trans {c n : Nat} {O O' O2 : Mem_} (h : Ro c n O O') (h2 : Ro c n O' O2) : Ro c n O O2 := fun c' n' q => (h2 c' n' q).trans (h c' n' q)
theorem m_frighten (d : Nat) {k sn : Nat} (hk : k < 6) (hs : O 0 i 0 0 = nI sn) : ∃ O', ex (d + 1) 3 0 [some (vr 0 i 0), some (vi (nI k))] [] O = some (nI 0, O') ∧ Ro 0 i O O' ∧ KX k (O 0 i) (O' 0 i) ∧ ∀ la, O 0 i 4 k = oI la → KM (O' 0 i) k (fun _ => none, fun _ => 0, la, some sn) := by
  rw [sX0_frighten_0]
  simp (disch := omega) only [nI_ltI, nI_eq, nI_add, nI_clamp, ib_n, pk_mul, q_and, q_or, q_dn, q_shl, q_shlm, q_p1, if_true, if_false, ↓reduceIte, Option.bind_some, bI_0, bI_1, bI_01, b_or, Nat.not_lt_zero, Nat.zero_add, Bool.false_eq_true, Bool.true_eq_false, or_false, or_true, true_or, false_or, hs]
  refine Exists.elim (lp_i (fun s (O : Mem_) => ex (d + 1) 3 12 [some (vr 0 i 0), some (vi (nI k)), some (vi (nI s))] [] O) (fun s O' => Ro 0 i O O' ∧ KX k (O 0 i) (O' 0 i) ∧ O' 0 i 4 k = O 0 i 4 k ∧ O' 0 i 5 k = nI sn ∧ ∀ q, q < s → O' 0 i 2 (k * 4 + q) = oI none ∧ O' 0 i 3 (k * 4 + q) = nI 0) 4 ?_ (up O 0 i 5 k (nI sn)) ⟨Ro.rfl.up, fun p q h1 h2 h3 h4 => by rw [up_self, if_neg (fun z => h4 ⟨z.1, z.2⟩)], by rw [up_self, if_neg (by omega)], up_eq .., fun q hq => by omega⟩) ?_
  · intro s O' hs4 ⟨h1, h2, h3, h4, h5⟩
    refine ⟨up (up O' 0 i 2 (k * 4 + s) (oI none)) 0 i 3 (k * 4 + s) (nI 0), ?_, h1.up.up, fun p q z1 z2 z3 z4 => ?_, ?_, ?_, fun q hq => ?_⟩
    · refine (sX0_frighten_12 ..).trans ?_
      simp (disch := omega) only [nI_ltI, nI_eq, nI_add, nI_clamp, ib_n, pk_mul, q_and, q_or, q_dn, q_shl, q_shlm, q_p1, if_true, if_false, ↓reduceIte, Option.bind_some, bI_0, bI_1, bI_01, b_or, Nat.not_lt_zero, Nat.zero_add, Bool.false_eq_true, Bool.true_eq_false, or_false, or_true, true_or, false_or, hs4]
    · rw [up_self, if_neg (fun z => z2 ⟨z.1, by omega, by omega⟩), up_self, if_neg (fun z => z1 ⟨z.1, by omega, by omega⟩)]
      exact h2 p q z1 z2 z3 z4
    · rw [up_self, if_neg (by omega), up_self, if_neg (by omega)]; exact h3
    · rw [up_self, if_neg (by omega), up_self, if_neg (by omega)]; exact h4
    · rw [up_self, up_self, up_self]
      by_cases e : q = s
      · subst e; simp
      · have := h5 q (by omega)
        rw [if_neg (by omega), if_neg (by omega), if_neg (by omega), up_self, if_neg (by omega)]
        exact this
  · rintro O' ⟨e, h1, h2, h3, h4, h5⟩
    refine ⟨O', e.trans ?_, h1, h2, fun la hla => ⟨fun s hs => h5 s hs, by rw [h3, hla], h4⟩⟩
    refine (sX0_frighten_12 ..).trans ?_
    simp (disch := omega) only [nI_ltI, nI_eq, nI_add, nI_clamp, ib_n, pk_mul, q_and, q_or, q_dn, q_shl, q_shlm, q_p1, if_true, if_false, ↓reduceIte, Option.bind_some, bI_0, bI_1, bI_01, b_or, Nat.not_lt_zero, Nat.zero_add, Bool.false_eq_true, Bool.true_eq_false, or_false, or_true, true_or, false_or, Nat.lt_irrefl]
theorem KM.up {k p j : Nat} {v : Int32} {μ : Mi_} (hp : p < 2 ∨ 5 < p) (h : KM (O 0 i) k μ) : KM ((up O 0 i p j v) 0 i) k μ := by
  refine ⟨fun s hs => ?_, ?_, ?_⟩
  · rw [up_self, if_neg (by omega), up_self, if_neg (by omega)]; exact h.1 s hs
  · rw [up_self, if_neg (by omega)]; exact h.2.1
  · rw [up_self, if_neg (by omega)]; exact h.2.2
theorem m_witness (d : Nat) {K s t sn : Nat} {so : Bool} {M : Md_} (hK : K < 2 ^ 31) (hs : s < nS T) (ht : t < nT T) (hf : ∀ s, M.1 s < 4096) (hF : ∀ s, s < 4 → O 0 i 6 s = nI (M.1 s)) (h : CT (O 4 n) T) (hT : WT T) (hm : ∀ k, k < nK T → K.testBit k = true → KM (O 0 i) k (M.2 k)) (hw : ∀ k, WMi T (M.2 k)) (hsn : O 0 i 0 0 = nI sn) (hsb : sn < 1000) : ∃ c O', ex (d + 4) 2 0 [some (vr 0 i 0), some (vr 4 n 0), some (vi (nI K)), some (vi (nI s)), some (vi (nI t)), some (vi (bI so))] [] O = some (bI c, O') ∧ Ro 0 i O O' ∧ O' 0 i 0 0 = nI (sn + 1) ∧ (∀ s', s' < 4 → O' 0 i 6 s' = nI ((see T sn s t so M).1 s')) ∧ (∀ k, k < nK T → K.testBit k = true → KM (O' 0 i) k ((see T sn s t so M).2 k)) ∧ (c = false → (see T sn s t so M).1 = M.1 ∧ ∀ k, k < nK T → K.testBit k = true → (see T sn s t so M).2 k = M.2 k) := by
  have h6 := hT.2.2.2.1
  have h4 := hT.2.2.1
  have h8 := hT.1
  have hfs := hf s
  have hfg := fitg_lt hT t so
  have hfx : M.1 s &&& fitg T t so < 4096 := Nat.lt_of_le_of_lt Nat.and_le_left (hf s)
  rw [sX0_witness_0]
  simp (disch := omega) only [nI_ltI, nI_eq, nI_add, nI_clamp, ib_n, pk_mul, q_and, q_or, q_dn, q_shl, q_shlm, q_p1, if_true, if_false, ↓reduceIte, Option.bind_some, bI_0, bI_1, bI_01, b_or, Nat.not_lt_zero, Nat.zero_add, Bool.false_eq_true, Bool.true_eq_false, or_false, or_true, true_or, false_or, m_hasSound (h := h), m_hasThing (h := h), hsI_n, hs, ht, decide_true, hF]
  rw [m_fitting _ so ht h hT]
  simp (disch := omega) only [nI_ltI, nI_eq, nI_add, nI_clamp, ib_n, pk_mul, q_and, q_or, q_dn, q_shl, q_shlm, q_p1, if_true, if_false, ↓reduceIte, Option.bind_some, bI_0, bI_1, bI_01, b_or, Nat.not_lt_zero, Nat.zero_add, Bool.false_eq_true, Bool.true_eq_false, or_false, or_true, true_or, false_or, hF, up_eq]
  refine Exists.elim (lp_i (fun k (a : Mem_ × Bool) => ex (d + 4) 2 65 [some (vr 0 i 0), some (vr 4 n 0), some (vi (nI K)), some (vi (nI s)), some (vi (nI t)), some (vi (bI so)), none, some (vi (bI a.2)), some (vi (nI k))] [] a.1) (fun k (a : Mem_ × Bool) => Ro 0 i O a.1 ∧ a.1 0 i 0 0 = nI sn ∧ (∀ s', s' < 4 → a.1 0 i 6 s' = nI ((see T sn s t so M).1 s')) ∧ (∀ k', k' < nK T → K.testBit k' = true → KM (a.1 0 i) k' (if k' < k then (see T sn s t so M).2 k' else M.2 k')) ∧ (a.2 = false → (see T sn s t so M).1 = M.1 ∧ ∀ k', k' < k → K.testBit k' = true → (see T sn s t so M).2 k' = M.2 k')) (nK T) ?_ (up O 0 i 6 s (nI (M.1 s &&& fitg T t so)), !decide (M.1 s &&& fitg T t so = M.1 s)) ⟨Ro.rfl.up, ?_, fun s' hs' => ?_, fun k hk hb => ?_, fun hc => ⟨?_, fun k hk => by omega⟩⟩) ?_
  · intro k ⟨O', c⟩ hk ⟨h1, h2, h3, h4, h5⟩
    dsimp only at h1 h2 h3 h4 h5
    have hCT : CT (O' 4 n) T := by rw [h1 4 n (Or.inl (by decide))]; exact h
    have nxt : K.testBit k = false → ∀ k', k' < nK T → K.testBit k' = true → KM (O' 0 i) k' (if k' < k + 1 then (see T sn s t so M).2 k' else M.2 k') := fun hb k' hk' hb' => by
      have hne : k' ≠ k := fun e => by rw [e, hb] at hb'; cases hb'
      have := h4 k' hk' hb'
      by_cases z : k' < k
      · rw [if_pos z] at this; rw [if_pos (by omega)]; exact this
      · rw [if_neg z] at this; rw [if_neg (by omega)]; exact this
    cases hb : K.testBit k with
    | false =>
      refine ⟨(O', c), ?_, h1, h2, h3, nxt hb, fun hc => ⟨(h5 hc).1, fun k' hk' hb' => ?_⟩⟩
      · refine (sX0_witness_65 ..).trans ?_
        simp (disch := omega) only [nI_ltI, nI_eq, nI_add, nI_clamp, ib_n, pk_mul, q_and, q_or, q_dn, q_shl, q_shlm, q_p1, if_true, if_false, ↓reduceIte, Option.bind_some, bI_0, bI_1, bI_01, b_or, Nat.not_lt_zero, Nat.zero_add, Bool.false_eq_true, Bool.true_eq_false, or_false, or_true, true_or, false_or, hCT.1.2.2.2, m_isIn, hb, hk]
      · have hne : k' ≠ k := fun e => by rw [e, hb] at hb'; cases hb'
        exact (h5 hc).2 k' (by omega) hb'
    | true =>
      have km := h4 k hk hb
      rw [if_neg (Nat.lt_irrefl k)] at km
      have km5 := km.2.2
      have wk := hw k
      have others : ∀ (O2 : Mem_), KX k (O' 0 i) (O2 0 i) → KM (O2 0 i) k ((see T sn s t so M).2 k) → ∀ k', k' < nK T → K.testBit k' = true → KM (O2 0 i) k' (if k' < k + 1 then (see T sn s t so M).2 k' else M.2 k') := fun O2 hx hkm k' hk' hb' => by
        by_cases e : k' = k
        · subst e; rw [if_pos (Nat.lt_succ_self _)]; exact hkm
        · have := h4 k' hk' hb'
          by_cases z : k' < k
          · rw [if_pos z] at this; rw [if_pos (by omega)]; exact hx.km e this
          · rw [if_neg z] at this; rw [if_neg (by omega)]; exact hx.km e this
      cases hfl : (M.2 k).2.2.2 with
      | some x =>
        have hx := wk.2.2.2 x hfl
        have e2 : (see T sn s t so M).2 k = M.2 k := by simp [see, see1, hfl]
        refine ⟨(O', c), ?_, h1, h2, h3, others O' (fun _ _ _ _ _ _ => rfl) (by rw [e2]; exact km), fun hc => ⟨(h5 hc).1, fun k' hk' hb' => ?_⟩⟩
        · have hne := oI_sn (j := x) (by omega)
          refine (sX0_witness_65 ..).trans ?_
          simp (disch := omega) only [nI_ltI, nI_eq, nI_add, nI_clamp, ib_n, pk_mul, q_and, q_or, q_dn, q_shl, q_shlm, q_p1, if_true, if_false, ↓reduceIte, Option.bind_some, bI_0, bI_1, bI_01, b_or, Nat.not_lt_zero, Nat.zero_add, Bool.false_eq_true, Bool.true_eq_false, or_false, or_true, true_or, false_or, hCT.1.2.2.2, m_isIn, hb, hk, km5, hfl, hne]
        · by_cases e : k' = k
          · rw [e, e2]
          · exact (h5 hc).2 k' (by omega) hb'
      | none =>
        by_cases hfe : fe_ T k = some t
        · obtain ⟨O2, q1, q2, q3, q4⟩ := m_frighten (O := O') (i := i) (d + 2) (k := k) (by omega) h2
          have e2 : (see T sn s t so M).2 k = (fun _ => none, fun _ => 0, (M.2 k).2.2.1, some sn) := by simp [see, see1, hfl, hfe]
          refine ⟨(O2, true), ?_, h1.trans q2, ?_, fun s' hs' => ?_, others O2 q3 (by rw [e2]; exact q4 _ km.2.1), fun hc => by cases hc⟩
          · refine (sX0_witness_65 ..).trans ?_
            simp (disch := omega) only [nI_ltI, nI_eq, nI_add, nI_clamp, ib_n, pk_mul, q_and, q_or, q_dn, q_shl, q_shlm, q_p1, if_true, if_false, ↓reduceIte, Option.bind_some, bI_0, bI_1, bI_01, b_or, Nat.not_lt_zero, Nat.zero_add, Bool.false_eq_true, Bool.true_eq_false, or_false, or_true, true_or, false_or, hCT.1.2.2.2, m_isIn, hb, hk, km5, hfl, (hCT.2.2.2.2 k hk).2.2.1, hfe, oI]
            rw [q1]
            rfl
          · show O2 0 i 0 0 = _
            rw [q3 0 0 (by omega) (by omega) (by omega) (by omega)]; exact h2
          · show O2 0 i 6 s' = _
            rw [q3 6 s' (by omega) (by omega) (by omega) (by omega)]; exact h3 s' hs'
        · have hF' : O' 0 i 6 s = nI (M.1 s &&& fitg T t so) := by rw [h3 s (by omega)]; simp [see, upF]
          obtain ⟨cl, q1, q2⟩ := m_look (O := O') (i := i) (n := n) (d := d) (k := k) (s := s) (t := t) (f := M.1 s &&& fitg T t so) (so := so) (μ := M.2 k) hk hs ht hfx hF' hCT hT km wk
          have e2 : (see T sn s t so M).2 k = look1 T k s t so (M.1 s &&& fitg T t so) (M.2 k) := by simp [see, see1, hfl, hfe]
          have hne : ¬ oI (fe_ T k) = nI t := fun e => hfe ((oI_inj (b := some t) (fun j e => by have := hT.2.2.2.2.2.2.2.2 k j e; omega) (fun j e => by cases e; omega)).mp e)
          generalize hO2 : up (up (up O' 0 i 2 (k * 4 + s) (oI (thk T k s t so (M.1 s &&& fitg T t so) (M.2 k)).1)) 0 i 3 (k * 4 + s) (nI (thk T k s t so (M.1 s &&& fitg T t so) (M.2 k)).2)) 0 i 4 k (oI ((thk T k s t so (M.1 s &&& fitg T t so) (M.2 k)).1 <|> (M.2 k).2.2.1)) = O2 at q2
          refine ⟨(O2, c || cl), ?_, ?_, ?_, fun s' hs' => ?_, others O2 (fun p q z1 z2 z3 z4 => ?_) ?_, fun hc => ?_⟩
          · refine (sX0_witness_65 ..).trans ?_
            simp (disch := omega) only [nI_ltI, nI_eq, nI_add, nI_clamp, ib_n, pk_mul, q_and, q_or, q_dn, q_shl, q_shlm, q_p1, if_true, if_false, ↓reduceIte, Option.bind_some, bI_0, bI_1, bI_01, b_or, Nat.not_lt_zero, Nat.zero_add, Bool.false_eq_true, Bool.true_eq_false, or_false, or_true, true_or, false_or, hCT.1.2.2.2, m_isIn, hb, hk, km5, hfl, (hCT.2.2.2.2 k hk).2.2.1, hne]
            rw [q2]
            cases cl
            · simp (disch := omega) only [nI_ltI, nI_eq, nI_add, nI_clamp, ib_n, pk_mul, q_and, q_or, q_dn, q_shl, q_shlm, q_p1, if_true, if_false, ↓reduceIte, Option.bind_some, bI_0, bI_1, bI_01, b_or, Nat.not_lt_zero, Nat.zero_add, Bool.false_eq_true, Bool.true_eq_false, or_false, or_true, true_or, false_or]
              rw [Bool.or_false]
            · simp (disch := omega) only [nI_ltI, nI_eq, nI_add, nI_clamp, ib_n, pk_mul, q_and, q_or, q_dn, q_shl, q_shlm, q_p1, if_true, if_false, ↓reduceIte, Option.bind_some, bI_0, bI_1, bI_01, b_or, Nat.not_lt_zero, Nat.zero_add, Bool.false_eq_true, Bool.true_eq_false, or_false, or_true, true_or, false_or]
              simp [bI]
          · rw [← hO2]; exact h1.up.up.up
          · show O2 0 i _ _ = _
            rw [← hO2, up_self, if_neg (by omega), up_self, if_neg (by omega), up_self, if_neg (by omega)]; exact h2
          · show O2 0 i _ _ = _
            rw [← hO2, up_self, if_neg (by omega), up_self, if_neg (by omega), up_self, if_neg (by omega)]; exact h3 s' hs'
          · rw [← hO2, up_self, if_neg (fun z => z3 ⟨z.1, z.2⟩), up_self, if_neg (fun z => z2 ⟨z.1, by omega, by omega⟩), up_self, if_neg (fun z => z1 ⟨z.1, by omega, by omega⟩)]
          · rw [e2, ← hO2]
            refine ⟨fun s' hs' => ?_, ?_, ?_⟩
            · have kq := km.1 s' hs'
              simp only [look1, upF]
              by_cases e : s' = s
              · subst e
                simp (disch := omega) only [up_ne, up_eq, if_true, and_self]
              · simp (disch := omega) only [up_ne, up_eq, e, if_false]
                exact kq
            · rw [up_eq]; rfl
            · rw [up_self, if_neg (by omega), up_self, if_neg (by omega), up_self, if_neg (by omega)]; exact km5
          · obtain ⟨c1, c2⟩ := Bool.or_eq_false_iff.mp hc
            refine ⟨(h5 c1).1, fun k' hk' hb' => ?_⟩
            by_cases e : k' = k
            · subst e; rw [e2]; exact q1 c2
            · exact (h5 c1).2 k' (by omega) hb'
  · dsimp only; rw [up_self, if_neg (by omega)]; exact hsn
  · dsimp only; rw [up_self]
    by_cases e : s' = s
    · subst e; simp [see, upF]
    · rw [if_neg (fun z => e z.2), hF s' hs']
      simp [see, upF, e]
  · rw [if_neg (Nat.not_lt_zero _)]
    exact KM.up (by omega) (hm k hk hb)
  · simp only [Bool.not_eq_false', decide_eq_true_eq] at hc
    funext q
    simp only [see, upF]
    split
    · rename_i e; rw [e]; exact hc
    · rfl
  · rintro ⟨O', c⟩ ⟨e, h1, h2, h3, h4, h5⟩
    dsimp only at h1 h2 h3 h4 h5
    have hCT : CT (O' 4 n) T := by rw [h1 4 n (Or.inl (by decide))]; exact h
    refine ⟨c, up O' 0 i 0 0 (nI (sn + 1)), ?_, h1.up, up_eq .., fun s' hs' => ?_, fun k hk hb => ?_, fun hc => ?_⟩
    · refine Eq.trans ?_ (e.trans ((sX0_witness_65 ..).trans ?_))
      · by_cases z : M.1 s &&& fitg T t so = M.1 s
        · simp [z, bI]
        · simp [z, bI]
      · simp (disch := omega) only [nI_ltI, nI_eq, nI_add, nI_clamp, ib_n, pk_mul, q_and, q_or, q_dn, q_shl, q_shlm, q_p1, if_true, if_false, ↓reduceIte, Option.bind_some, bI_0, bI_1, bI_01, b_or, Nat.not_lt_zero, Nat.zero_add, Bool.false_eq_true, Bool.true_eq_false, or_false, or_true, true_or, false_or, hCT.1.2.2.2, Nat.lt_irrefl, h2]
    · rw [up_self, if_neg (by omega)]; exact h3 s' hs'
    · have := h4 k hk hb
      rw [if_pos hk] at this
      exact KM.up (by omega) this
    · exact h5 hc
end
end
section
/-! THE CLASS'S MINDS, 2: blank, become. -/
section
variable {T : Td_} {O : Mem_} {n i : Nat}
/-- minds of some kinds, behind so many showings -/
def CM (R : Nat → Nat → Int32) (T : Td_) (K sn : Nat) (M : Md_) : Prop := R 0 0 = nI sn ∧ (∀ s, s < 4 → R 6 s = nI (M.1 s)) ∧ ∀ k, k < nK T → K.testBit k = true → KM R k (M.2 k)
def WMd (T : Td_) (M : Md_) : Prop := (∀ s, M.1 s < 2 ^ nM T) ∧ ∀ k, WMi T (M.2 k)
theorem WMd.f {M : Md_} (h : WMd T M) (hT : WT T) : ∀ s, M.1 s < 4096 := fun s => Nat.lt_of_lt_of_le (h.1 s) (Nat.pow_le_pow_right (n := 2) (by decide) hT.2.1)
theorem see_wf {M : Md_} {sn s t : Nat} {so : Bool} (hsn : sn < 1000) (h : WMd T M) : WMd T (see T sn s t so M) := by
  refine ⟨fun q => ?_, fun k => see1_wf hsn (h.2 k)⟩
  simp only [see, upF]
  split
  · exact Nat.lt_of_le_of_lt Nat.and_le_left (h.1 s)
  · exact h.1 q
theorem mi0_wf : WMi T mi0 := ⟨fun _ _ q => absurd q (by simp [mi0]), fun _ => Nat.zero_lt_two, fun _ q => absurd q (by simp [mi0]), fun _ q => absurd q (by simp [mi0])⟩
theorem md0_wf : WMd T (md0 T) := ⟨fun _ => Nat.sub_lt (Nat.two_pow_pos _) (by decide), fun _ => mi0_wf⟩
theorem mds_wf {f : Nat → Nat × Nat × Bool} : ∀ n, n ≤ 1000 → WMd T (mds T f n)
  | 0, _ => md0_wf
  | n + 1, h => see_wf (by omega) (mds_wf n (by omega))
theorem mds_ext {f g : Nat → Nat × Nat × Bool} : ∀ n, (∀ j, j < n → f j = g j) → mds T f n = mds T g n
  | 0, _ => rfl
  | n + 1, h => by
    unfold mds
    rw [h n (by omega), mds_ext n (fun j hj => h j (by omega))]
theorem m_blank (d : Nat) (h : CT (O 4 n) T) (hT : WT T) : ∃ O', ex (d + 2) 0 0 [some (vr 0 i 0), some (vr 4 n 0)] [] O = some (nI 0, O') ∧ Ro 0 i O O' ∧ ∀ K, CM (O' 0 i) T K 0 (md0 T) := by
  have h6 := hT.2.2.2.1
  rw [sX0_blank_0]
  refine Exists.elim (lp_i (fun s (O : Mem_) => ex (d + 2) 0 7 [some (vr 0 i 0), some (vr 4 n 0), some (vi (nI s))] [] O) (fun s O' => Ro 0 i O O' ∧ O' 0 i 0 0 = nI 0 ∧ ∀ q, q < s → O' 0 i 2 q = oI none ∧ O' 0 i 3 q = nI 0) 24 ?_ (up O 0 i 0 0 (nI 0)) ⟨Ro.rfl.up, up_eq .., fun q hq => by omega⟩) ?_
  · intro s O' hs ⟨h1, h2, h3⟩
    refine ⟨up (up O' 0 i 2 s (oI none)) 0 i 3 s (nI 0), ?_, h1.up.up, ?_, fun q hq => ?_⟩
    · refine (sX0_blank_7 ..).trans ?_
      simp (disch := omega) only [nI_ltI, nI_eq, nI_add, nI_clamp, ib_n, pk_mul, q_and, q_or, q_dn, q_shl, q_shlm, q_p1, if_true, if_false, ↓reduceIte, Option.bind_some, bI_0, bI_1, bI_01, b_or, Nat.not_lt_zero, Nat.zero_add, Bool.false_eq_true, Bool.true_eq_false, or_false, or_true, true_or, false_or, hs]
    · simp (disch := omega) only [up_ne]; exact h2
    · by_cases e : q = s
      · subst e; simp (disch := omega) only [up_ne, up_eq, and_self]
      · simp (disch := omega) only [up_ne]; exact h3 q (by omega)
  · rintro O1 ⟨e1, h1, h2, h3⟩
    refine Exists.elim (lp_i (fun s (O : Mem_) => ex (d + 2) 0 36 [some (vr 0 i 0), some (vr 4 n 0), some (vi (nI s))] [] O) (fun s O' => Ro 0 i O O' ∧ O' 0 i 0 0 = nI 0 ∧ (∀ q, q < 24 → O' 0 i 2 q = oI none ∧ O' 0 i 3 q = nI 0) ∧ ∀ q, q < s → O' 0 i 4 q = oI none ∧ O' 0 i 5 q = oI none) 6 ?_ O1 ⟨h1, h2, h3, fun q hq => by omega⟩) ?_
    · intro s O' hs ⟨h1, h2, h3, h4⟩
      refine ⟨up (up O' 0 i 4 s (oI none)) 0 i 5 s (oI none), ?_, h1.up.up, ?_, fun q hq => ?_, fun q hq => ?_⟩
      · refine (sX0_blank_36 ..).trans ?_
        simp (disch := omega) only [nI_ltI, nI_eq, nI_add, nI_clamp, ib_n, pk_mul, q_and, q_or, q_dn, q_shl, q_shlm, q_p1, if_true, if_false, ↓reduceIte, Option.bind_some, bI_0, bI_1, bI_01, b_or, Nat.not_lt_zero, Nat.zero_add, Bool.false_eq_true, Bool.true_eq_false, or_false, or_true, true_or, false_or, hs]
      · simp (disch := omega) only [up_ne]; exact h2
      · simp (disch := omega) only [up_ne]; exact h3 q hq
      · by_cases e : q = s
        · subst e; simp (disch := omega) only [up_ne, up_eq, and_self]
        · simp (disch := omega) only [up_ne]; exact h4 q (by omega)
    · rintro O2 ⟨e2, h1, h2, h3, h4⟩
      refine Exists.elim (lp_i (fun s (O : Mem_) => ex (d + 2) 0 66 [some (vr 0 i 0), some (vr 4 n 0), some (vi (nI s))] [] O) (fun s O' => Ro 0 i O O' ∧ O' 0 i 0 0 = nI 0 ∧ (∀ k, k < 6 → KM (O' 0 i) k mi0) ∧ ∀ q, q < s → O' 0 i 6 q = nI (2 ^ nM T - 1)) 4 ?_ O2 ⟨h1, h2, fun k hk => ⟨fun s hs => h3 _ (by omega), (h4 k hk).1, (h4 k hk).2⟩, fun q hq => by omega⟩) ?_
      · intro s O' hs ⟨h1, h2, h3, h4⟩
        have hCT : CT (O' 4 n) T := by rw [h1 4 n (Or.inl (by decide))]; exact h
        refine ⟨up O' 0 i 6 s (nI (2 ^ nM T - 1)), ?_, h1.up, ?_, fun k hk => KM.up (by omega) (h3 k hk), fun q hq => ?_⟩
        · refine (sX0_blank_66 ..).trans ?_
          simp (disch := omega) only [nI_ltI, nI_eq, nI_add, nI_clamp, ib_n, pk_mul, q_and, q_or, q_dn, q_shl, q_shlm, q_p1, if_true, if_false, ↓reduceIte, Option.bind_some, bI_0, bI_1, bI_01, b_or, Nat.not_lt_zero, Nat.zero_add, Bool.false_eq_true, Bool.true_eq_false, or_false, or_true, true_or, false_or, hs, m_allMeanings (h := hCT) (hT := hT)]
        · simp (disch := omega) only [up_ne]; exact h2
        · by_cases e : q = s
          · subst e; simp only [up_eq]
          · simp (disch := omega) only [up_ne]; exact h4 q (by omega)
      · rintro O3 ⟨e3, h1, h2, h3, h4⟩
        refine ⟨O3, e1.trans ?_, h1, fun K => ⟨h2, h4, fun k hk _ => h3 k (by omega)⟩⟩
        refine (sX0_blank_7 ..).trans ?_
        simp (disch := omega) only [nI_ltI, nI_eq, nI_add, nI_clamp, ib_n, pk_mul, q_and, q_or, q_dn, q_shl, q_shlm, q_p1, if_true, if_false, ↓reduceIte, Option.bind_some, bI_0, bI_1, bI_01, b_or, Nat.not_lt_zero, Nat.zero_add, Bool.false_eq_true, Bool.true_eq_false, or_false, or_true, true_or, false_or, Nat.lt_irrefl]
        refine e2.trans ?_
        refine (sX0_blank_36 ..).trans ?_
        simp (disch := omega) only [nI_ltI, nI_eq, nI_add, nI_clamp, ib_n, pk_mul, q_and, q_or, q_dn, q_shl, q_shlm, q_p1, if_true, if_false, ↓reduceIte, Option.bind_some, bI_0, bI_1, bI_01, b_or, Nat.not_lt_zero, Nat.zero_add, Bool.false_eq_true, Bool.true_eq_false, or_false, or_true, true_or, false_or, Nat.lt_irrefl]
        refine e3.trans ?_
        refine (sX0_blank_66 ..).trans ?_
        simp (disch := omega) only [nI_ltI, nI_eq, nI_add, nI_clamp, ib_n, pk_mul, q_and, q_or, q_dn, q_shl, q_shlm, q_p1, if_true, if_false, ↓reduceIte, Option.bind_some, bI_0, bI_1, bI_01, b_or, Nat.not_lt_zero, Nat.zero_add, Bool.false_eq_true, Bool.true_eq_false, or_false, or_true, true_or, false_or, Nat.lt_irrefl]
theorem cpy_self (O : Mem_) {c0 n0 p0 c n p len : Nat} (p' j' : Nat) : cpy O c0 n0 p0 c n p 0 0 len c n p' j' = if p' = p ∧ j' < len then O c0 n0 p0 j' else O c n p' j' := by
  unfold cpy
  by_cases h : p' = p ∧ j' < len
  · rw [if_pos ⟨rfl, rfl, h.1, Nat.zero_le _, by omega⟩, if_pos h]; simp
  · rw [if_neg (fun q => h ⟨q.2.2.1, by omega⟩), if_neg h]
theorem Ro.cpy {c0 n0 p0 c n p a b len : Nat} {O O' : Mem_} (h : Ro c n O O') : Ro c n O (cpy O' c0 n0 p0 c n p a b len) := fun c' n' q => (cpy_row q).trans (h c' n' q)
theorem m_becomeM (d : Nat) {j K sn : Nat} {M : Md_} (hij : i ≠ j) (hT : WT T) (h : CM (O 0 j) T K sn M) : ∃ O', ex (d + 1) 1 0 [some (vr 0 i 0), some (vr 0 j 0)] [] O = some (nI 0, O') ∧ Ro 0 i O O' ∧ CM (O' 0 i) T K sn M := by
  have h6 := hT.2.2.2.1
  refine ⟨_, sX0_become_0 .., Ro.rfl.up.cpy.cpy.cpy.cpy.cpy, ?_⟩
  have r : ∀ (O : Mem_) (p j' : Nat) (v : Int32), up O 0 i p j' v 0 j = O 0 j := fun O p j' v => up_row (by omega)
  have r2 : ∀ (O : Mem_) (p l : Nat), cpy O 0 j p 0 i p 0 0 l 0 j = O 0 j := fun O p l => cpy_row (by omega)
  refine ⟨?_, fun s hs => ?_, fun k hk hb => ⟨fun s hs => ?_, ?_, ?_⟩⟩
  · simp only [cpy_self, r, r2, up_eq]
    simp [h.1]
  · simp only [cpy_self, r, r2]
    simp [hs, h.2.1 s hs]
  · have := (h.2.2 k hk hb).1 s hs
    have h24 : k * 4 + s < 24 := by omega
    simp only [cpy_self, r, r2]
    simp [h24, this.1, this.2]
  · have := (h.2.2 k hk hb).2.1
    have h24 : k < 6 := by omega
    simp only [cpy_self, r, r2]
    simp [h24, this]
  · have := (h.2.2 k hk hb).2.2
    have h24 : k < 6 := by omega
    simp only [cpy_self, r, r2]
    simp [h24, this]
/-- a showing that some kinds see -/
theorem m_see (d : Nat) {K s t sn : Nat} {so : Bool} {M : Md_} (hK : K < 2 ^ 31) (hs : s < nS T) (ht : t < nT T) (h : CT (O 4 n) T) (hT : WT T) (hm : CM (O 0 i) T K sn M) (hw : WMd T M) (hsb : sn < 1000) : ∃ c O', ex (d + 4) 2 0 [some (vr 0 i 0), some (vr 4 n 0), some (vi (nI K)), some (vi (nI s)), some (vi (nI t)), some (vi (bI so))] [] O = some (bI c, O') ∧ Ro 0 i O O' ∧ CM (O' 0 i) T K (sn + 1) (see T sn s t so M) ∧ (c = false → (see T sn s t so M).1 = M.1 ∧ ∀ k, k < nK T → K.testBit k = true → (see T sn s t so M).2 k = M.2 k) := by
  obtain ⟨c, O', h1, h2, h3, h4, h5, h6⟩ := m_witness (O := O) (i := i) (n := n) d (so := so) hK hs ht (hw.f hT) hm.2.1 h hT hm.2.2 hw.2 hm.1 hsb
  exact ⟨c, O', h1, h2, ⟨h3, h4, h5⟩, h6⟩
end
end
section
/-! THE MODEL'S TOLD. -/
section
theorem lg_lt (x y : Int64) : (lg_cmp x y < nI 0) ↔ x < y := by
  unfold lg_cmp
  by_cases h1 : x > y
  · rw [if_pos h1]
    have : ¬ x < y := fun q => by
      have a := Int64.lt_iff_toInt_lt.mp h1
      have b := Int64.lt_iff_toInt_lt.mp q
      omega
    exact ⟨fun q => absurd q (by decide), fun q => absurd q this⟩
  · rw [if_neg h1]
    by_cases h2 : x = y
    · rw [if_pos h2]
      subst h2
      exact ⟨fun q => absurd q (by decide), fun q => by have := Int64.lt_iff_toInt_lt.mp q; omega⟩
    · rw [if_neg h2]
      refine ⟨fun _ => ?_, fun _ => by decide⟩
      refine Int64.lt_iff_toInt_lt.mpr ?_
      have a : ¬ y.toInt < x.toInt := fun q => h1 (Int64.lt_iff_toInt_lt.mpr q)
      have b : x.toInt ≠ y.toInt := fun q => h2 (Int64.toInt_inj.mp q)
      omega
theorem lg_gt (x y : Int64) : (nI 0 < lg_cmp x y) ↔ y < x := by
  unfold lg_cmp
  by_cases h1 : x > y
  · rw [if_pos h1]
    exact ⟨fun _ => h1, fun _ => by decide⟩
  · rw [if_neg h1]
    by_cases h2 : x = y
    · rw [if_pos h2]
      exact ⟨fun q => absurd q (by decide), fun q => absurd q h1⟩
    · rw [if_neg h2]
      exact ⟨fun q => absurd q (by decide), fun q => absurd q h1⟩
theorem i64_lt (x y : Int32) : (Int32.toInt64 x < Int32.toInt64 y) ↔ x < y := by
  rw [Int64.lt_iff_toInt_lt, Int32.toInt_toInt64, Int32.toInt_toInt64, Int32.lt_iff_toInt_lt]
def inI (x l h : Int32) : Bool := !decide (x < l) && !decide (h < x)
theorem m_in (d : Nat) (O : Mem_) (x l h : Int32) {a b : Int64} (ha : a = Int32.toInt64 l) (hb : b = Int32.toInt64 h) : ex (d + 1) 121 0 [some (vl (Int32.toInt64 x)), none, some (vl a), none, some (vl b), none] [] O = some (bI (inI x l h), O) := by
  subst ha
  subst hb
  rw [sX7_in_0]
  simp only [lg_lt, lg_gt, i64_lt]
  unfold inI
  by_cases h1 : x < l
  · simp [h1, bI]
  · by_cases h2 : h < x <;> simp [h1, h2, bI]
theorem inI_h (x : Int32) {n : Nat} (hn : n < 2 ^ 30) : inI x (nI 0) (nI n - nI 1) = hsI x n := by
  unfold inI hsI
  by_cases h0 : x < nI 0
  · simp [h0]
  · obtain ⟨j, hj, rfl⟩ := nI_of h0
    have : (nI n - nI 1 < nI j) ↔ ¬ (nI j < nI n) := by
      rw [Int32.lt_iff_toInt_lt, pk_sub_toInt hn (by decide), nI_toInt hj, nI_ltI hj (by omega)]
      omega
    have this2 : decide (nI n - nI 1 < nI j) = !decide (nI j < nI n) := by rw [← decide_not]; exact decide_eq_decide.mpr this
    rw [decide_eq_false h0, this2, Bool.not_not]
theorem inI_n {j a b : Nat} (hj : j < 2 ^ 31) (ha : a < 2 ^ 31) (hb : b < 2 ^ 31) : inI (nI j) (nI a) (nI b) = (decide (a ≤ j) && decide (j ≤ b)) := by
  unfold inI
  have e1 : decide (nI j < nI a) = decide (j < a) := decide_eq_decide.mpr (nI_ltI hj ha)
  have e2 : decide (nI b < nI j) = decide (b < j) := decide_eq_decide.mpr (nI_ltI hb hj)
  rw [e1, e2]
  by_cases h1 : a ≤ j <;> by_cases h2 : j ≤ b <;> simp [h1, h2] <;> omega
theorem inI_c (x : Int32) {b : Nat} (hb : b < 2 ^ 30) : inI x (nI 0) (nI b) = hsI x (b + 1) := by
  unfold inI hsI
  by_cases h0 : x < nI 0
  · simp [h0]
  · obtain ⟨j, hj, rfl⟩ := nI_of h0
    have : (nI b < nI j) ↔ ¬ (nI j < nI (b + 1)) := by
      rw [nI_ltI (by omega) hj, nI_ltI hj (by omega)]
      omega
    have this2 : decide (nI b < nI j) = !decide (nI j < nI (b + 1)) := by rw [← decide_not]; exact decide_eq_decide.mpr this
    rw [decide_eq_false h0, this2, Bool.not_not]
theorem m_flag (d : Nat) (O : Mem_) (b : Bool) : ex (d + 1) 122 0 [some (vi (bI b))] [] O = some (bI b, O) := by
  rw [sX7_flag_0]
  cases b <;> simp (disch := omega) only [nI_ltI, nI_eq, nI_add, nI_clamp, ib_n, pk_mul, q_and, q_or, q_dn, q_shl, q_shlm, q_p1, if_true, if_false, ↓reduceIte, Option.bind_some, bI_0, bI_1, bI_01, b_or, Nat.not_lt_zero, Nat.zero_add, Bool.false_eq_true, Bool.true_eq_false, or_false, or_true, true_or, false_or] <;> rfl
theorem itn_cnt (b : Nat) : ∀ n, itn (fun k a => a + (b.testBit k).toNat) n 0 = cnt b n
  | 0 => rfl
  | n + 1 => by
    show itn _ n 0 + _ = _
    rw [itn_cnt b n]; rfl
theorem m_countOf (d : Nat) (O : Mem_) {b : Nat} (hb : b < 2 ^ 31) : ex (d + 1) 123 0 [some (vi (nI b))] [] O = some (nI (cnt b 16), O) := by
  rw [sX7_countOf_0]
  refine (lp_n (fun k a => ex (d + 1) 123 4 [some (vi (nI b)), some (vi (nI a)), some (vi (nI k))] [] O) (fun k a => a + (b.testBit k).toNat) 16 (fun k a hk => ?_) 0).trans ?_
  · refine (sX7_countOf_4 ..).trans ?_
    simp (disch := omega) only [nI_ltI, nI_eq, nI_add, nI_clamp, ib_n, pk_mul, q_and, q_or, q_dn, q_shl, q_shlm, q_p1, if_true, if_false, ↓reduceIte, Option.bind_some, bI_0, bI_1, bI_01, b_or, Nat.not_lt_zero, Nat.zero_add, Bool.false_eq_true, Bool.true_eq_false, or_false, or_true, true_or, false_or, hk, q_bitv, bI]
  · refine (sX7_countOf_4 ..).trans ?_
    simp (disch := omega) only [nI_ltI, nI_eq, nI_add, nI_clamp, ib_n, pk_mul, q_and, q_or, q_dn, q_shl, q_shlm, q_p1, if_true, if_false, ↓reduceIte, Option.bind_some, bI_0, bI_1, bI_01, b_or, Nat.not_lt_zero, Nat.zero_add, Bool.false_eq_true, Bool.true_eq_false, or_false, or_true, true_or, false_or, Nat.lt_irrefl, itn_cnt]
theorem cnt_hi {b k : Nat} (hb : b < 2 ^ k) : ∀ n, k ≤ n → cnt b n = cnt b k
  | 0, h => by rw [Nat.le_zero.mp h]
  | n + 1, h => by
    by_cases e : k = n + 1
    · rw [e]
    · show cnt b n + (b.testBit n).toNat = _
      rw [cnt_hi hb n (by omega), Nat.testBit_lt_two_pow (Nat.lt_of_lt_of_le hb (Nat.pow_le_pow_right (by decide) (by omega)))]
      rfl
theorem cnt_or {a b : Nat} (h : a &&& b = 0) : ∀ n, cnt (a ||| b) n = cnt a n + cnt b n
  | 0 => rfl
  | n + 1 => by
    unfold cnt
    rw [cnt_or h n, Nat.testBit_or]
    have : (a.testBit n && b.testBit n) = false := by rw [← Nat.testBit_and, h, Nat.zero_testBit]
    cases ha : a.testBit n <;> cases hb : b.testBit n <;> simp_all <;> omega
/-- the model's rows hold what is told -/
def MT (R : Nat → Nat → Int32) (T : Td_) : Prop :=
  (R 0 0 = nI (nT T) ∧ R 0 2 = nI (nM T) ∧ R 0 5 = nI (nS T) ∧ R 0 7 = nI (nK T)) ∧
  (∀ t, t < nT T → R 2 t = nI (mk_ T t)) ∧
  (∀ m, m < nM T → R 4 m = nI (hs_ T m) ∧ R 5 m = nI (hn_ T m) ∧ R 19 m = nI (are T m)) ∧
  (∀ s, s < nS T → R 7 s = nI (tg_ T s)) ∧
  (∀ k, k < nK T → R 9 (5 * k) = nI (so_ T k) ∧ R 9 (5 * k + 1) = nI (se_ T k) ∧ R 9 (5 * k + 2) = oI (fe_ T k) ∧ R 9 (5 * k + 3) = bI (ul_ T k) ∧ R 9 (5 * k + 4) = nI (ch_ T k))
section
variable {T : Td_} {O : Mem_}
theorem n_isThing (d : Nat) (x : Int32) (h : MT (O 7 0) T) (hT : WT T) : ex (d + 2) 142 0 [some (vr 7 0 0), some (vi x)] [] O = some (bI (hsI x (nT T)), O) := by
  have := hT.1
  rw [sX7_isThing_0, h.1.1, m_in d O x (nI 0) (nI (nT T) - nI 1) (a := 0) (by decide) rfl, inI_h _ (by omega)]
  simp (disch := omega) only [nI_ltI, nI_eq, nI_add, nI_clamp, ib_n, pk_mul, q_and, q_or, q_dn, q_shl, q_shlm, q_p1, if_true, if_false, ↓reduceIte, Option.bind_some, bI_0, bI_1, bI_01, b_or, Nat.not_lt_zero, Nat.zero_add, Bool.false_eq_true, Bool.true_eq_false, or_false, or_true, true_or, false_or]
theorem n_isSound (d : Nat) (x : Int32) (h : MT (O 7 0) T) (hT : WT T) : ex (d + 2) 143 0 [some (vr 7 0 0), some (vi x)] [] O = some (bI (hsI x (nS T)), O) := by
  have := hT.2.2.1
  rw [sX7_isSound_0, h.1.2.2.1, m_in d O x (nI 0) (nI (nS T) - nI 1) (a := 0) (by decide) rfl, inI_h _ (by omega)]
  simp (disch := omega) only [nI_ltI, nI_eq, nI_add, nI_clamp, ib_n, pk_mul, q_and, q_or, q_dn, q_shl, q_shlm, q_p1, if_true, if_false, ↓reduceIte, Option.bind_some, bI_0, bI_1, bI_01, b_or, Nat.not_lt_zero, Nat.zero_add, Bool.false_eq_true, Bool.true_eq_false, or_false, or_true, true_or, false_or]
theorem n_isKind (d : Nat) (x : Int32) (h : MT (O 7 0) T) (hT : WT T) : ex (d + 2) 144 0 [some (vr 7 0 0), some (vi x)] [] O = some (bI (hsI x (nK T)), O) := by
  have := hT.2.2.2.1
  rw [sX7_isKind_0, h.1.2.2.2, m_in d O x (nI 0) (nI (nK T) - nI 1) (a := 0) (by decide) rfl, inI_h _ (by omega)]
  simp (disch := omega) only [nI_ltI, nI_eq, nI_add, nI_clamp, ib_n, pk_mul, q_and, q_or, q_dn, q_shl, q_shlm, q_p1, if_true, if_false, ↓reduceIte, Option.bind_some, bI_0, bI_1, bI_01, b_or, Nat.not_lt_zero, Nat.zero_add, Bool.false_eq_true, Bool.true_eq_false, or_false, or_true, true_or, false_or]
theorem n_areKinds (d : Nat) (x : Int32) (h : MT (O 7 0) T) (hT : WT T) : ex (d + 2) 145 0 [some (vr 7 0 0), some (vi x)] [] O = some (bI (hsI x (2 ^ nK T)), O) := by
  have := hT.2.2.2.1
  have h2 : 2 ^ nK T ≤ 2 ^ 6 := Nat.pow_le_pow_right (by decide) this
  rw [sX7_areKinds_0, h.1.2.2.2, q_shl _ (by omega), m_in d O x (nI 0) (nI (2 ^ nK T) - nI 1) (a := 0) (by decide) rfl, inI_h _ (by omega)]
  simp (disch := omega) only [nI_ltI, nI_eq, nI_add, nI_clamp, ib_n, pk_mul, q_and, q_or, q_dn, q_shl, q_shlm, q_p1, if_true, if_false, ↓reduceIte, Option.bind_some, bI_0, bI_1, bI_01, b_or, Nat.not_lt_zero, Nat.zero_add, Bool.false_eq_true, Bool.true_eq_false, or_false, or_true, true_or, false_or]
theorem n_marksOf (d : Nat) {m : Nat} (hm : m < nM T) (h : MT (O 7 0) T) (hT : WT T) : ex (d + 2) 146 0 [some (vr 7 0 0), some (vi (nI m))] [] O = some (nI (asks T m), O) := by
  have := hT.2.1
  obtain ⟨h1, h2, h3⟩ := hT.2.2.2.2.2.1 m
  obtain ⟨g1, g2, g3⟩ := h.2.2.1 m hm
  rw [sX7_marksOf_0]
  simp (disch := omega) only [nI_ltI, nI_eq, nI_add, nI_clamp, ib_n, pk_mul, q_and, q_or, q_dn, q_shl, q_shlm, q_p1, if_true, if_false, ↓reduceIte, Option.bind_some, bI_0, bI_1, bI_01, b_or, Nat.not_lt_zero, Nat.zero_add, Bool.false_eq_true, Bool.true_eq_false, or_false, or_true, true_or, false_or, g1, g2, m_countOf]
  have e : asks T m = cnt (hs_ T m) 16 + cnt (hn_ T m) 16 := by
    unfold asks
    rw [cnt_or h3, cnt_hi (k := 8) h1 16 (by decide), cnt_hi (k := 8) h2 16 (by decide)]
  rw [e]
theorem itn_ms0 (f : Nat → Bool) : ∀ n, itn (fun k a => if f k = true then a ||| 2 ^ k else a ||| 0) n 0 = ms n f
  | 0 => rfl
  | n + 1 => by
    show (if f n = true then itn _ n 0 ||| 2 ^ n else itn _ n 0 ||| 0) = _
    rw [itn_ms0 f n, Nat.or_zero]; rfl
theorem n_canThink (d : Nat) {k : Nat} (hk : k < nK T) (h : MT (O 7 0) T) (hT : WT T) : ex (d + 1) 147 0 [some (vr 7 0 0), some (vi (nI k))] [] O = some (nI (can T k), O) := by
  have h12 := hT.2.1
  have h6 := hT.2.2.2.1
  rw [sX7_canThink_0]
  refine (lp_n (fun m a => ex (d + 1) 147 4 [some (vr 7 0 0), some (vi (nI k)), some (vi (nI a)), some (vi (nI m))] [] O) (fun m a => if (dn (hs_ T m ||| hn_ T m) (se_ T k) == 0) = true then a ||| 2 ^ m else a ||| 0) (nM T) (fun m a hm => ?_) 0).trans ?_
  · obtain ⟨g1, g2, g3⟩ := h.2.2.1 m hm
    obtain ⟨h1, h2, h3⟩ := hT.2.2.2.2.2.1 m
    have h4 : hs_ T m ||| hn_ T m < 2 ^ 8 := Nat.or_lt_two_pow h1 h2
    have := dn_le (hs_ T m ||| hn_ T m) (se_ T k)
    refine (sX7_canThink_4 ..).trans ?_
    simp (disch := omega) only [nI_ltI, nI_eq, nI_add, nI_clamp, ib_n, pk_mul, q_and, q_or, q_dn, q_shl, q_shlm, q_p1, if_true, if_false, ↓reduceIte, Option.bind_some, bI_0, bI_1, bI_01, b_or, Nat.not_lt_zero, Nat.zero_add, Bool.false_eq_true, Bool.true_eq_false, or_false, or_true, true_or, false_or, h.1.2.1, hm, g1, g2, (h.2.2.2.2 k hk).2.1, beq_iff_eq]
    split <;> rfl
  · refine (sX7_canThink_4 ..).trans ?_
    simp (disch := omega) only [nI_ltI, nI_eq, nI_add, nI_clamp, ib_n, pk_mul, q_and, q_or, q_dn, q_shl, q_shlm, q_p1, if_true, if_false, ↓reduceIte, Option.bind_some, bI_0, bI_1, bI_01, b_or, Nat.not_lt_zero, Nat.zero_add, Bool.false_eq_true, Bool.true_eq_false, or_false, or_true, true_or, false_or, h.1.2.1, Nat.lt_irrefl, itn_ms0]
    rfl
theorem n_targetOf (d : Nat) {s : Nat} (hs : s < nS T) (h : MT (O 7 0) T) (hT : WT T) : ex (d + 1) 148 0 [some (vr 7 0 0), some (vi (nI s))] [] O = some (nI (tgA T s), O) := by
  have h4 := hT.2.2.1
  have h12 := hT.2.1
  have ht := hT.2.2.2.2.2.2.1 s hs
  rw [sX7_targetOf_0]
  simp (disch := omega) only [nI_ltI, nI_eq, nI_add, nI_clamp, ib_n, pk_mul, q_and, q_or, q_dn, q_shl, q_shlm, q_p1, if_true, if_false, ↓reduceIte, Option.bind_some, bI_0, bI_1, bI_01, b_or, Nat.not_lt_zero, Nat.zero_add, Bool.false_eq_true, Bool.true_eq_false, or_false, or_true, true_or, false_or, h.2.2.2.1 s hs, (h.2.2.1 _ ht).2.2]
  rfl
theorem n_isTrue (d : Nat) {s t : Nat} (hs : s < nS T) (ht : t < 31) (h : MT (O 7 0) T) (hT : WT T) : ex (d + 2) 164 0 [some (vr 7 0 0), some (vi (nI s)), some (vi (nI t))] [] O = some (bI (isTg T s t), O) := by
  have := tgA_lt hT s
  rw [sX7_isTrue_0]
  simp (disch := omega) only [nI_ltI, nI_eq, nI_add, nI_clamp, ib_n, pk_mul, q_and, q_or, q_dn, q_shl, q_shlm, q_p1, if_true, if_false, ↓reduceIte, Option.bind_some, bI_0, bI_1, bI_01, b_or, Nat.not_lt_zero, Nat.zero_add, Bool.false_eq_true, Bool.true_eq_false, or_false, or_true, true_or, false_or, n_targetOf d hs h hT, q_bit, isTg]
  cases (tgA T s).testBit t <;> simp [bI]
/-- the plainest of a mask, as least of all -/
def isPl (T : Td_) (b : Nat) (n : Nat) (o : Option Nat) : Prop := match o with
  | none => ∀ m, m < n → b.testBit m = false
  | some x => x < n ∧ b.testBit x = true ∧ ∀ m, m < n → b.testBit m = true → asks T x < asks T m ∨ (asks T x = asks T m ∧ x ≤ m)
theorem isPl_uniq {b n : Nat} {o p : Option Nat} (h : isPl T b n o) (g : isPl T b n p) : o = p := by
  cases o with
  | none => cases p with
    | none => rfl
    | some y => have := h y g.1; rw [g.2.1] at this; cases this
  | some x => cases p with
    | none => have := g x h.1; rw [h.2.1] at this; cases this
    | some y =>
      have h1 := h.2.2 y g.1 g.2.1
      have h2 := g.2.2 x h.1 h.2.1
      congr 1
      omega
theorem find_pw {R : Nat → Nat → Prop} {c : Nat → Bool} : ∀ {l : List Nat}, l.Pairwise R → ∀ {x : Nat}, l.find? c = some x → ∀ y, y ∈ l → c y = true → y = x ∨ R x y
  | [], _, _, h, _, _, _ => by cases h
  | a :: l, hp, x, h, y, hy, hc => by
    rw [List.find?_cons] at h
    cases ha : c a with
    | true =>
      rw [ha] at h
      cases h
      rcases List.mem_cons.mp hy with e | e
      · exact Or.inl e
      · exact Or.inr (List.rel_of_pairwise_cons hp e)
    | false =>
      rw [ha] at h
      rcases List.mem_cons.mp hy with e | e
      · rw [e, ha] at hc; cases hc
      · exact find_pw (List.Pairwise.of_cons hp) h y e hc
theorem fpl_pw : (fpl T).Pairwise fun x y => asks T x < asks T y ∨ (asks T x = asks T y ∧ x ≤ y) := by
  unfold fpl
  rw [List.pairwise_flatMap]
  refine ⟨fun a _ => ?_, ?_⟩
  · refine List.Pairwise.imp_of_mem (R := fun x y => x ≤ y) (fun {x y} hx hy hxy => ?_) ((List.pairwise_le_range).filter _)
    have h1 := beq_iff_eq.mp (List.mem_filter.mp hx).2
    have h2 := beq_iff_eq.mp (List.mem_filter.mp hy).2
    exact Or.inr ⟨h1.trans h2.symm, hxy⟩
  · refine List.Pairwise.imp (R := fun x y => x < y) (fun {a b} hab x hx y hy => ?_) List.pairwise_lt_range
    have h1 := beq_iff_eq.mp (List.mem_filter.mp hx).2
    have h2 := beq_iff_eq.mp (List.mem_filter.mp hy).2
    exact Or.inl (by omega)
theorem mem_fpl' {m : Nat} (h : m < nM T) : m ∈ fpl T := by
  unfold fpl
  refine List.mem_flatMap.mpr ⟨asks T m, List.mem_range.mpr (Nat.lt_succ_of_le (cnt_le _ 8)), List.mem_filter.mpr ⟨List.mem_range.mpr h, beq_self_eq_true _⟩⟩
theorem plainest_is (b : Nat) : isPl T b (nM T) (plainest T b) := by
  cases h : plainest T b with
  | none =>
    intro m hm
    have := List.find?_eq_none.mp h m (mem_fpl' hm)
    simpa using this
  | some x =>
    have hx := plainest_lt h
    refine ⟨hx.1, hx.2, fun m hm hb => ?_⟩
    rcases find_pw fpl_pw h m (mem_fpl' hm) hb with e | e
    · exact Or.inr ⟨by rw [e], by omega⟩
    · exact e
theorem n_plainest (d : Nat) {b : Nat} (hb : b < 2 ^ 31) (h : MT (O 7 0) T) (hT : WT T) : ex (d + 3) 156 0 [some (vr 7 0 0), some (vi (nI b))] [] O = some (oI (plainest T b), O) := by
  have h12 := hT.2.1
  rw [sX7_plainest_0]
  refine Exists.elim (lp_i (fun m (o : Option Nat) => ex (d + 3) 156 5 [some (vr 7 0 0), some (vi (nI b)), some (vi (oI o)), some (vi (nI m))] [] O) (fun m o => isPl T b m o) (nM T) ?_ none (fun m hm => by omega)) ?_
  · intro m o hm ho
    cases hbm : b.testBit m with
    | false =>
      refine ⟨o, ?_, ?_⟩
      · refine (sX7_plainest_5 ..).trans ?_
        simp (disch := omega) only [nI_ltI, nI_eq, nI_add, nI_clamp, ib_n, pk_mul, q_and, q_or, q_dn, q_shl, q_shlm, q_p1, if_true, if_false, ↓reduceIte, Option.bind_some, bI_0, bI_1, bI_01, b_or, Nat.not_lt_zero, Nat.zero_add, Bool.false_eq_true, Bool.true_eq_false, or_false, or_true, true_or, false_or, h.1.2.1, hm, q_bit, hbm]
      · cases o with
        | none =>
          intro q hq
          by_cases e : q = m
          · rw [e, hbm]
          · exact ho q (by omega)
        | some x =>
          refine ⟨by have := ho.1; omega, ho.2.1, fun q hq hb => ?_⟩
          have : q ≠ m := fun e => by rw [e, hbm] at hb; cases hb
          exact ho.2.2 q (by omega) hb
    | true =>
      cases o with
      | none =>
        refine ⟨some m, ?_, Nat.lt_succ_self _, hbm, fun q hq hb => ?_⟩
        · refine (sX7_plainest_5 ..).trans ?_
          simp (disch := omega) only [nI_ltI, nI_eq, nI_add, nI_clamp, ib_n, pk_mul, q_and, q_or, q_dn, q_shl, q_shlm, q_p1, if_true, if_false, ↓reduceIte, Option.bind_some, bI_0, bI_1, bI_01, b_or, Nat.not_lt_zero, Nat.zero_add, Bool.false_eq_true, Bool.true_eq_false, or_false, or_true, true_or, false_or, h.1.2.1, hm, q_bit, hbm]
          rfl
        · by_cases e : q = m
          · exact Or.inr ⟨by rw [e], by omega⟩
          · have := ho q (by omega); rw [this] at hb; cases hb
      | some x =>
        have hx := ho.1
        have a1 : asks T m ≤ 8 := cnt_le _ 8
        have a2 : asks T x ≤ 8 := cnt_le _ 8
        have hne := oI_sn (j := x) (by omega)
        refine ⟨if asks T m < asks T x then some m else some x, ?_, ?_⟩
        · refine (sX7_plainest_5 ..).trans ?_
          simp (disch := omega) only [nI_ltI, nI_eq, nI_add, nI_clamp, ib_n, pk_mul, q_and, q_or, q_dn, q_shl, q_shlm, q_p1, if_true, if_false, ↓reduceIte, Option.bind_some, bI_0, bI_1, bI_01, b_or, Nat.not_lt_zero, Nat.zero_add, Bool.false_eq_true, Bool.true_eq_false, or_false, or_true, true_or, false_or, h.1.2.1, hm, q_bit, hbm, hne]
          rw [n_marksOf _ hm h hT]
          simp only [oI, Option.bind_some]
          rw [n_marksOf _ (by omega) h hT]
          simp (disch := omega) only [nI_ltI, nI_eq, nI_add, nI_clamp, ib_n, pk_mul, q_and, q_or, q_dn, q_shl, q_shlm, q_p1, if_true, if_false, ↓reduceIte, Option.bind_some, bI_0, bI_1, bI_01, b_or, Nat.not_lt_zero, Nat.zero_add, Bool.false_eq_true, Bool.true_eq_false, or_false, or_true, true_or, false_or]
          split <;> rfl
        · by_cases hlt : asks T m < asks T x
          · rw [if_pos hlt]
            refine ⟨Nat.lt_succ_self _, hbm, fun q hq hb => ?_⟩
            by_cases e : q = m
            · exact Or.inr ⟨by rw [e], by omega⟩
            · have := ho.2.2 q (by omega) hb; omega
          · rw [if_neg hlt]
            refine ⟨by omega, ho.2.1, fun q hq hb => ?_⟩
            by_cases e : q = m
            · subst e; omega
            · exact ho.2.2 q (by omega) hb
  · rintro o ⟨e, ho⟩
    refine e.trans ((sX7_plainest_5 ..).trans ?_)
    simp (disch := omega) only [nI_ltI, nI_eq, nI_add, nI_clamp, ib_n, pk_mul, q_and, q_or, q_dn, q_shl, q_shlm, q_p1, if_true, if_false, ↓reduceIte, Option.bind_some, bI_0, bI_1, bI_01, b_or, Nat.not_lt_zero, Nat.zero_add, Bool.false_eq_true, Bool.true_eq_false, or_false, or_true, true_or, false_or, h.1.2.1, Nat.lt_irrefl]
    rw [isPl_uniq ho (plainest_is b)]
theorem n_areAllOne (d : Nat) {b : Nat} (hb : b < 2 ^ nM T) (h : MT (O 7 0) T) (hT : WT T) : ex (d + 4) 157 0 [some (vr 7 0 0), some (vi (nI b))] [] O = some (bI ((plainest T b).all fun m => dn b (alike T m) == 0), O) := by
  have h12 := hT.2.1
  have hb2 : b < 4096 := Nat.lt_of_lt_of_le hb (Nat.pow_le_pow_right (n := 2) (by decide) h12)
  rw [sX7_areAllOne_0, n_plainest _ (by omega) h hT]
  simp (disch := omega) only [nI_ltI, nI_eq, nI_add, nI_clamp, ib_n, pk_mul, q_and, q_or, q_dn, q_shl, q_shlm, q_p1, if_true, if_false, ↓reduceIte, Option.bind_some, bI_0, bI_1, bI_01, b_or, Nat.not_lt_zero, Nat.zero_add, Bool.false_eq_true, Bool.true_eq_false, or_false, or_true, true_or, false_or]
  refine Exists.elim (lp_i (fun m (a : Bool) => ex (d + 4) 157 11 [some (vr 7 0 0), some (vi (nI b)), some (vi (oI (plainest T b))), some (vi (bI a)), some (vi (nI m))] [] O) (fun m a => a = (List.range m).all fun q => !b.testBit q || (plainest T b).all fun x => are T x == are T q) (nM T) ?_ true (by simp)) ?_
  · intro m a hm ha
    have am := are_lt hT m
    cases ac : a with
    | false =>
      refine ⟨false, ?_, ?_⟩
      · refine (sX7_areAllOne_11 ..).trans ?_
        simp (disch := omega) only [nI_ltI, nI_eq, nI_add, nI_clamp, ib_n, pk_mul, q_and, q_or, q_dn, q_shl, q_shlm, q_p1, if_true, if_false, ↓reduceIte, Option.bind_some, bI_0, bI_1, bI_01, b_or, Nat.not_lt_zero, Nat.zero_add, Bool.false_eq_true, Bool.true_eq_false, or_false, or_true, true_or, false_or, h.1.2.1, hm]
        rfl
      · rw [List.range_succ, List.all_append, ← ha, ac]; rfl
    | true =>
      cases hbm : b.testBit m with
      | false =>
        refine ⟨true, ?_, ?_⟩
        · refine (sX7_areAllOne_11 ..).trans ?_
          simp (disch := omega) only [nI_ltI, nI_eq, nI_add, nI_clamp, ib_n, pk_mul, q_and, q_or, q_dn, q_shl, q_shlm, q_p1, if_true, if_false, ↓reduceIte, Option.bind_some, bI_0, bI_1, bI_01, b_or, Nat.not_lt_zero, Nat.zero_add, Bool.false_eq_true, Bool.true_eq_false, or_false, or_true, true_or, false_or, h.1.2.1, hm, q_bitv, hbm]
          rfl
        · rw [List.range_succ, List.all_append, ← ha, ac]; simp [hbm]
      | true =>
        cases hp : plainest T b with
        | none =>
          have := plainest_is (T := T) b
          rw [hp] at this
          have := this m hm
          rw [hbm] at this; cases this
        | some x =>
          have hx := (plainest_lt hp).1
          have ax := are_lt hT x
          refine ⟨are T x == are T m, ?_, ?_⟩
          · refine (sX7_areAllOne_11 ..).trans ?_
            simp only [oI]
            simp (disch := omega) only [nI_ltI, nI_eq, nI_add, nI_clamp, ib_n, pk_mul, q_and, q_or, q_dn, q_shl, q_shlm, q_p1, if_true, if_false, ↓reduceIte, Option.bind_some, bI_0, bI_1, bI_01, b_or, Nat.not_lt_zero, Nat.zero_add, Bool.false_eq_true, Bool.true_eq_false, or_false, or_true, true_or, false_or, h.1.2.1, hm, q_bitv, hbm, (h.2.2.1 x hx).2.2, (h.2.2.1 m hm).2.2]
            by_cases e : are T m = are T x
            · simp [e, bI]
            · have e2 : ¬ are T x = are T m := fun q => e q.symm
              have e3 : (are T x == are T m) = false := beq_false_of_ne e2
              simp [e, e3, bI]
          · rw [List.range_succ, List.all_append, ← hp, ← ha, ac]; simp [hbm, hp]
  · rintro a ⟨e, ha⟩
    refine e.trans ((sX7_areAllOne_11 ..).trans ?_)
    simp (disch := omega) only [nI_ltI, nI_eq, nI_add, nI_clamp, ib_n, pk_mul, q_and, q_or, q_dn, q_shl, q_shlm, q_p1, if_true, if_false, ↓reduceIte, Option.bind_some, bI_0, bI_1, bI_01, b_or, Nat.not_lt_zero, Nat.zero_add, Bool.false_eq_true, Bool.true_eq_false, or_false, or_true, true_or, false_or, h.1.2.1, Nat.lt_irrefl]
    congr 3
    rw [ha]
    cases hp : plainest T b with
    | none =>
      have := plainest_is (T := T) b
      rw [hp] at this
      simp only [Option.all_none, Bool.or_true, List.all_eq_true, implies_true]
    | some x =>
      rw [Bool.eq_iff_iff]
      simp only [Option.all_some, List.all_eq_true, List.mem_range, beq_iff_eq, Bool.or_eq_true, Bool.not_eq_true']
      constructor
      · intro g
        apply Nat.eq_of_testBit_eq
        intro q
        rw [dn_bit, Nat.zero_testBit, alike, ms_bit]
        by_cases hq : q < nM T
        · rcases g q hq with z | z
          · simp [z]
          · simp [hq, z]
        · rw [Nat.testBit_lt_two_pow (Nat.lt_of_lt_of_le hb (Nat.pow_le_pow_right (by decide) (by omega)))]
          rfl
      · intro g q hq
        have := congrArg (fun z => z.testBit q) g
        simp only [dn_bit, Nat.zero_testBit, alike, ms_bit, hq, decide_true, Bool.true_and] at this
        cases hbq : b.testBit q with
        | false => exact Or.inl rfl
        | true => rw [hbq] at this; simp at this; exact Or.inr this
end
end
end
section
/-! THE MODEL'S MINDS. -/
section
/-- only a stretch of the state's row is changed -/
def NX (a l : Nat) (O O' : Mem_) : Prop := Ro 7 0 O O' ∧ ∀ p q, ¬ (p = 28 ∧ a ≤ q ∧ q < a + l) → O' 7 0 p q = O 7 0 p q
theorem NX.rfl {a l : Nat} {O : Mem_} : NX a l O O := ⟨Ro.rfl, fun _ _ _ => Eq.refl _⟩
theorem NX.trans {a l : Nat} {O O' O2 : Mem_} (h : NX a l O O') (g : NX a l O' O2) : NX a l O O2 := ⟨h.1.trans g.1, fun p q z => (g.2 p q z).trans (h.2 p q z)⟩
theorem NX.up {a l j : Nat} {v : Int32} {O O' : Mem_} (h : NX a l O O') (hj : a ≤ j ∧ j < a + l) : NX a l O (up O' 7 0 28 j v) := ⟨h.1.up, fun p q z => (up_ne (fun e => z ⟨e.1, by omega, by omega⟩)).trans (h.2 p q z)⟩
theorem NX.wide {a l a' l' : Nat} {O O' : Mem_} (h : NX a l O O') (h1 : a' ≤ a) (h2 : a + l ≤ a' + l') : NX a' l' O O' := ⟨h.1, fun p q z => h.2 p q (fun e => z ⟨e.1, by omega, by omega⟩)⟩
theorem MT.nx {a l : Nat} {O O' : Mem_} {T : Td_} (h : NX a l O O') (g : MT (O 7 0) T) : MT (O' 7 0) T := by
  have e : ∀ p q, p ≠ 28 → O' 7 0 p q = O 7 0 p q := fun p q z => h.2 p q (fun e => z e.1)
  refine ⟨⟨?_, ?_, ?_, ?_⟩, fun t ht => ?_, fun m hm => ⟨?_, ?_, ?_⟩, fun s hs => ?_, fun k hk => ⟨?_, ?_, ?_, ?_, ?_⟩⟩ <;> rw [e _ _ (by decide)]
  · exact g.1.1
  · exact g.1.2.1
  · exact g.1.2.2.1
  · exact g.1.2.2.2
  · exact g.2.1 t ht
  · exact (g.2.2.1 m hm).1
  · exact (g.2.2.1 m hm).2.1
  · exact (g.2.2.1 m hm).2.2
  · exact g.2.2.2.1 s hs
  · exact (g.2.2.2.2 k hk).1
  · exact (g.2.2.2.2 k hk).2.1
  · exact (g.2.2.2.2 k hk).2.2.1
  · exact (g.2.2.2.2 k hk).2.2.2.1
  · exact (g.2.2.2.2 k hk).2.2.2.2
/-- a kind's cells, from a on -/
def KN (R : Nat → Nat → Int32) (a : Nat) (μ : Mi_) : Prop := (∀ s, s < 4 → R 28 (a + s) = oI (μ.1 s) ∧ R 28 (a + 4 + s) = nI (μ.2.1 s)) ∧ R 28 (a + 8) = oI μ.2.2.1 ∧ R 28 (a + 9) = oI μ.2.2.2
theorem KN.nx {a l b : Nat} {O O' : Mem_} {μ : Mi_} (h : NX a l O O') (hd : b + 10 ≤ a ∨ a + l ≤ b) (g : KN (O 7 0) b μ) : KN (O' 7 0) b μ := by
  refine ⟨fun s hs => ⟨?_, ?_⟩, ?_, ?_⟩ <;> rw [h.2 _ _ (by omega)]
  · exact (g.1 s hs).1
  · exact (g.1 s hs).2
  · exact g.2.1
  · exact g.2.2
/-- what fits by the things that it was said of, and those that it was denied of -/
def fitSN (T : Td_) (S N : Nat) : Nat := ms (nM T) fun m => dn S (are T m) == 0 && (N &&& are T m == 0)
section
variable {T : Td_} {O : Mem_}
theorem b0 (x : Nat) : (x == 0) = decide (x = 0) := by rw [Bool.eq_iff_iff]; simp
theorem n_fitsIn (d : Nat) {b s m S N : Nat} (hb : b ≤ 140) (hs : s < 4) (hm : m < nM T) (h : MT (O 7 0) T) (hT : WT T) (h1 : O 7 0 28 (b + 60 + s) = nI S) (h2 : O 7 0 28 (b + 64 + s) = nI N) (hS : S < 2 ^ 31) (hN : N < 2 ^ 31) : ex (d + 1) 154 0 [some (vr 7 0 0), some (vi (nI b)), some (vi (nI s)), some (vi (nI m))] [] O = some (bI (dn S (are T m) == 0 && (N &&& are T m == 0)), O) := by
  have h12 := hT.2.1
  have hd := dn_le S (are T m)
  have ha : N &&& are T m ≤ N := Nat.and_le_left
  rw [sX7_fitsIn_0]
  simp (disch := omega) only [nI_ltI, nI_eq, nI_add, nI_clamp, ib_n, pk_mul, q_and, q_or, q_dn, q_shl, q_shlm, q_p1, if_true, if_false, ↓reduceIte, Option.bind_some, bI_0, bI_1, bI_01, b_or, Nat.not_lt_zero, Nat.zero_add, Bool.false_eq_true, Bool.true_eq_false, or_false, or_true, true_or, false_or, h1, h2, (h.2.2.1 m hm).2.2]
  simp only [b0]
  by_cases e1 : dn S (are T m) = 0 <;> by_cases e2 : N &&& are T m = 0 <;> simp [e1, e2, bI]
theorem n_allThatFit (d : Nat) {b s S N : Nat} (hb : b ≤ 140) (hs : s < 4) (h : MT (O 7 0) T) (hT : WT T) (h1 : O 7 0 28 (b + 60 + s) = nI S) (h2 : O 7 0 28 (b + 64 + s) = nI N) (hS : S < 2 ^ 31) (hN : N < 2 ^ 31) : ex (d + 2) 155 0 [some (vr 7 0 0), some (vi (nI b)), some (vi (nI s))] [] O = some (nI (fitSN T S N), O) := by
  have h12 := hT.2.1
  rw [sX7_allThatFit_0]
  refine (lp_n (fun m a => ex (d + 2) 155 5 [some (vr 7 0 0), some (vi (nI b)), some (vi (nI s)), some (vi (nI a)), some (vi (nI m))] [] O) (fun m a => if (dn S (are T m) == 0 && (N &&& are T m == 0)) = true then a ||| 2 ^ m else a ||| 0) (nM T) (fun m a hm => ?_) 0).trans ?_
  · refine (sX7_allThatFit_5 ..).trans ?_
    simp (disch := omega) only [nI_ltI, nI_eq, nI_add, nI_clamp, ib_n, pk_mul, q_and, q_or, q_dn, q_shl, q_shlm, q_p1, if_true, if_false, ↓reduceIte, Option.bind_some, bI_0, bI_1, bI_01, b_or, Nat.not_lt_zero, Nat.zero_add, Bool.false_eq_true, Bool.true_eq_false, or_false, or_true, true_or, false_or, h.1.2.1, hm, n_fitsIn d hb hs hm h hT h1 h2 hS hN]
    cases (dn S (are T m) == 0 && (N &&& are T m == 0)) <;> simp
  · refine (sX7_allThatFit_5 ..).trans ?_
    simp (disch := omega) only [nI_ltI, nI_eq, nI_add, nI_clamp, ib_n, pk_mul, q_and, q_or, q_dn, q_shl, q_shlm, q_p1, if_true, if_false, ↓reduceIte, Option.bind_some, bI_0, bI_1, bI_01, b_or, Nat.not_lt_zero, Nat.zero_add, Bool.false_eq_true, Bool.true_eq_false, or_false, or_true, true_or, false_or, h.1.2.1, Nat.lt_irrefl, itn_ms0]
    rfl
theorem n_proudLooks (d : Nat) {a s B w : Nat} {th : Option Nat} {ag : Bool} (ha : a + 10 ≤ 210) (hs : s < 4) (hB : B < 2 ^ 31) (b1 : ∀ m, th = some m → m < 2 ^ 31) (hw : w < 2) (h : MT (O 7 0) T) (hT : WT T) (h1 : O 7 0 28 (a + s) = oI th) (h2 : O 7 0 28 (a + 4 + s) = nI w) (hag : th = none → ag = false) : ex (d + 4) 158 0 [some (vr 7 0 0), some (vi (nI a)), some (vi (nI s)), some (vi (nI B)), some (vi (bI ag))] [] O = some (nI 0, (let w' := if th.isSome && ag then w + 1 else w; if th.isNone || decide (2 ≤ w') then up (up O 7 0 28 (a + s) (oI (plainest T B))) 7 0 28 (a + 4 + s) (nI 0) else up O 7 0 28 (a + 4 + s) (nI w'))) := by
  have k65 : ∀ (O : Mem_), MT (O 7 0) T → ex (d + 4) 158 65 [some (vr 7 0 0), some (vi (nI a)), some (vi (nI s)), some (vi (nI B)), none, some (vi (nI 1))] [] O = some (nI 0, up (up O 7 0 28 (a + s) (oI (plainest T B))) 7 0 28 (a + 4 + s) (nI 0)) := by
    intro O h
    rw [sX7_proudLooks_65]
    simp (disch := omega) only [nI_ltI, nI_eq, nI_add, nI_clamp, ib_n, pk_mul, q_and, q_or, q_dn, q_shl, q_shlm, q_p1, if_true, if_false, ↓reduceIte, Option.bind_some, bI_0, bI_1, bI_01, b_or, Nat.not_lt_zero, Nat.zero_add, Bool.false_eq_true, Bool.true_eq_false, or_false, or_true, true_or, false_or]
    rw [n_plainest _ hB h hT]
    simp (disch := omega) only [nI_ltI, nI_eq, nI_add, nI_clamp, ib_n, pk_mul, q_and, q_or, q_dn, q_shl, q_shlm, q_p1, if_true, if_false, ↓reduceIte, Option.bind_some, bI_0, bI_1, bI_01, b_or, Nat.not_lt_zero, Nat.zero_add, Bool.false_eq_true, Bool.true_eq_false, or_false, or_true, true_or, false_or]
    rfl
  rw [sX7_proudLooks_0]
  simp (disch := omega) only [nI_ltI, nI_eq, nI_add, nI_clamp, ib_n, pk_mul, q_and, q_or, q_dn, q_shl, q_shlm, q_p1, if_true, if_false, ↓reduceIte, Option.bind_some, bI_0, bI_1, bI_01, b_or, Nat.not_lt_zero, Nat.zero_add, Bool.false_eq_true, Bool.true_eq_false, or_false, or_true, true_or, false_or, h1]
  cases th with
  | none =>
    rw [if_pos rfl, sX7_proudLooks_18]
    simp (disch := omega) only [nI_ltI, nI_eq, nI_add, nI_clamp, ib_n, pk_mul, q_and, q_or, q_dn, q_shl, q_shlm, q_p1, if_true, if_false, ↓reduceIte, Option.bind_some, bI_0, bI_1, bI_01, b_or, Nat.not_lt_zero, Nat.zero_add, Bool.false_eq_true, Bool.true_eq_false, or_false, or_true, true_or, false_or]
    rw [k65 O h]
    rfl
  | some x =>
    rw [if_neg (oI_sn (b1 x rfl)), sX7_proudLooks_18]
    simp (disch := omega) only [nI_ltI, nI_eq, nI_add, nI_clamp, ib_n, pk_mul, q_and, q_or, q_dn, q_shl, q_shlm, q_p1, if_true, if_false, ↓reduceIte, Option.bind_some, bI_0, bI_1, bI_01, b_or, Nat.not_lt_zero, Nat.zero_add, Bool.false_eq_true, Bool.true_eq_false, or_false, or_true, true_or, false_or]
    cases ag with
    | false =>
      simp (disch := omega) only [nI_ltI, nI_eq, nI_add, nI_clamp, ib_n, pk_mul, q_and, q_or, q_dn, q_shl, q_shlm, q_p1, if_true, if_false, ↓reduceIte, Option.bind_some, bI_0, bI_1, bI_01, b_or, Nat.not_lt_zero, Nat.zero_add, Bool.false_eq_true, Bool.true_eq_false, or_false, or_true, true_or, false_or]
      rw [sX7_proudLooks_65]
      simp (disch := omega) only [nI_ltI, nI_eq, nI_add, nI_clamp, ib_n, pk_mul, q_and, q_or, q_dn, q_shl, q_shlm, q_p1, if_true, if_false, ↓reduceIte, Option.bind_some, bI_0, bI_1, bI_01, b_or, Nat.not_lt_zero, Nat.zero_add, Bool.false_eq_true, Bool.true_eq_false, or_false, or_true, true_or, false_or]
      have hw2 : ¬ 2 ≤ w := by omega
      simp [hw2, up_same h2]
    | true =>
      simp (disch := omega) only [nI_ltI, nI_eq, nI_add, nI_clamp, ib_n, pk_mul, q_and, q_or, q_dn, q_shl, q_shlm, q_p1, if_true, if_false, ↓reduceIte, Option.bind_some, bI_0, bI_1, bI_01, b_or, Nat.not_lt_zero, Nat.zero_add, Bool.false_eq_true, Bool.true_eq_false, or_false, or_true, true_or, false_or, h2, up_eq]
      by_cases hw2 : 2 ≤ w + 1
      · have e : w = 1 := by omega
        subst e
        simp (disch := omega) only [nI_ltI, nI_eq, nI_add, nI_clamp, ib_n, pk_mul, q_and, q_or, q_dn, q_shl, q_shlm, q_p1, if_true, if_false, ↓reduceIte, Option.bind_some, bI_0, bI_1, bI_01, b_or, Nat.not_lt_zero, Nat.zero_add, Bool.false_eq_true, Bool.true_eq_false, or_false, or_true, true_or, false_or]
        rw [k65 _ (h.nx (NX.rfl.up (a := a) (l := 10) (by omega)))]
        simp only [Option.isSome_some, Bool.and_true, if_true, Option.isNone_some, Bool.false_or, Nat.reduceAdd, Nat.le_refl, decide_true]
        rw [up_comm _ _ _ (by omega), up_up, up_comm _ _ _ (by omega)]
      · have e : w = 0 := by omega
        subst e
        simp (disch := omega) only [nI_ltI, nI_eq, nI_add, nI_clamp, ib_n, pk_mul, q_and, q_or, q_dn, q_shl, q_shlm, q_p1, if_true, if_false, ↓reduceIte, Option.bind_some, bI_0, bI_1, bI_01, b_or, Nat.not_lt_zero, Nat.zero_add, Bool.false_eq_true, Bool.true_eq_false, or_false, or_true, true_or, false_or, sX7_proudLooks_65]
        simp [sX7_proudLooks_65]
theorem fitg_bit {x t : Nat} {so : Bool} (hx : x < nM T) (ht : t < nT T) : (fitg T t so).testBit x = ((are T x).testBit t == so) := by
  have e1 : (are T x).testBit t = isA T x t := by rw [are, ms_bit, decide_eq_true ht, Bool.true_and]
  have e2 : (isIt T t).testBit x = isA T x t := by rw [isIt, ms_bit, decide_eq_true hx, Bool.true_and]
  rw [e1]
  cases so with
  | true => rw [fitg, if_pos rfl, e2]; simp
  | false =>
    rw [fitg, if_neg (by decide), dn_bit, e2, Nat.testBit_two_pow_sub_one, decide_eq_true hx]
    simp
theorem dn_or (a b c : Nat) : dn (a ||| b) c = 0 ↔ dn a c = 0 ∧ dn b c = 0 := by
  have key : ∀ x : Nat, x = 0 ↔ ∀ i, x.testBit i = false := fun x => ⟨fun h i => by rw [h, Nat.zero_testBit], fun h => Nat.eq_of_testBit_eq (fun i => by rw [h i, Nat.zero_testBit])⟩
  rw [key, key (dn a c), key (dn b c)]
  simp only [dn_bit, Nat.testBit_or]
  constructor
  · intro h
    refine ⟨fun i => ?_, fun i => ?_⟩ <;> have := h i <;> revert this <;> cases a.testBit i <;> cases b.testBit i <;> cases c.testBit i <;> decide
  · intro ⟨h1, h2⟩ i
    have := h1 i
    have := h2 i
    revert this
    revert this
    cases a.testBit i <;> cases b.testBit i <;> cases c.testBit i <;> decide
theorem dn_pow (t c : Nat) : dn (2 ^ t) c = 0 ↔ c.testBit t = true := by
  constructor
  · intro h
    have := congrArg (fun z => z.testBit t) h
    simp only [dn_bit, Nat.testBit_two_pow_self, Nat.zero_testBit, Bool.true_and] at this
    cases hc : c.testBit t
    · rw [hc] at this; cases this
    · rfl
  · intro h
    apply Nat.eq_of_testBit_eq
    intro i
    rw [dn_bit, Nat.zero_testBit]
    by_cases e : t = i
    · subst e; rw [h, Bool.not_true, Bool.and_false]
    · rw [Nat.testBit_two_pow_of_ne e, Bool.false_and]
theorem and_pow (t c : Nat) : 2 ^ t &&& c = 0 ↔ c.testBit t = false := by
  constructor
  · intro h
    have := congrArg (fun z => z.testBit t) h
    simpa [Nat.testBit_and, Nat.testBit_two_pow_self] using this
  · intro h
    apply Nat.eq_of_testBit_eq
    intro i
    rw [Nat.testBit_and, Nat.zero_testBit]
    by_cases e : t = i
    · subst e; rw [h, Bool.and_false]
    · rw [Nat.testBit_two_pow_of_ne e, Bool.false_and]
theorem or_and0 (a b c : Nat) : (a ||| b) &&& c = 0 ↔ a &&& c = 0 ∧ b &&& c = 0 := by
  rw [Nat.and_or_distrib_right, Nat.or_eq_zero_iff]
theorem fitSN_t {S N t : Nat} (ht : t < nT T) : fitSN T (S ||| 2 ^ t) N = fitSN T S N &&& fitg T t true := by
  apply Nat.eq_of_testBit_eq
  intro m
  rw [Nat.testBit_and, fitSN, fitSN, ms_bit, ms_bit]
  by_cases hm : m < nM T
  · rw [fitg_bit hm ht, decide_eq_true hm]
    rw [Bool.eq_iff_iff]
    simp only [Bool.true_and, Bool.and_eq_true, beq_iff_eq, dn_or, dn_pow]
    constructor
    · rintro ⟨⟨a, b⟩, c⟩; exact ⟨⟨a, c⟩, b⟩
    · rintro ⟨⟨a, c⟩, b⟩; exact ⟨⟨a, b⟩, c⟩
  · rw [decide_eq_false hm]; simp
theorem fitSN_f {S N t : Nat} (ht : t < nT T) : fitSN T S (N ||| 2 ^ t) = fitSN T S N &&& fitg T t false := by
  apply Nat.eq_of_testBit_eq
  intro m
  rw [Nat.testBit_and, fitSN, fitSN, ms_bit, ms_bit]
  by_cases hm : m < nM T
  · rw [fitg_bit hm ht, decide_eq_true hm]
    rw [Bool.eq_iff_iff]
    simp only [Bool.true_and, Bool.and_eq_true, beq_iff_eq, or_and0, and_pow]
    constructor
    · rintro ⟨a, b, c⟩; exact ⟨⟨a, b⟩, c⟩
    · rintro ⟨⟨a, b⟩, c⟩; exact ⟨a, b, c⟩
  · rw [decide_eq_false hm]; simp
theorem chs_lt {f k s : Nat} {th : Nat → Option Nat} (hT : WT T) (hf : f < 2 ^ nM T) : chs T f k s th < 2 ^ nM T := by
  refine Nat.lt_of_le_of_lt (Nat.le_of_testBit fun i hi => ?_) hf
  rw [chs, ms_bit] at hi
  simp only [Bool.and_eq_true] at hi
  exact hi.2.1.1
theorem n_looks (d : Nat) {b k s t S N : Nat} {so : Bool} {μ : Mi_} (hb : b ≤ 140) (hk : k < nK T) (hs : s < nS T) (ht : t < nT T) (h : MT (O 7 0) T) (hT : WT T) (h1 : O 7 0 28 (b + 60 + s) = nI S) (h2 : O 7 0 28 (b + 64 + s) = nI N) (hS : S < 2 ^ 31) (hN : N < 2 ^ 31) (hm : KN (O 7 0) (b + 10 * k) μ) (hw : WMi T μ) : ex (d + 5) 159 0 [some (vr 7 0 0), some (vi (nI b)), some (vi (nI k)), some (vi (nI s)), some (vi (nI t)), some (vi (bI so))] [] O = some (nI 0, up (up (up O 7 0 28 (b + 10 * k + s) (oI (thk T k s t so (fitSN T S N) μ).1)) 7 0 28 (b + 10 * k + 4 + s) (nI (thk T k s t so (fitSN T S N) μ).2)) 7 0 28 (b + 10 * k + 8) (oI ((thk T k s t so (fitSN T S N) μ).1 <|> μ.2.2.1))) := by
  have h6 := hT.2.2.2.1
  have h4 := hT.2.2.1
  have h12 := hT.2.1
  have h8 := hT.1
  have hso := (hT.2.2.2.2.2.2.2.1 k).1
  have hf : fitSN T S N < 2 ^ nM T := ms_lt _ _
  have p12 : 2 ^ nM T ≤ 2 ^ 12 := Nat.pow_le_pow_right (by decide) h12
  have hcl := chs_lt (k := k) (s := s) (th := μ.1) hT hf
  have hc := can_lt hT k
  have hfc : fitSN T S N &&& can T k < 4096 := Nat.lt_of_le_of_lt Nat.and_le_left (by omega)
  obtain ⟨wf1, wf2⟩ := thk_wf (k := k) (s := s) (t := t) (so := so) (f := fitSN T S N) hw
  have m1 := (hm.1 s (by omega)).1
  have m2 := (hm.1 s (by omega)).2
  have m3 := hm.2.1
  have wsm := hw.2.1 s
  rw [sX7_looks_0, n_allThatFit _ hb (by omega) h hT h1 h2 hS hN]
  simp only [Option.bind_some]
  rw [n_canThink _ hk h hT]
  simp (disch := omega) only [nI_ltI, nI_eq, nI_add, nI_clamp, ib_n, pk_mul, q_and, q_or, q_dn, q_shl, q_shlm, q_p1, if_true, if_false, ↓reduceIte, Option.bind_some, bI_0, bI_1, bI_01, b_or, Nat.not_lt_zero, Nat.zero_add, Bool.false_eq_true, Bool.true_eq_false, or_false, or_true, true_or, false_or]
  -- the others' thoughts
  have key : ex (d + 5) 159 25 [some (vr 7 0 0), none, some (vi (nI k)), some (vi (nI s)), some (vi (nI t)), some (vi (bI so)), some (vi (nI (b + 10 * k))), some (vi (nI (fitSN T S N &&& can T k))), some (vi (nI 0))] [] O = ex (d + 5) 159 25 [some (vr 7 0 0), none, some (vi (nI k)), some (vi (nI s)), some (vi (nI t)), some (vi (bI so)), some (vi (nI (b + 10 * k))), some (vi (nI (chs T (fitSN T S N) k s μ.1))), some (vi (nI (nS T)))] [] O := by
    refine Exists.elim (lp_i (fun q a => ex (d + 5) 159 25 [some (vr 7 0 0), none, some (vi (nI k)), some (vi (nI s)), some (vi (nI t)), some (vi (bI so)), some (vi (nI (b + 10 * k))), some (vi (nI a)), some (vi (nI q))] [] O) (fun q a => a < 4096 ∧ ∀ m, m < 12 → a.testBit m = (((fitSN T S N).testBit m && (can T k).testBit m) && !(ul_ T k && (List.range q).any fun q => q != s && μ.1 q == some m))) (nS T) ?_ (fitSN T S N &&& can T k) ⟨hfc, fun m _ => by rw [Nat.testBit_and]; simp⟩) ?_
    · intro q a hq ha
      have mq := (hm.1 q (by omega)).1
      cases hu : ul_ T k with
      | false =>
        refine ⟨a, ?_, ha.1, fun m hm => ?_⟩
        · refine (sX7_looks_25 ..).trans ?_
          simp (disch := omega) only [nI_ltI, nI_eq, nI_add, nI_clamp, ib_n, pk_mul, q_and, q_or, q_dn, q_shl, q_shlm, q_p1, if_true, if_false, ↓reduceIte, Option.bind_some, bI_0, bI_1, bI_01, b_or, Nat.not_lt_zero, Nat.zero_add, Bool.false_eq_true, Bool.true_eq_false, or_false, or_true, true_or, false_or, h.1.2.2.1, hq, (h.2.2.2.2 k hk).2.2.2.1, hu, q_m1]
        · rw [ha.2 m hm, hu]; simp
      | true =>
        by_cases hqs : q = s
        · subst hqs
          refine ⟨a, ?_, ha.1, fun m hm => ?_⟩
          · refine (sX7_looks_25 ..).trans ?_
            simp (disch := omega) only [nI_ltI, nI_eq, nI_add, nI_clamp, ib_n, pk_mul, q_and, q_or, q_dn, q_shl, q_shlm, q_p1, if_true, if_false, ↓reduceIte, Option.bind_some, bI_0, bI_1, bI_01, b_or, Nat.not_lt_zero, Nat.zero_add, Bool.false_eq_true, Bool.true_eq_false, or_false, or_true, true_or, false_or, h.1.2.2.1, hq, (h.2.2.2.2 k hk).2.2.2.1, hu, q_m1]
          · rw [ha.2 m hm, List.range_succ, List.any_append, hu]
            simp
        · cases hth : μ.1 q with
          | none =>
            refine ⟨a, ?_, ha.1, fun m hm => ?_⟩
            · refine (sX7_looks_25 ..).trans ?_
              simp (disch := omega) only [nI_ltI, nI_eq, nI_add, nI_clamp, ib_n, pk_mul, q_and, q_or, q_dn, q_shl, q_shlm, q_p1, if_true, if_false, ↓reduceIte, Option.bind_some, bI_0, bI_1, bI_01, b_or, Nat.not_lt_zero, Nat.zero_add, Bool.false_eq_true, Bool.true_eq_false, or_false, or_true, true_or, false_or, h.1.2.2.1, hq, (h.2.2.2.2 k hk).2.2.2.1, hu, q_m1, hqs, mq, hth]
            · rw [ha.2 m hm, List.range_succ, List.any_append, hu]
              simp [hth]
          | some x =>
            have hx := hw.1 q x hth
            have hn := oI_sn (j := x) (by omega)
            refine ⟨dn a (2 ^ x), ?_, Nat.lt_of_le_of_lt (dn_le _ _) ha.1, fun m hm => ?_⟩
            · refine (sX7_looks_25 ..).trans ?_
              simp (disch := omega) only [nI_ltI, nI_eq, nI_add, nI_clamp, ib_n, pk_mul, q_and, q_or, q_dn, q_shl, q_shlm, q_p1, if_true, if_false, ↓reduceIte, Option.bind_some, bI_0, bI_1, bI_01, b_or, Nat.not_lt_zero, Nat.zero_add, Bool.false_eq_true, Bool.true_eq_false, or_false, or_true, true_or, false_or, h.1.2.2.1, hq, (h.2.2.2.2 k hk).2.2.2.1, hu, q_m1, hqs, mq, hth, hn]
              simp only [oI]
              simp (disch := omega) only [nI_ltI, nI_eq, nI_add, nI_clamp, ib_n, pk_mul, q_and, q_or, q_dn, q_shl, q_shlm, q_p1, if_true, if_false, ↓reduceIte, Option.bind_some, bI_0, bI_1, bI_01, b_or, Nat.not_lt_zero, Nat.zero_add, Bool.false_eq_true, Bool.true_eq_false, or_false, or_true, true_or, false_or]
            · rw [dn_bit, ha.2 m hm, List.range_succ, List.any_append, hu]
              by_cases hxm : x = m
              · subst hxm; simp [hth, hqs]
              · have hb2 : (x == m) = false := beq_false_of_ne hxm
                simp [hth, Nat.testBit_two_pow_of_ne hxm, hb2]
    · rintro a ⟨e, ha, hb⟩
      refine e.trans ?_
      have e2 : a = chs T (fitSN T S N) k s μ.1 := ms_eq (n := 12) ha (fun m hm => by rw [hb m hm, taken])
      rw [e2]
  rw [key]
  generalize hC : chs T (fitSN T S N) k s μ.1 = C at *
  have hC12 : C < 2 ^ 31 := by omega
  -- the tail
  have fin : ∀ (O1 : Mem_), O1 = up (up O 7 0 28 (b + 10 * k + s) (oI (thk T k s t so (fitSN T S N) μ).1)) 7 0 28 (b + 10 * k + 4 + s) (nI (thk T k s t so (fitSN T S N) μ).2) → ex (d + 5) 159 274 [some (vr 7 0 0), none, none, some (vi (nI s)), none, none, some (vi (nI (b + 10 * k)))] [] O1 = some (nI 0, up (up (up O 7 0 28 (b + 10 * k + s) (oI (thk T k s t so (fitSN T S N) μ).1)) 7 0 28 (b + 10 * k + 4 + s) (nI (thk T k s t so (fitSN T S N) μ).2)) 7 0 28 (b + 10 * k + 8) (oI ((thk T k s t so (fitSN T S N) μ).1 <|> μ.2.2.1))) := by
    intro O1 e
    subst e
    rw [sX7_looks_274]
    simp (disch := omega) only [nI_ltI, nI_eq, nI_add, nI_clamp, ib_n, pk_mul, q_and, q_or, q_dn, q_shl, q_shlm, q_p1, if_true, if_false, ↓reduceIte, Option.bind_some, bI_0, bI_1, bI_01, b_or, Nat.not_lt_zero, Nat.zero_add, Bool.false_eq_true, Bool.true_eq_false, or_false, or_true, true_or, false_or, up_ne, up_eq, m3]
    cases e : (thk T k s t so (fitSN T S N) μ).1 with
    | none => rw [if_pos rfl]; rfl
    | some x => rw [if_neg (oI_sn (by have := wf1 x e; omega))]; rfl
  have up3 : ∀ (v : Int32), up (up O 7 0 28 (b + 10 * k + s) v) 7 0 28 (b + 10 * k + 4 + s) (nI (μ.2.1 s)) = up O 7 0 28 (b + 10 * k + s) v := fun v => up_same (by rw [up_ne (by omega), m2])
  refine (sX7_looks_25 ..).trans ?_
  have hcase : so_ T k = 0 ∨ so_ T k = 1 ∨ so_ T k = 2 ∨ so_ T k = 3 := by omega
  have k267 : ∀ v, thk T k s t so (fitSN T S N) μ = (plainest T C, v) → v = μ.2.1 s → ex (d + 5) 159 267 [some (vr 7 0 0), none, none, some (vi (nI s)), none, none, some (vi (nI (b + 10 * k))), some (vi (nI C))] [vi (nI (b + 10 * k + s)), vr 7 0 28] O = some (nI 0, up (up (up O 7 0 28 (b + 10 * k + s) (oI (thk T k s t so (fitSN T S N) μ).1)) 7 0 28 (b + 10 * k + 4 + s) (nI (thk T k s t so (fitSN T S N) μ).2)) 7 0 28 (b + 10 * k + 8) (oI ((thk T k s t so (fitSN T S N) μ).1 <|> μ.2.2.1))) := by
    intro v hv hv2
    rw [sX7_looks_267, n_plainest _ hC12 h hT]
    simp (disch := omega) only [nI_ltI, nI_eq, nI_add, nI_clamp, ib_n, pk_mul, q_and, q_or, q_dn, q_shl, q_shlm, q_p1, if_true, if_false, ↓reduceIte, Option.bind_some, bI_0, bI_1, bI_01, b_or, Nat.not_lt_zero, Nat.zero_add, Bool.false_eq_true, Bool.true_eq_false, or_false, or_true, true_or, false_or]
    refine fin _ ?_
    rw [hv, hv2, up3]
  rcases hcase with e | e | e | e
  · simp (disch := omega) only [nI_ltI, nI_eq, nI_add, nI_clamp, ib_n, pk_mul, q_and, q_or, q_dn, q_shl, q_shlm, q_p1, if_true, if_false, ↓reduceIte, Option.bind_some, bI_0, bI_1, bI_01, b_or, Nat.not_lt_zero, Nat.zero_add, Bool.false_eq_true, Bool.true_eq_false, or_false, or_true, true_or, false_or, h.1.2.2.1, Nat.lt_irrefl, (h.2.2.2.2 k hk).1, e, m1, m3]
    exact k267 _ (by rw [thk_0 e, hC]) rfl
  · simp (disch := omega) only [nI_ltI, nI_eq, nI_add, nI_clamp, ib_n, pk_mul, q_and, q_or, q_dn, q_shl, q_shlm, q_p1, if_true, if_false, ↓reduceIte, Option.bind_some, bI_0, bI_1, bI_01, b_or, Nat.not_lt_zero, Nat.zero_add, Bool.false_eq_true, Bool.true_eq_false, or_false, or_true, true_or, false_or, h.1.2.2.1, Nat.lt_irrefl, (h.2.2.2.2 k hk).1, e, m1, m3]
    cases hla : μ.2.2.1 with
    | none =>
      rw [if_pos rfl, ← hla]
      exact k267 _ (by rw [thk_1 e, hC, hla]; rfl) rfl
    | some y =>
      have hy := hw.2.2.1 y hla
      rw [if_neg (oI_sn (by omega)), ← hla]
      simp only [hla, oI]
      simp (disch := omega) only [nI_ltI, nI_eq, nI_add, nI_clamp, ib_n, pk_mul, q_and, q_or, q_dn, q_shl, q_shlm, q_p1, if_true, if_false, ↓reduceIte, Option.bind_some, bI_0, bI_1, bI_01, b_or, Nat.not_lt_zero, Nat.zero_add, Bool.false_eq_true, Bool.true_eq_false, or_false, or_true, true_or, false_or, q_bit]
      cases hby : C.testBit y with
      | false =>
        simp only [Bool.false_eq_true, if_false]
        rw [← hla]
        exact k267 _ (by rw [thk_1 e, hC, hla]; simp [inO, hby]) rfl
      | true =>
        simp only [if_true]
        rw [← hla]
        refine fin _ ?_
        rw [thk_1 e, hC, hla]
        simp only [inO, Option.any_some, hby, if_true]
        rw [up3]; rfl
  · simp (disch := omega) only [nI_ltI, nI_eq, nI_add, nI_clamp, ib_n, pk_mul, q_and, q_or, q_dn, q_shl, q_shlm, q_p1, if_true, if_false, ↓reduceIte, Option.bind_some, bI_0, bI_1, bI_01, b_or, Nat.not_lt_zero, Nat.zero_add, Bool.false_eq_true, Bool.true_eq_false, or_false, or_true, true_or, false_or, h.1.2.2.1, Nat.lt_irrefl, (h.2.2.2.2 k hk).1, e, m1, m3]
    rw [n_areAllOne _ hcl h hT]
    simp (disch := omega) only [nI_ltI, nI_eq, nI_add, nI_clamp, ib_n, pk_mul, q_and, q_or, q_dn, q_shl, q_shlm, q_p1, if_true, if_false, ↓reduceIte, Option.bind_some, bI_0, bI_1, bI_01, b_or, Nat.not_lt_zero, Nat.zero_add, Bool.false_eq_true, Bool.true_eq_false, or_false, or_true, true_or, false_or]
    cases hp : plainest T C with
    | none =>
      simp only [Option.all_none, Bool.true_eq_false, if_false]
      rw [n_plainest _ hC12 h hT]
      simp (disch := omega) only [nI_ltI, nI_eq, nI_add, nI_clamp, ib_n, pk_mul, q_and, q_or, q_dn, q_shl, q_shlm, q_p1, if_true, if_false, ↓reduceIte, Option.bind_some, bI_0, bI_1, bI_01, b_or, Nat.not_lt_zero, Nat.zero_add, Bool.false_eq_true, Bool.true_eq_false, or_false, or_true, true_or, false_or]
      refine fin _ ?_
      rw [thk_2 e, hC, hp, up3]; rfl
    | some x =>
      simp only [Option.all_some]
      by_cases hz : (dn C (alike T x) == 0) = false
      · rw [if_pos hz]
        refine fin _ ?_
        rw [thk_2 e, hC, hp, Option.any_some, hz, if_neg (by decide), up3]
      · rw [if_neg hz]
        rw [n_plainest _ hC12 h hT]
        simp (disch := omega) only [nI_ltI, nI_eq, nI_add, nI_clamp, ib_n, pk_mul, q_and, q_or, q_dn, q_shl, q_shlm, q_p1, if_true, if_false, ↓reduceIte, Option.bind_some, bI_0, bI_1, bI_01, b_or, Nat.not_lt_zero, Nat.zero_add, Bool.false_eq_true, Bool.true_eq_false, or_false, or_true, true_or, false_or]
        refine fin _ ?_
        rw [thk_2 e, hC, hp, Option.any_some, if_pos (by simpa using hz), up3]
  · simp (disch := omega) only [nI_ltI, nI_eq, nI_add, nI_clamp, ib_n, pk_mul, q_and, q_or, q_dn, q_shl, q_shlm, q_p1, if_true, if_false, ↓reduceIte, Option.bind_some, bI_0, bI_1, bI_01, b_or, Nat.not_lt_zero, Nat.zero_add, Bool.false_eq_true, Bool.true_eq_false, or_false, or_true, true_or, false_or, h.1.2.2.1, Nat.lt_irrefl, (h.2.2.2.2 k hk).1, e, m1, m3]
    have pl : ∀ ag : Bool, (μ.1 s = none → ag = false) → ((μ.1 s).isSome && ag) = ((μ.1 s).isSome && !inO (μ.1 s) (fitg T t so)) → ((ex (d + 4) 158 0 [some (vr 7 0 0), some (vi (nI (b + 10 * k))), some (vi (nI s)), some (vi (nI C)), some (vi (bI ag))] [] O).bind fun r1 => ex (d + 5) 159 274 [some (vr 7 0 0), none, none, some (vi (nI s)), none, none, some (vi (nI (b + 10 * k)))] [] r1.2) = some (nI 0, up (up (up O 7 0 28 (b + 10 * k + s) (oI (thk T k s t so (fitSN T S N) μ).1)) 7 0 28 (b + 10 * k + 4 + s) (nI (thk T k s t so (fitSN T S N) μ).2)) 7 0 28 (b + 10 * k + 8) (oI ((thk T k s t so (fitSN T S N) μ).1 <|> μ.2.2.1))) := by
      intro ag g1 g2
      rw [n_proudLooks d (by omega) (by omega) hC12 (oBig (by omega) (hw.1 s)) wsm h hT m1 m2 g1]
      simp only [Option.bind_some]
      refine fin _ ?_
      rw [thk_3 e, hC, g2]
      dsimp only
      generalize (if ((μ.1 s).isSome && !inO (μ.1 s) (fitg T t so)) = true then μ.2.1 s + 1 else μ.2.1 s) = w'
      by_cases hc : ((μ.1 s).isNone || decide (2 ≤ w')) = true
      · rw [if_pos hc, if_pos hc]
      · rw [if_neg hc, if_neg hc, up_same (c := 7) (n := 0) (p := 28) (j := b + 10 * k + s) m1]
    cases hth : μ.1 s with
    | none =>
      rw [if_pos rfl, sX7_looks_161]
      exact pl false (fun _ => rfl) (by rw [hth]; rfl)
    | some x =>
      have hx := hw.1 s x hth
      have ax := are_lt hT x
      rw [if_neg (oI_sn (by omega))]
      simp only [oI]
      simp (disch := omega) only [nI_ltI, nI_eq, nI_add, nI_clamp, ib_n, pk_mul, q_and, q_or, q_dn, q_shl, q_shlm, q_p1, if_true, if_false, ↓reduceIte, Option.bind_some, bI_0, bI_1, bI_01, b_or, Nat.not_lt_zero, Nat.zero_add, Bool.false_eq_true, Bool.true_eq_false, or_false, or_true, true_or, false_or, (h.2.2.1 x hx).2.2, m_flag, q_bitv, bI_eq]
      by_cases hq : (are T x).testBit t = so
      · rw [if_pos hq, sX7_looks_161]
        exact pl false (fun _ => rfl) (by rw [hth]; simp [inO, fitg_bit hx ht, hq])
      · rw [if_neg hq]
        exact pl true (fun q => by rw [hth] at q; cases q) (by rw [hth]; simp [inO, fitg_bit hx ht, hq])
end
end
end
section
/-! THE MODEL'S MINDS, 2: flees, sees, wakes, copies; what is asked of them. -/
section
variable {T : Td_} {O : Mem_}
def NM (R : Nat → Nat → Int32) (b : Nat) (T : Td_) (M : Md_) : Prop := (∀ k, k < nK T → KN R (b + 10 * k) (M.2 k)) ∧ ∃ S N : Nat → Nat, ∀ s, s < 4 → R 28 (b + 60 + s) = nI (S s) ∧ R 28 (b + 64 + s) = nI (N s) ∧ S s < 256 ∧ N s < 256 ∧ M.1 s = fitSN T (S s) (N s)
theorem NM.nx {a l b : Nat} {O O' : Mem_} {M : Md_} (hT : WT T) (h : NX a l O O') (hd : b + 70 ≤ a ∨ a + l ≤ b) (g : NM (O 7 0) b T M) : NM (O' 7 0) b T M := by
  have h6 := hT.2.2.2.1
  obtain ⟨g1, S, N, g2⟩ := g
  refine ⟨fun k hk => (g1 k hk).nx h (by omega), S, N, fun s hs => ?_⟩
  rw [h.2 _ _ (by omega), h.2 _ _ (by omega)]
  exact g2 s hs
theorem n_flees (d : Nat) {a i : Nat} (ha : a + 10 ≤ 210) : ∃ O', ex (d + 1) 160 0 [some (vr 7 0 0), some (vi (nI a)), some (vi (nI i))] [] O = some (nI 0, O') ∧ NX a 10 O O' ∧ ∀ la, O 7 0 28 (a + 8) = oI la → KN (O' 7 0) a (fun _ => none, fun _ => 0, la, some i) := by
  rw [sX7_flees_0]
  simp (disch := omega) only [nI_ltI, nI_eq, nI_add, nI_clamp, ib_n, pk_mul, q_and, q_or, q_dn, q_shl, q_shlm, q_p1, if_true, if_false, ↓reduceIte, Option.bind_some, bI_0, bI_1, bI_01, b_or, Nat.not_lt_zero, Nat.zero_add, Bool.false_eq_true, Bool.true_eq_false, or_false, or_true, true_or, false_or]
  refine Exists.elim (lp_i (fun s (O : Mem_) => ex (d + 1) 160 12 [some (vr 7 0 0), some (vi (nI a)), none, some (vi (nI s))] [] O) (fun s O' => NX a 10 O O' ∧ O' 7 0 28 (a + 8) = O 7 0 28 (a + 8) ∧ O' 7 0 28 (a + 9) = nI i ∧ ∀ q, q < s → O' 7 0 28 (a + q) = oI none ∧ O' 7 0 28 (a + 4 + q) = nI 0) 4 ?_ (up O 7 0 28 (a + 9) (nI i)) ⟨NX.rfl.up (by omega), up_ne (by omega), up_eq .., fun q hq => by omega⟩) ?_
  · intro s O' hs ⟨h1, h2, h3, h4⟩
    refine ⟨up (up O' 7 0 28 (a + s) (oI none)) 7 0 28 (a + 4 + s) (nI 0), ?_, (h1.up (by omega)).up (by omega), ?_, ?_, fun q hq => ?_⟩
    · refine (sX7_flees_12 ..).trans ?_
      simp (disch := omega) only [nI_ltI, nI_eq, nI_add, nI_clamp, ib_n, pk_mul, q_and, q_or, q_dn, q_shl, q_shlm, q_p1, if_true, if_false, ↓reduceIte, Option.bind_some, bI_0, bI_1, bI_01, b_or, Nat.not_lt_zero, Nat.zero_add, Bool.false_eq_true, Bool.true_eq_false, or_false, or_true, true_or, false_or, hs]
    · rw [up_ne (by omega), up_ne (by omega)]; exact h2
    · rw [up_ne (by omega), up_ne (by omega)]; exact h3
    · by_cases e : q = s
      · subst e; simp (disch := omega) only [up_ne, up_eq, and_self]
      · simp (disch := omega) only [up_ne]; exact h4 q (by omega)
  · rintro O' ⟨e, h1, h2, h3, h4⟩
    refine ⟨O', e.trans ?_, h1, fun la hla => ⟨fun s hs => h4 s hs, h2.trans hla, h3⟩⟩
    refine (sX7_flees_12 ..).trans ?_
    simp (disch := omega) only [nI_ltI, nI_eq, nI_add, nI_clamp, ib_n, pk_mul, q_and, q_or, q_dn, q_shl, q_shlm, q_p1, if_true, if_false, ↓reduceIte, Option.bind_some, bI_0, bI_1, bI_01, b_or, Nat.not_lt_zero, Nat.zero_add, Bool.false_eq_true, Bool.true_eq_false, or_false, or_true, true_or, false_or, Nat.lt_irrefl]
theorem n_sees (d : Nat) {b i s t : Nat} {so : Bool} {M : Md_} (hb : b ≤ 140) (hs : s < nS T) (ht : t < nT T) (h : MT (O 7 0) T) (hT : WT T) (hm : NM (O 7 0) b T M) (hw : WMd T M) (hi : i < 1000) : ∃ O', ex (d + 6) 161 0 [some (vr 7 0 0), some (vi (nI b)), some (vi (nI i)), some (vi (nI s)), some (vi (nI t)), some (vi (bI so))] [] O = some (nI 0, O') ∧ NX b 70 O O' ∧ NM (O' 7 0) b T (see T i s t so M) := by
  have h6 := hT.2.2.2.1
  have h4 := hT.2.2.1
  have h8 := hT.1
  obtain ⟨hm1, S, N, hSN⟩ := hm
  obtain ⟨s1, s2, s3, s4, s5⟩ := hSN s (by omega)
  have hp : (2:Nat) ^ t < 2 ^ 8 := Nat.pow_lt_pow_right (by decide) (by omega)
  -- the two masks
  obtain ⟨S1, N1, e1, b1, b2, f1⟩ : ∃ S1 N1, ex (d + 6) 161 0 [some (vr 7 0 0), some (vi (nI b)), some (vi (nI i)), some (vi (nI s)), some (vi (nI t)), some (vi (bI so))] [] O = ex (d + 6) 161 57 [some (vr 7 0 0), some (vi (nI b)), some (vi (nI i)), some (vi (nI s)), some (vi (nI t)), some (vi (bI so)), some (vi (nI 0))] [] (up (up O 7 0 28 (b + 60 + s) (nI S1)) 7 0 28 (b + 64 + s) (nI N1)) ∧ S1 < 256 ∧ N1 < 256 ∧ fitSN T S1 N1 = M.1 s &&& fitg T t so := by
    cases so with
    | true =>
      refine ⟨S s ||| 2 ^ t, N s, ?_, Nat.or_lt_two_pow (n := 8) s3 hp, s4, by rw [s5]; exact fitSN_t ht⟩
      rw [sX7_sees_0]
      simp (disch := omega) only [nI_ltI, nI_eq, nI_add, nI_clamp, ib_n, pk_mul, q_and, q_or, q_dn, q_shl, q_shlm, q_p1, if_true, if_false, ↓reduceIte, Option.bind_some, bI_0, bI_1, bI_01, b_or, Nat.not_lt_zero, Nat.zero_add, Bool.false_eq_true, Bool.true_eq_false, or_false, or_true, true_or, false_or, s1]
      rw [sX7_sees_25]
      simp (disch := omega) only [nI_ltI, nI_eq, nI_add, nI_clamp, ib_n, pk_mul, q_and, q_or, q_dn, q_shl, q_shlm, q_p1, if_true, if_false, ↓reduceIte, Option.bind_some, bI_0, bI_1, bI_01, b_or, Nat.not_lt_zero, Nat.zero_add, Bool.false_eq_true, Bool.true_eq_false, or_false, or_true, true_or, false_or, s2, up_ne, Nat.or_zero]
    | false =>
      refine ⟨S s, N s ||| 2 ^ t, ?_, s3, Nat.or_lt_two_pow (n := 8) s4 hp, by rw [s5]; exact fitSN_f ht⟩
      rw [sX7_sees_0]
      simp (disch := omega) only [nI_ltI, nI_eq, nI_add, nI_clamp, ib_n, pk_mul, q_and, q_or, q_dn, q_shl, q_shlm, q_p1, if_true, if_false, ↓reduceIte, Option.bind_some, bI_0, bI_1, bI_01, b_or, Nat.not_lt_zero, Nat.zero_add, Bool.false_eq_true, Bool.true_eq_false, or_false, or_true, true_or, false_or, s1]
      rw [sX7_sees_25]
      simp (disch := omega) only [nI_ltI, nI_eq, nI_add, nI_clamp, ib_n, pk_mul, q_and, q_or, q_dn, q_shl, q_shlm, q_p1, if_true, if_false, ↓reduceIte, Option.bind_some, bI_0, bI_1, bI_01, b_or, Nat.not_lt_zero, Nat.zero_add, Bool.false_eq_true, Bool.true_eq_false, or_false, or_true, true_or, false_or, s2, up_ne, Nat.or_zero]
  rw [e1]
  generalize hO1 : up (up O 7 0 28 (b + 60 + s) (nI S1)) 7 0 28 (b + 64 + s) (nI N1) = O1
  have x1 : NX (b + 60) 10 O O1 := by rw [← hO1]; exact (NX.rfl.up (by omega)).up (by omega)
  have y1 : O1 7 0 28 (b + 60 + s) = nI S1 := by rw [← hO1, up_ne (by omega), up_eq]
  have y2 : O1 7 0 28 (b + 64 + s) = nI N1 := by rw [← hO1, up_eq]
  have y3 : ∃ S N : Nat → Nat, ∀ s', s' < 4 → O1 7 0 28 (b + 60 + s') = nI (S s') ∧ O1 7 0 28 (b + 64 + s') = nI (N s') ∧ S s' < 256 ∧ N s' < 256 ∧ (see T i s t so M).1 s' = fitSN T (S s') (N s') := by
    refine ⟨upF S s S1, upF N s N1, fun s' hs' => ?_⟩
    by_cases e : s' = s
    · subst e
      simp only [upF, if_true, see]
      exact ⟨y1, y2, b1, b2, f1.symm⟩
    · simp only [upF, e, if_false, see]
      rw [← hO1, up_ne (by omega), up_ne (by omega), up_ne (by omega), up_ne (by omega)]
      exact hSN s' hs'
  refine Exists.elim (lp_i (fun k (O : Mem_) => ex (d + 6) 161 57 [some (vr 7 0 0), some (vi (nI b)), some (vi (nI i)), some (vi (nI s)), some (vi (nI t)), some (vi (bI so)), some (vi (nI k))] [] O) (fun k O' => NX b 60 O1 O' ∧ ∀ k', k' < nK T → KN (O' 7 0) (b + 10 * k') (if k' < k then (see T i s t so M).2 k' else M.2 k')) (nK T) ?_ O1 ⟨NX.rfl, fun k hk => by rw [if_neg (Nat.not_lt_zero _)]; exact (hm1 k hk).nx x1 (by omega)⟩) ?_
  · intro k O' hk ⟨g1, g2⟩
    have hMT : MT (O' 7 0) T := (h.nx x1).nx g1
    have km := g2 k hk
    rw [if_neg (Nat.lt_irrefl k)] at km
    have km5 := km.2.2
    have wk := hw.2 k
    have others : ∀ (O2 : Mem_), NX (b + 10 * k) 10 O' O2 → KN (O2 7 0) (b + 10 * k) ((see T i s t so M).2 k) → ∀ k', k' < nK T → KN (O2 7 0) (b + 10 * k') (if k' < k + 1 then (see T i s t so M).2 k' else M.2 k') := fun O2 hx hkm k' hk' => by
      by_cases e : k' = k
      · subst e; rw [if_pos (Nat.lt_succ_self _)]; exact hkm
      · have := g2 k' hk'
        by_cases z : k' < k
        · rw [if_pos z] at this; rw [if_pos (by omega)]; exact this.nx hx (by omega)
        · rw [if_neg z] at this; rw [if_neg (by omega)]; exact this.nx hx (by omega)
    cases hfl : (M.2 k).2.2.2 with
    | some x =>
      have hx := wk.2.2.2 x hfl
      have e2 : (see T i s t so M).2 k = M.2 k := by simp [see, see1, hfl]
      refine ⟨O', ?_, g1, others O' NX.rfl (by rw [e2]; exact km)⟩
      have hne := oI_sn (j := x) (by omega)
      refine (sX7_sees_57 ..).trans ?_
      simp (disch := omega) only [nI_ltI, nI_eq, nI_add, nI_clamp, ib_n, pk_mul, q_and, q_or, q_dn, q_shl, q_shlm, q_p1, if_true, if_false, ↓reduceIte, Option.bind_some, bI_0, bI_1, bI_01, b_or, Nat.not_lt_zero, Nat.zero_add, Bool.false_eq_true, Bool.true_eq_false, or_false, or_true, true_or, false_or, hMT.1.2.2.2, hk, km5, hfl, hne]
    | none =>
      by_cases hfe : fe_ T k = some t
      · obtain ⟨O2, q1, q2, q3⟩ := n_flees (O := O') (d + 4) (a := b + 10 * k) (i := i) (by omega)
        have e2 : (see T i s t so M).2 k = (fun _ => none, fun _ => 0, (M.2 k).2.2.1, some i) := by simp [see, see1, hfl, hfe]
        refine ⟨O2, ?_, g1.trans (q2.wide (by omega) (by omega)), others O2 q2 (by rw [e2]; exact q3 _ km.2.1)⟩
        refine (sX7_sees_57 ..).trans ?_
        simp (disch := omega) only [nI_ltI, nI_eq, nI_add, nI_clamp, ib_n, pk_mul, q_and, q_or, q_dn, q_shl, q_shlm, q_p1, if_true, if_false, ↓reduceIte, Option.bind_some, bI_0, bI_1, bI_01, b_or, Nat.not_lt_zero, Nat.zero_add, Bool.false_eq_true, Bool.true_eq_false, or_false, or_true, true_or, false_or, hMT.1.2.2.2, hk, km5, hfl, (hMT.2.2.2.2 k hk).2.2.1, hfe, oI]
        rw [q1]
        rfl
      · have hne : ¬ oI (fe_ T k) = nI t := fun e => hfe ((oI_inj (b := some t) (fun j e => by have := hT.2.2.2.2.2.2.2.2 k j e; omega) (fun j e => by cases e; omega)).mp e)
        have e2 : (see T i s t so M).2 k = look1 T k s t so (M.1 s &&& fitg T t so) (M.2 k) := by simp [see, see1, hfl, hfe]
        have lk := n_looks (O := O') d (so := so) (t := t) (μ := M.2 k) hb hk hs ht hMT hT (by rw [g1.2 _ _ (by omega)]; exact y1) (by rw [g1.2 _ _ (by omega)]; exact y2) (by omega) (by omega) km wk
        rw [f1] at lk
        generalize hO2 : up (up (up O' 7 0 28 (b + 10 * k + s) (oI (thk T k s t so (M.1 s &&& fitg T t so) (M.2 k)).1)) 7 0 28 (b + 10 * k + 4 + s) (nI (thk T k s t so (M.1 s &&& fitg T t so) (M.2 k)).2)) 7 0 28 (b + 10 * k + 8) (oI ((thk T k s t so (M.1 s &&& fitg T t so) (M.2 k)).1 <|> (M.2 k).2.2.1)) = O2 at lk
        have q2 : NX (b + 10 * k) 10 O' O2 := by rw [← hO2]; exact ((NX.rfl.up (by omega)).up (by omega)).up (by omega)
        refine ⟨O2, ?_, g1.trans (q2.wide (by omega) (by omega)), others O2 q2 ?_⟩
        · refine (sX7_sees_57 ..).trans ?_
          simp (disch := omega) only [nI_ltI, nI_eq, nI_add, nI_clamp, ib_n, pk_mul, q_and, q_or, q_dn, q_shl, q_shlm, q_p1, if_true, if_false, ↓reduceIte, Option.bind_some, bI_0, bI_1, bI_01, b_or, Nat.not_lt_zero, Nat.zero_add, Bool.false_eq_true, Bool.true_eq_false, or_false, or_true, true_or, false_or, hMT.1.2.2.2, hk, km5, hfl, (hMT.2.2.2.2 k hk).2.2.1, hne]
          rw [lk]
          rfl
        · rw [e2, ← hO2]
          refine ⟨fun s' hs' => ?_, ?_, ?_⟩
          · have kq := km.1 s' hs'
            simp only [look1, upF]
            by_cases e : s' = s
            · subst e
              simp (disch := omega) only [up_ne, up_eq, if_true, and_self]
            · simp (disch := omega) only [up_ne, up_eq, e, if_false]
              exact kq
          · rw [up_eq]; rfl
          · simp (disch := omega) only [up_ne]; exact km5
  · rintro O2 ⟨e2, g1, g2⟩
    refine ⟨O2, e2.trans ?_, (x1.wide (by omega) (by omega)).trans (g1.wide (by omega) (by omega)), fun k hk => ?_, ?_⟩
    · have hMT : MT (O2 7 0) T := (h.nx x1).nx g1
      refine (sX7_sees_57 ..).trans ?_
      simp (disch := omega) only [nI_ltI, nI_eq, nI_add, nI_clamp, ib_n, pk_mul, q_and, q_or, q_dn, q_shl, q_shlm, q_p1, if_true, if_false, ↓reduceIte, Option.bind_some, bI_0, bI_1, bI_01, b_or, Nat.not_lt_zero, Nat.zero_add, Bool.false_eq_true, Bool.true_eq_false, or_false, or_true, true_or, false_or, hMT.1.2.2.2, Nat.lt_irrefl]
    · have := g2 k hk
      rw [if_pos hk] at this
      exact this
    · obtain ⟨S', N', y⟩ := y3
      refine ⟨S', N', fun s' hs' => ?_⟩
      rw [g1.2 _ _ (by omega), g1.2 _ _ (by omega)]
      exact y s' hs'
theorem fitSN_00 : fitSN T 0 0 = 2 ^ nM T - 1 := by
  apply Nat.eq_of_testBit_eq
  intro m
  rw [fitSN, ms_bit, Nat.testBit_two_pow_sub_one]
  have : dn 0 (are T m) = 0 := Nat.le_zero.mp (dn_le _ _)
  simp [this]
theorem n_wakes (d : Nat) {b : Nat} (hb : b ≤ 140) (hT : WT T) : ∃ O', ex (d + 2) 153 0 [some (vr 7 0 0), some (vi (nI b))] [] O = some (nI 0, O') ∧ NX b 70 O O' ∧ NM (O' 7 0) b T (md0 T) := by
  have h6 := hT.2.2.2.1
  rw [sX7_wakes_0]
  refine Exists.elim (lp_i (fun i (O : Mem_) => ex (d + 2) 153 2 [some (vr 7 0 0), some (vi (nI b)), some (vi (nI i))] [] O) (fun i O' => NX b 70 O O' ∧ ∀ q, q < i → O' 7 0 28 (b + q) = if q < 60 ∧ ¬ (4 ≤ q % 10 ∧ q % 10 ≤ 7) then oI none else nI 0) 70 ?_ O ⟨NX.rfl, fun q hq => by omega⟩) ?_
  · intro i O' hi ⟨h1, h2⟩
    have fin : ∀ v, v = (if i < 60 ∧ ¬ (4 ≤ i % 10 ∧ i % 10 ≤ 7) then oI none else nI 0) → NX b 70 O (up O' 7 0 28 (b + i) v) ∧ ∀ q, q < i + 1 → up O' 7 0 28 (b + i) v 7 0 28 (b + q) = if q < 60 ∧ ¬ (4 ≤ q % 10 ∧ q % 10 ≤ 7) then oI none else nI 0 := fun v hv => ⟨h1.up (by omega), fun q hq => by
      by_cases e : q = i
      · subst e; rw [up_eq, hv]
      · rw [up_ne (by omega)]; exact h2 q (by omega)⟩
    by_cases h60 : i < 60
    · by_cases hr : 4 ≤ i % 10 ∧ i % 10 ≤ 7
      · refine ⟨_, ?_, fin (nI 0) (by rw [if_neg (fun z => z.2 hr)])⟩
        refine (sX7_wakes_2 ..).trans ?_
        simp (disch := omega) only [nI_ltI, nI_eq, nI_add, nI_clamp, ib_n, pk_mul, q_and, q_or, q_dn, q_shl, q_shlm, q_p1, if_true, if_false, ↓reduceIte, Option.bind_some, bI_0, bI_1, bI_01, b_or, Nat.not_lt_zero, Nat.zero_add, Bool.false_eq_true, Bool.true_eq_false, or_false, or_true, true_or, false_or, hi, h60, pk_rem, m_in d _ (nI (i % 10)) (nI 4) (nI 7) (a := 4) (b := 7) (by decide) (by decide), inI_n, hr.1, hr.2, decide_true, Bool.and_self]
        rfl
      · refine ⟨_, ?_, fin (oI none) (by rw [if_pos ⟨h60, hr⟩])⟩
        have hf : (decide (4 ≤ i % 10) && decide (i % 10 ≤ 7)) = false := by
          rw [← Bool.decide_and]; exact decide_eq_false hr
        refine (sX7_wakes_2 ..).trans ?_
        simp (disch := omega) only [nI_ltI, nI_eq, nI_add, nI_clamp, ib_n, pk_mul, q_and, q_or, q_dn, q_shl, q_shlm, q_p1, if_true, if_false, ↓reduceIte, Option.bind_some, bI_0, bI_1, bI_01, b_or, Nat.not_lt_zero, Nat.zero_add, Bool.false_eq_true, Bool.true_eq_false, or_false, or_true, true_or, false_or, hi, h60, pk_rem, m_in d _ (nI (i % 10)) (nI 4) (nI 7) (a := 4) (b := 7) (by decide) (by decide), inI_n, hf]
        rfl
    · refine ⟨_, ?_, fin (nI 0) (by rw [if_neg (fun z => h60 z.1)])⟩
      refine (sX7_wakes_2 ..).trans ?_
      simp (disch := omega) only [nI_ltI, nI_eq, nI_add, nI_clamp, ib_n, pk_mul, q_and, q_or, q_dn, q_shl, q_shlm, q_p1, if_true, if_false, ↓reduceIte, Option.bind_some, bI_0, bI_1, bI_01, b_or, Nat.not_lt_zero, Nat.zero_add, Bool.false_eq_true, Bool.true_eq_false, or_false, or_true, true_or, false_or, hi, h60]
      rfl
  · rintro O' ⟨e, h1, h2⟩
    refine ⟨O', e.trans ?_, h1, fun k hk => ⟨fun s hs => ⟨?_, ?_⟩, ?_, ?_⟩, fun _ => 0, fun _ => 0, fun s hs => ⟨?_, ?_, Nat.zero_lt_succ _, Nat.zero_lt_succ _, fitSN_00.symm⟩⟩
    · refine (sX7_wakes_2 ..).trans ?_
      simp (disch := omega) only [nI_ltI, nI_eq, nI_add, nI_clamp, ib_n, pk_mul, q_and, q_or, q_dn, q_shl, q_shlm, q_p1, if_true, if_false, ↓reduceIte, Option.bind_some, bI_0, bI_1, bI_01, b_or, Nat.not_lt_zero, Nat.zero_add, Bool.false_eq_true, Bool.true_eq_false, or_false, or_true, true_or, false_or, Nat.lt_irrefl]
    · rw [show b + 10 * k + s = b + (10 * k + s) by omega, h2 _ (by omega), if_pos (by omega)]; rfl
    · rw [show b + 10 * k + 4 + s = b + (10 * k + 4 + s) by omega, h2 _ (by omega), if_neg (by omega)]; rfl
    · rw [show b + 10 * k + 8 = b + (10 * k + 8) by omega, h2 _ (by omega), if_pos (by omega)]; rfl
    · rw [show b + 10 * k + 9 = b + (10 * k + 9) by omega, h2 _ (by omega), if_pos (by omega)]; rfl
    · rw [show b + 60 + s = b + (60 + s) by omega, h2 _ (by omega), if_neg (by omega)]
    · rw [show b + 64 + s = b + (64 + s) by omega, h2 _ (by omega), if_neg (by omega)]
theorem n_copies (d : Nat) {b a : Nat} {M : Md_} (hb : b ≤ 140) (ha : a ≤ 140) (hd : b + 70 ≤ a ∨ a + 70 ≤ b) (hT : WT T) (hm : NM (O 7 0) a T M) : ∃ O', ex (d + 1) 178 0 [some (vr 7 0 0), some (vi (nI b)), some (vi (nI a))] [] O = some (nI 0, O') ∧ NX b 70 O O' ∧ NM (O' 7 0) b T M := by
  have h6 := hT.2.2.2.1
  rw [sX7_copies_0]
  refine Exists.elim (lp_i (fun i (O : Mem_) => ex (d + 1) 178 2 [some (vr 7 0 0), some (vi (nI b)), some (vi (nI a)), some (vi (nI i))] [] O) (fun i O' => NX b 70 O O' ∧ ∀ q, q < i → O' 7 0 28 (b + q) = O 7 0 28 (a + q)) 70 ?_ O ⟨NX.rfl, fun q hq => by omega⟩) ?_
  · intro i O' hi ⟨h1, h2⟩
    refine ⟨up O' 7 0 28 (b + i) (O' 7 0 28 (a + i)), ?_, h1.up (by omega), fun q hq => ?_⟩
    · refine (sX7_copies_2 ..).trans ?_
      simp (disch := omega) only [nI_ltI, nI_eq, nI_add, nI_clamp, ib_n, pk_mul, q_and, q_or, q_dn, q_shl, q_shlm, q_p1, if_true, if_false, ↓reduceIte, Option.bind_some, bI_0, bI_1, bI_01, b_or, Nat.not_lt_zero, Nat.zero_add, Bool.false_eq_true, Bool.true_eq_false, or_false, or_true, true_or, false_or, hi]
    · by_cases e : q = i
      · subst e; rw [up_eq, h1.2 _ _ (by omega)]
      · rw [up_ne (by omega)]; exact h2 q (by omega)
  · rintro O' ⟨e, h1, h2⟩
    obtain ⟨g1, S, N, g2⟩ := hm
    refine ⟨O', e.trans ?_, h1, fun k hk => ⟨fun s hs => ⟨?_, ?_⟩, ?_, ?_⟩, S, N, fun s hs => ?_⟩
    · refine (sX7_copies_2 ..).trans ?_
      simp (disch := omega) only [nI_ltI, nI_eq, nI_add, nI_clamp, ib_n, pk_mul, q_and, q_or, q_dn, q_shl, q_shlm, q_p1, if_true, if_false, ↓reduceIte, Option.bind_some, bI_0, bI_1, bI_01, b_or, Nat.not_lt_zero, Nat.zero_add, Bool.false_eq_true, Bool.true_eq_false, or_false, or_true, true_or, false_or, Nat.lt_irrefl]
    · rw [show b + 10 * k + s = b + (10 * k + s) by omega, h2 _ (by omega), ← Nat.add_assoc]; exact ((g1 k hk).1 s hs).1
    · rw [show b + 10 * k + 4 + s = b + (10 * k + 4 + s) by omega, h2 _ (by omega), show a + (10 * k + 4 + s) = a + 10 * k + 4 + s by omega]; exact ((g1 k hk).1 s hs).2
    · rw [show b + 10 * k + 8 = b + (10 * k + 8) by omega, h2 _ (by omega), ← Nat.add_assoc]; exact (g1 k hk).2.1
    · rw [show b + 10 * k + 9 = b + (10 * k + 9) by omega, h2 _ (by omega), ← Nat.add_assoc]; exact (g1 k hk).2.2
    · rw [show b + 60 + s = b + (60 + s) by omega, show b + 64 + s = b + (64 + s) by omega, h2 _ (by omega), h2 _ (by omega), ← Nat.add_assoc, ← Nat.add_assoc]
      exact g2 s hs
theorem n_isSame (d : Nat) {b k s : Nat} {M : Md_} (hb : b ≤ 140) (hk : k < nK T) (hs : s < nS T) (h : MT (O 7 0) T) (hT : WT T) (hm : NM (O 7 0) b T M) (hw : WMd T M) : ex (d + 2) 172 0 [some (vr 7 0 0), some (vi (nI b)), some (vi (nI k)), some (vi (nI s))] [] O = some (bI (sam T M k s), O) := by
  have h6 := hT.2.2.2.1
  have h4 := hT.2.2.1
  have h12 := hT.2.1
  have km := ((hm.1 k hk).1 s (by omega)).1
  have htg := hT.2.2.2.2.2.2.1 s hs
  rw [sX7_isSame_0]
  simp (disch := omega) only [nI_ltI, nI_eq, nI_add, nI_clamp, ib_n, pk_mul, q_and, q_or, q_dn, q_shl, q_shlm, q_p1, if_true, if_false, ↓reduceIte, Option.bind_some, bI_0, bI_1, bI_01, b_or, Nat.not_lt_zero, Nat.zero_add, Bool.false_eq_true, Bool.true_eq_false, or_false, or_true, true_or, false_or, km]
  cases e : (M.2 k).1 s with
  | none => rw [if_pos rfl]; simp [sam, e, inO, bI]
  | some m =>
    have hmm := (hw.2 k).1 s m e
    have a1 := are_lt hT m
    have a2 := tgA_lt hT s
    rw [if_neg (oI_sn (by omega))]
    simp only [oI]
    simp (disch := omega) only [nI_ltI, nI_eq, nI_add, nI_clamp, ib_n, pk_mul, q_and, q_or, q_dn, q_shl, q_shlm, q_p1, if_true, if_false, ↓reduceIte, Option.bind_some, bI_0, bI_1, bI_01, b_or, Nat.not_lt_zero, Nat.zero_add, Bool.false_eq_true, Bool.true_eq_false, or_false, or_true, true_or, false_or, (h.2.2.1 m hmm).2.2, n_targetOf _ hs h hT]
    simp only [sam, e, inO, Option.any_some, tgL, alike, ms_bit, decide_eq_true hmm, Bool.true_and]
    have : (are T (tg_ T s) == are T m) = decide (are T m = tgA T s) := by
      rw [Bool.eq_iff_iff, beq_iff_eq, decide_eq_true_iff]; exact ⟨fun q => q.symm, fun q => q.symm⟩
    rw [this]
    by_cases q : are T m = tgA T s <;> simp [q, bI]
theorem n_isSameForAll (d : Nat) {b K s : Nat} {M : Md_} (hb : b ≤ 140) (hK : K < 2 ^ 31) (hs : s < nS T) (h : MT (O 7 0) T) (hT : WT T) (hm : NM (O 7 0) b T M) (hw : WMd T M) : ex (d + 3) 176 0 [some (vr 7 0 0), some (vi (nI b)), some (vi (nI K)), some (vi (nI s))] [] O = some (bI (samA T M K s), O) := by
  have h6 := hT.2.2.2.1
  rw [sX7_isSameForAll_0]
  refine Exists.elim (lp_i (fun k (a : Bool) => ex (d + 3) 176 6 [some (vr 7 0 0), some (vi (nI b)), some (vi (nI K)), some (vi (nI s)), some (vi (bI a)), some (vi (nI k))] [] O) (fun k a => a = (List.range k).all fun k => !K.testBit k || sam T M k s) (nK T) ?_ true (by simp)) ?_
  · intro k a hk ha
    refine ⟨a && (!K.testBit k || sam T M k s), ?_, by rw [List.range_succ, List.all_append, ← ha]; simp⟩
    refine (sX7_isSameForAll_6 ..).trans ?_
    cases a with
    | false => simp (disch := omega) only [nI_ltI, nI_eq, nI_add, nI_clamp, ib_n, pk_mul, q_and, q_or, q_dn, q_shl, q_shlm, q_p1, if_true, if_false, ↓reduceIte, Option.bind_some, bI_0, bI_1, bI_01, b_or, Nat.not_lt_zero, Nat.zero_add, Bool.false_eq_true, Bool.true_eq_false, or_false, or_true, true_or, false_or, h.1.2.2.2, hk]; rfl
    | true =>
      simp (disch := omega) only [nI_ltI, nI_eq, nI_add, nI_clamp, ib_n, pk_mul, q_and, q_or, q_dn, q_shl, q_shlm, q_p1, if_true, if_false, ↓reduceIte, Option.bind_some, bI_0, bI_1, bI_01, b_or, Nat.not_lt_zero, Nat.zero_add, Bool.false_eq_true, Bool.true_eq_false, or_false, or_true, true_or, false_or, h.1.2.2.2, hk, q_bitv, n_isSame d hb hk hs h hT hm hw]
      cases K.testBit k <;> cases sam T M k s <;> simp [bI]
  · rintro a ⟨e, ha⟩
    refine e.trans ((sX7_isSameForAll_6 ..).trans ?_)
    simp (disch := omega) only [nI_ltI, nI_eq, nI_add, nI_clamp, ib_n, pk_mul, q_and, q_or, q_dn, q_shl, q_shlm, q_p1, if_true, if_false, ↓reduceIte, Option.bind_some, bI_0, bI_1, bI_01, b_or, Nat.not_lt_zero, Nat.zero_add, Bool.false_eq_true, Bool.true_eq_false, or_false, or_true, true_or, false_or, h.1.2.2.2, Nat.lt_irrefl]
    rw [ha]; rfl
def anyFl (T : Td_) (M : Md_) (K : Nat) : Bool := (List.range (nK T)).any fun k => K.testBit k && (M.2 k).2.2.2.isSome
theorem n_hasFled (d : Nat) {b K : Nat} {M : Md_} (hb : b ≤ 140) (hK : K < 2 ^ 31) (h : MT (O 7 0) T) (hT : WT T) (hm : NM (O 7 0) b T M) (hw : WMd T M) : ex (d + 1) 179 0 [some (vr 7 0 0), some (vi (nI b)), some (vi (nI K))] [] O = some (bI (anyFl T M K), O) := by
  have h6 := hT.2.2.2.1
  rw [sX7_hasFled_0]
  refine Exists.elim (lp_i (fun k (a : Bool) => ex (d + 1) 179 5 [some (vr 7 0 0), some (vi (nI b)), some (vi (nI K)), some (vi (bI a)), some (vi (nI k))] [] O) (fun k a => a = (List.range k).any fun k => K.testBit k && (M.2 k).2.2.2.isSome) (nK T) ?_ false (by simp)) ?_
  · intro k a hk ha
    refine ⟨a || (K.testBit k && (M.2 k).2.2.2.isSome), ?_, by rw [List.range_succ, List.any_append, ← ha]; simp⟩
    refine (sX7_hasFled_5 ..).trans ?_
    cases a with
    | true => simp (disch := omega) only [nI_ltI, nI_eq, nI_add, nI_clamp, ib_n, pk_mul, q_and, q_or, q_dn, q_shl, q_shlm, q_p1, if_true, if_false, ↓reduceIte, Option.bind_some, bI_0, bI_1, bI_01, b_or, Nat.not_lt_zero, Nat.zero_add, Bool.false_eq_true, Bool.true_eq_false, or_false, or_true, true_or, false_or, h.1.2.2.2, hk]; rfl
    | false =>
      simp (disch := omega) only [nI_ltI, nI_eq, nI_add, nI_clamp, ib_n, pk_mul, q_and, q_or, q_dn, q_shl, q_shlm, q_p1, if_true, if_false, ↓reduceIte, Option.bind_some, bI_0, bI_1, bI_01, b_or, Nat.not_lt_zero, Nat.zero_add, Bool.false_eq_true, Bool.true_eq_false, or_false, or_true, true_or, false_or, h.1.2.2.2, hk, q_bit, (hm.1 k hk).2.2]
      cases K.testBit k with
      | false => simp [bI]
      | true =>
        cases e : (M.2 k).2.2.2 with
        | none => simp [bI]
        | some x =>
          have hx := (hw.2 k).2.2.2 x e
          rw [if_neg (oI_sn (by omega))]
          simp [bI]
  · rintro a ⟨e, ha⟩
    refine e.trans ((sX7_hasFled_5 ..).trans ?_)
    simp (disch := omega) only [nI_ltI, nI_eq, nI_add, nI_clamp, ib_n, pk_mul, q_and, q_or, q_dn, q_shl, q_shlm, q_p1, if_true, if_false, ↓reduceIte, Option.bind_some, bI_0, bI_1, bI_01, b_or, Nat.not_lt_zero, Nat.zero_add, Bool.false_eq_true, Bool.true_eq_false, or_false, or_true, true_or, false_or, h.1.2.2.2, Nat.lt_irrefl]
    rw [ha]; rfl
theorem n_answerOf (d : Nat) {k s t : Nat} {M : Md_} (hk : k < nK T) (hs : s < nS T) (ht : t < 31) (h : MT (O 7 0) T) (hT : WT T) (hm : NM (O 7 0) 0 T M) (hw : WMd T M) : ex (d + 1) 194 0 [some (vr 7 0 0), some (vi (nI k)), some (vi (nI s)), some (vi (nI t))] [] O = some (oI (ans T M k s t), O) := by
  have h6 := hT.2.2.2.1
  have h4 := hT.2.2.1
  have h12 := hT.2.1
  have km := ((hm.1 k hk).1 s (by omega)).1
  rw [Nat.zero_add] at km
  rw [sX7_answerOf_0]
  simp (disch := omega) only [nI_ltI, nI_eq, nI_add, nI_clamp, ib_n, pk_mul, q_and, q_or, q_dn, q_shl, q_shlm, q_p1, if_true, if_false, ↓reduceIte, Option.bind_some, bI_0, bI_1, bI_01, b_or, Nat.not_lt_zero, Nat.zero_add, Bool.false_eq_true, Bool.true_eq_false, or_false, or_true, true_or, false_or, km]
  cases e : (M.2 k).1 s with
  | none => rw [if_pos rfl]; simp [ans, e]
  | some m =>
    have hmm := (hw.2 k).1 s m e
    have a1 := are_lt hT m
    rw [if_neg (oI_sn (by omega))]
    simp only [oI]
    simp (disch := omega) only [nI_ltI, nI_eq, nI_add, nI_clamp, ib_n, pk_mul, q_and, q_or, q_dn, q_shl, q_shlm, q_p1, if_true, if_false, ↓reduceIte, Option.bind_some, bI_0, bI_1, bI_01, b_or, Nat.not_lt_zero, Nat.zero_add, Bool.false_eq_true, Bool.true_eq_false, or_false, or_true, true_or, false_or, (h.2.2.1 m hmm).2.2, q_bitv]
    simp [ans, e, oI, bI]
theorem n_whoSay (d : Nat) {s t : Nat} {a : Option Nat} {M : Md_} (ha : ∀ j, a = some j → j < 2) (hs : s < nS T) (ht : t < 31) (h : MT (O 7 0) T) (hT : WT T) (hm : NM (O 7 0) 0 T M) (hw : WMd T M) : ex (d + 2) 196 0 [some (vr 7 0 0), some (vi (nI s)), some (vi (nI t)), some (vi (oI a))] [] O = some (nI (who T M s t a), O) := by
  have h6 := hT.2.2.2.1
  rw [sX7_whoSay_0]
  refine (lp_n (fun k x => ex (d + 2) 196 6 [some (vr 7 0 0), some (vi (nI s)), some (vi (nI t)), some (vi (oI a)), some (vi (nI x)), some (vi (nI k))] [] O) (fun k x => if (ans T M k s t == a) = true then x ||| 2 ^ k else x ||| 0) (nK T) (fun k x hk => ?_) 0).trans ?_
  · refine (sX7_whoSay_6 ..).trans ?_
    simp (disch := omega) only [nI_ltI, nI_eq, nI_add, nI_clamp, ib_n, pk_mul, q_and, q_or, q_dn, q_shl, q_shlm, q_p1, if_true, if_false, ↓reduceIte, Option.bind_some, bI_0, bI_1, bI_01, b_or, Nat.not_lt_zero, Nat.zero_add, Bool.false_eq_true, Bool.true_eq_false, or_false, or_true, true_or, false_or, h.1.2.2.2, n_answerOf d hk hs ht h hT hm hw, hk, oI_ans ha, beq_iff_eq]
    split <;> rfl
  · refine (sX7_whoSay_6 ..).trans ?_
    simp (disch := omega) only [nI_ltI, nI_eq, nI_add, nI_clamp, ib_n, pk_mul, q_and, q_or, q_dn, q_shl, q_shlm, q_p1, if_true, if_false, ↓reduceIte, Option.bind_some, bI_0, bI_1, bI_01, b_or, Nat.not_lt_zero, Nat.zero_add, Bool.false_eq_true, Bool.true_eq_false, or_false, or_true, true_or, false_or, h.1.2.2.2, Nat.lt_irrefl, itn_ms0]
    rfl
theorem n_chanceOf (d : Nat) {K : Nat} (hK : K < 2 ^ 31) (h : MT (O 7 0) T) (hT : WT T) : ex (d + 1) 188 0 [some (vr 7 0 0), some (vi (nI K))] [] O = some (nI (chc T K), O) := by
  have h6 := hT.2.2.2.1
  rw [sX7_chanceOf_0]
  refine (lp_n (fun k a => ex (d + 1) 188 4 [some (vr 7 0 0), some (vi (nI K)), some (vi (nI a)), some (vi (nI k))] [] O) (fun k a => a + (if K.testBit k = true then ch_ T k else 0)) (nK T) (fun k a hk => ?_) 0).trans ?_
  · refine (sX7_chanceOf_4 ..).trans ?_
    simp (disch := omega) only [nI_ltI, nI_eq, nI_add, nI_clamp, ib_n, pk_mul, q_and, q_or, q_dn, q_shl, q_shlm, q_p1, if_true, if_false, ↓reduceIte, Option.bind_some, bI_0, bI_1, bI_01, b_or, Nat.not_lt_zero, Nat.zero_add, Bool.false_eq_true, Bool.true_eq_false, or_false, or_true, true_or, false_or, h.1.2.2.2, (h.2.2.2.2 k hk).2.2.2.2, hk, q_bit]
    cases K.testBit k <;> simp
  · refine (sX7_chanceOf_4 ..).trans ?_
    simp (disch := omega) only [nI_ltI, nI_eq, nI_add, nI_clamp, ib_n, pk_mul, q_and, q_or, q_dn, q_shl, q_shlm, q_p1, if_true, if_false, ↓reduceIte, Option.bind_some, bI_0, bI_1, bI_01, b_or, Nat.not_lt_zero, Nat.zero_add, Bool.false_eq_true, Bool.true_eq_false, or_false, or_true, true_or, false_or, h.1.2.2.2, Nat.lt_irrefl, itn_sm]
    rfl
theorem n_allChances (d : Nat) (h : MT (O 7 0) T) (hT : WT T) : ex (d + 2) 189 0 [some (vr 7 0 0)] [] O = some (nI (chc T (2 ^ nK T - 1)), O) := by
  have h6 := hT.2.2.2.1
  have : 2 ^ nK T ≤ 2 ^ 6 := Nat.pow_le_pow_right (by decide) h6
  rw [sX7_allChances_0]
  simp (disch := omega) only [nI_ltI, nI_eq, nI_add, nI_clamp, ib_n, pk_mul, q_and, q_or, q_dn, q_shl, q_shlm, q_p1, if_true, if_false, ↓reduceIte, Option.bind_some, bI_0, bI_1, bI_01, b_or, Nat.not_lt_zero, Nat.zero_add, Bool.false_eq_true, Bool.true_eq_false, or_false, or_true, true_or, false_or, h.1.2.2.2]
  rw [n_chanceOf _ (by omega) h hT]
  rfl
theorem n_feared (d : Nat) {c : Bool} (h : MT (O 7 0) T) (hT : WT T) : ex (d + 1) 190 0 [some (vr 7 0 0), some (vi (bI c))] [] O = some (nI (frd T (if c then ms (nK T) (fun k => decide (0 < ch_ T k)) else 2 ^ nK T - 1)), O) := by
  have h6 := hT.2.2.2.1
  have h8 := hT.1
  rw [sX7_feared_0]
  refine Exists.elim (lp_i (fun k a => ex (d + 1) 190 4 [some (vr 7 0 0), some (vi (bI c)), some (vi (nI a)), some (vi (nI k))] [] O) (fun k a => a < 2 ^ nT T ∧ ∀ t, t < nT T → a.testBit t = (List.range k).any fun k => (!c || decide (0 < ch_ T k)) && fe_ T k == some t) (nK T) ?_ 0 ⟨Nat.two_pow_pos _, fun t _ => by simp⟩) ?_
  · intro k a hk hp
    have h9 := (hT.2.2.2.2.2.2.2.1 k).2.2
    have go : ∀ a', a' < 2 ^ nT T → (∀ t, t < nT T → a'.testBit t = (a.testBit t || ((!c || decide (0 < ch_ T k)) && fe_ T k == some t))) → a' < 2 ^ nT T ∧ ∀ t, t < nT T → a'.testBit t = (List.range (k + 1)).any fun k => (!c || decide (0 < ch_ T k)) && fe_ T k == some t := fun a' g1 g2 => ⟨g1, fun t ht => by rw [g2 t ht, hp.2 t ht, List.range_succ, List.any_append]; simp⟩
    cases hf : fe_ T k with
    | none =>
      refine ⟨a, ?_, go a hp.1 fun t ht => by rw [hf]; simp⟩
      refine (sX7_feared_4 ..).trans ?_
      simp (disch := omega) only [nI_ltI, nI_eq, nI_add, nI_clamp, ib_n, pk_mul, q_and, q_or, q_dn, q_shl, q_shlm, q_p1, if_true, if_false, ↓reduceIte, Option.bind_some, bI_0, bI_1, bI_01, b_or, Nat.not_lt_zero, Nat.zero_add, Bool.false_eq_true, Bool.true_eq_false, or_false, or_true, true_or, false_or, h.1.2.2.2, (h.2.2.2.2 k hk).2.2.1, hk, hf, Nat.or_zero]
    | some u =>
      have hu := hT.2.2.2.2.2.2.2.2 k u hf
      have hne := oI_sn (j := u) (by omega)
      have p1 : a ||| 2 ^ u < 2 ^ nT T := Nat.or_lt_two_pow hp.1 (Nat.pow_lt_pow_right (by decide) hu)
      have p2 : ∀ t, t < nT T → (a ||| 2 ^ u).testBit t = (a.testBit t || some u == some t) := fun t ht => by
        rw [Nat.testBit_or]
        by_cases e : u = t
        · subst e; simp
        · have : (some u == some t) = false := beq_false_of_ne (fun q => e (Option.some.inj q))
          rw [Nat.testBit_two_pow_of_ne e, this]
      cases c with
      | false =>
        refine ⟨a ||| 2 ^ u, ?_, go _ p1 fun t ht => by rw [hf, p2 t ht]; simp⟩
        refine (sX7_feared_4 ..).trans ?_
        simp (disch := omega) only [nI_ltI, nI_eq, nI_add, nI_clamp, ib_n, pk_mul, q_and, q_or, q_dn, q_shl, q_shlm, q_p1, if_true, if_false, ↓reduceIte, Option.bind_some, bI_0, bI_1, bI_01, b_or, Nat.not_lt_zero, Nat.zero_add, Bool.false_eq_true, Bool.true_eq_false, or_false, or_true, true_or, false_or, h.1.2.2.2, (h.2.2.2.2 k hk).2.2.1, hk, hf, hne, Nat.or_zero]
        simp only [oI]
        simp (disch := omega) only [nI_ltI, nI_eq, nI_add, nI_clamp, ib_n, pk_mul, q_and, q_or, q_dn, q_shl, q_shlm, q_p1, if_true, if_false, ↓reduceIte, Option.bind_some, bI_0, bI_1, bI_01, b_or, Nat.not_lt_zero, Nat.zero_add, Bool.false_eq_true, Bool.true_eq_false, or_false, or_true, true_or, false_or]
      | true =>
        by_cases hc : 0 < ch_ T k
        · refine ⟨a ||| 2 ^ u, ?_, go _ p1 fun t ht => by rw [hf, p2 t ht]; simp [hc]⟩
          refine (sX7_feared_4 ..).trans ?_
          simp (disch := omega) only [nI_ltI, nI_eq, nI_add, nI_clamp, ib_n, pk_mul, q_and, q_or, q_dn, q_shl, q_shlm, q_p1, if_true, if_false, ↓reduceIte, Option.bind_some, bI_0, bI_1, bI_01, b_or, Nat.not_lt_zero, Nat.zero_add, Bool.false_eq_true, Bool.true_eq_false, or_false, or_true, true_or, false_or, h.1.2.2.2, (h.2.2.2.2 k hk).2.2.1, hk, hf, hne, Nat.or_zero, (h.2.2.2.2 k hk).2.2.2.2, hc]
          simp only [oI]
          simp (disch := omega) only [nI_ltI, nI_eq, nI_add, nI_clamp, ib_n, pk_mul, q_and, q_or, q_dn, q_shl, q_shlm, q_p1, if_true, if_false, ↓reduceIte, Option.bind_some, bI_0, bI_1, bI_01, b_or, Nat.not_lt_zero, Nat.zero_add, Bool.false_eq_true, Bool.true_eq_false, or_false, or_true, true_or, false_or]
        · refine ⟨a, ?_, go _ hp.1 fun t ht => by simp [hc]⟩
          refine (sX7_feared_4 ..).trans ?_
          simp (disch := omega) only [nI_ltI, nI_eq, nI_add, nI_clamp, ib_n, pk_mul, q_and, q_or, q_dn, q_shl, q_shlm, q_p1, if_true, if_false, ↓reduceIte, Option.bind_some, bI_0, bI_1, bI_01, b_or, Nat.not_lt_zero, Nat.zero_add, Bool.false_eq_true, Bool.true_eq_false, or_false, or_true, true_or, false_or, h.1.2.2.2, (h.2.2.2.2 k hk).2.2.1, hk, hf, hne, Nat.or_zero, (h.2.2.2.2 k hk).2.2.2.2, hc]
  · rintro a ⟨e, ha, hb⟩
    refine e.trans ((sX7_feared_4 ..).trans ?_)
    simp (disch := omega) only [nI_ltI, nI_eq, nI_add, nI_clamp, ib_n, pk_mul, q_and, q_or, q_dn, q_shl, q_shlm, q_p1, if_true, if_false, ↓reduceIte, Option.bind_some, bI_0, bI_1, bI_01, b_or, Nat.not_lt_zero, Nat.zero_add, Bool.false_eq_true, Bool.true_eq_false, or_false, or_true, true_or, false_or, h.1.2.2.2, Nat.lt_irrefl]
    unfold frd
    congr 3
    refine ms_eq ha (fun t ht => ?_)
    rw [hb t ht, Bool.eq_iff_iff]
    simp only [List.any_eq_true, List.mem_range]
    refine exists_congr fun k => and_congr_right fun hk => ?_
    cases c with
    | false => simp [Nat.testBit_two_pow_sub_one, hk]
    | true => simp [ms_bit, hk]
end
end
section
/-! THE STATE: what class and model hold alike; a call; the law's loop. -/
section
/-- showings, the kinds left, their sound: how many, which; the same of theirs -/
abbrev Sc_ : Type := Nat × (Nat → Nat × Nat × Bool) × Nat × Nat × (Nat → Nat × Bool)
/-- what is told; the scene; images; the tape; the fault; sheets (lane, size, cells); torn -/
abbrev A_ : Type := Td_ × Sc_ × (Nat → Option Sc_) × (Nat × (Nat → Nat)) × Nat × (Nat → Option (Nat × Nat × (Nat → Int32))) × Nat
def WSc (T : Td_) (c : Sc_) : Prop := c.1 ≤ 24 ∧ (∀ j, j < c.1 → (c.2.1 j).1 < nS T ∧ (c.2.1 j).2.1 < nT T) ∧ c.2.2.1 < 2 ^ nK T ∧ c.2.2.2.1 ≤ 12 ∧ ∀ j, j < c.2.2.2.1 → (c.2.2.2.2 j).1 < nT T
def WA (A : A_) : Prop := WT A.1 ∧ WSc A.1 A.2.1 ∧ (∀ i c, A.2.2.1 i = some c → WSc A.1 c) ∧ (A.2.2.2.1.1 ≤ 400 ∧ ∀ j, A.2.2.2.1.2 j < 256) ∧ A.2.2.2.2.1 < 10 ∧ (∀ k x, A.2.2.2.2.2.1 k = some x → x.1 < 3 ∧ x.2.1 ≤ 40) ∧ A.2.2.2.2.2.2 < 10
/-- the class's scene -/
def CS (R : Nat → Nat → Int32) (c : Sc_) : Prop := R 0 0 = nI c.1 ∧ (∀ j, j < c.1 → R 2 j = nI (c.2.1 j).1 ∧ R 3 j = nI (c.2.1 j).2.1 ∧ R 4 j = bI (c.2.1 j).2.2) ∧ R 0 4 = nI c.2.2.1 ∧ R 0 5 = nI c.2.2.2.1 ∧ ∀ j, j < c.2.2.2.1 → R 7 j = nI (c.2.2.2.2 j).1 ∧ R 8 j = bI (c.2.2.2.2 j).2
/-- a scene's rows of truths hold truths -/
def CB (R : Nat → Nat → Int32) : Prop := (∀ j, j < 24 → R 4 j = nI 0 ∨ R 4 j = nI 1) ∧ ∀ j, j < 12 → R 8 j = nI 0 ∨ R 8 j = nI 1
def CIm (R : Nat → Nat → Int32) (o : Option Sc_) : Prop := match o with
  | none => R 0 8 = nI 0
  | some c => R 0 8 = nI 1 ∧ CS R c
def CTp (R : Nat → Nat → Int32) (tp : Nat × (Nat → Nat)) : Prop := R 0 1 = nI tp.1 ∧ ∀ j, j < tp.1 → R 1 j = nI (tp.2 j)
def CSh (R : Nat → Nat → Int32) (sh : Nat → Option (Nat × Nat × (Nat → Int32))) : Prop := ∀ k, k < 4 → match sh k with
  | none => R 1 k = oI none
  | some x => R 1 k = nI x.2.1 ∧ R 2 k = nI x.1 ∧ ∀ i, i < 40 → R (4 + k) i = x.2.2 i
/-- which of the two is told -/
def CW (R : Nat → Nat → Int32) (w : Nat) : Prop := (w = 0 ∧ sel (R 0 1) = 0 ∧ sel (R 0 2) = 1) ∨ (w = 1 ∧ sel (R 0 1) = 1 ∧ sel (R 0 2) = 0)
/-- the class holds the state -/
def CI (O : Mem_) (A : A_) : Prop := ∃ w, CW (O 6 0) w ∧ O 6 0 0 9 = nI A.2.2.2.2.2.2 ∧ CT (O 4 w) A.1 ∧ CS (O 1 0) A.2.1 ∧ (∀ i, i < 2 → CIm (O 1 (1 + i)) (A.2.2.1 i)) ∧ (∀ i, i < 3 → CB (O 1 i)) ∧ CM (O 0 0) A.1 (2 ^ nK A.1 - 1) A.2.1.1 (mds A.1 A.2.1.2.1 A.2.1.1) ∧ CTp (O 3 0) A.2.2.2.1 ∧ O 3 0 0 2 = nI A.2.2.2.2.1 ∧ CSh (O 2 0) A.2.2.2.2.2.1
/-- the model's scene -/
def MS (R : Nat → Nat → Int32) (c : Sc_) : Prop := R 0 28 = nI c.1 ∧ (∀ j, j < c.1 → R 30 (3 * j) = nI (c.2.1 j).1 ∧ R 30 (3 * j + 1) = nI (c.2.1 j).2.1 ∧ R 30 (3 * j + 2) = bI (c.2.1 j).2.2) ∧ R 0 33 = nI c.2.2.1 ∧ R 0 34 = nI c.2.2.2.1 ∧ ∀ j, j < c.2.2.2.1 → R 36 j = nI (c.2.2.2.2 j).1 ∧ R 37 j = bI (c.2.2.2.2 j).2
def MIm (R : Nat → Nat → Int32) (i : Nat) (o : Option Sc_) : Prop := match o with
  | none => R 38 i = nI 0
  | some c => R 38 i = nI 1 ∧ R 39 (3 * i) = nI c.1 ∧ R 39 (3 * i + 1) = nI c.2.2.1 ∧ R 39 (3 * i + 2) = nI c.2.2.2.1 ∧ (∀ j, j < c.1 → R 40 (72 * i + 3 * j) = nI (c.2.1 j).1 ∧ R 40 (72 * i + (3 * j + 1)) = nI (c.2.1 j).2.1 ∧ R 40 (72 * i + (3 * j + 2)) = bI (c.2.1 j).2.2) ∧ ∀ j, j < c.2.2.2.1 → R 41 (24 * i + 2 * j) = nI (c.2.2.2.2 j).1 ∧ R 41 (24 * i + 2 * j + 1) = bI (c.2.2.2.2 j).2
def MTp (R : Nat → Nat → Int32) (tp : Nat × (Nat → Nat)) : Prop := R 0 20 = nI tp.1 ∧ ∀ j, j < tp.1 → R 20 j = nI (tp.2 j)
def MSh (R : Nat → Nat → Int32) (sh : Nat → Option (Nat × Nat × (Nat → Int32))) : Prop := ∀ k, k < 4 → match sh k with
  | none => R 42 k = oI none
  | some x => R 42 k = nI x.1 ∧ R 43 k = nI x.2.1 ∧ ∀ i, i < 40 → R 44 (40 * k + i) = x.2.2 i
/-- the model holds the state -/
def MI (R : Nat → Nat → Int32) (A : A_) : Prop := MT R A.1 ∧ MS R A.2.1 ∧ (∀ i, i < 2 → MIm R i (A.2.2.1 i)) ∧ NM R 0 A.1 (mds A.1 A.2.1.2.1 A.2.1.1) ∧ MTp R A.2.2.2.1 ∧ R 0 25 = nI A.2.2.2.2.1 ∧ MSh R A.2.2.2.2.2.1 ∧ R 0 44 = nI A.2.2.2.2.2.2
/-- where only rows for trying are changed -/
theorem CI.of {O O' : Mem_} {A : A_} (h : CI O A) (e0 : O' 0 0 = O 0 0) (e1 : O' 1 = O 1) (e2 : O' 2 = O 2) (e3 : O' 3 = O 3) (e4 : O' 4 = O 4) (e6 : O' 6 = O 6) : CI O' A := by
  obtain ⟨w, h⟩ := h
  refine ⟨w, ?_⟩
  rw [e0, e1, e2, e3, e4, e6]
  exact h
theorem MS.of {R R' : Nat → Nat → Int32} {c : Sc_} (h : MS R c) (e : ∀ p q, p ≠ 28 → p ≠ 31 → p ≠ 32 → p ≠ 33 → R' p q = R p q) : MS R' c := by
  refine ⟨?_, fun j hj => ?_, ?_, ?_, fun j hj => ?_⟩
  · rw [e _ _ (by decide) (by decide) (by decide) (by decide)]; exact h.1
  · rw [e _ _ (by decide) (by decide) (by decide) (by decide), e _ _ (by decide) (by decide) (by decide) (by decide), e _ _ (by decide) (by decide) (by decide) (by decide)]; exact h.2.1 j hj
  · rw [e _ _ (by decide) (by decide) (by decide) (by decide)]; exact h.2.2.1
  · rw [e _ _ (by decide) (by decide) (by decide) (by decide)]; exact h.2.2.2.1
  · rw [e _ _ (by decide) (by decide) (by decide) (by decide), e _ _ (by decide) (by decide) (by decide) (by decide)]; exact h.2.2.2.2 j hj
theorem MIm.of {R R' : Nat → Nat → Int32} {i : Nat} {o : Option Sc_} (h : MIm R i o) (e : ∀ p q, 38 ≤ p → p ≤ 41 → R' p q = R p q) : MIm R' i o := by
  cases o with
  | none => unfold MIm at h ⊢; dsimp only at h ⊢; rw [e _ _ (by decide) (by decide)]; exact h
  | some c =>
    unfold MIm at h ⊢
    dsimp only at h ⊢
    refine ⟨?_, ?_, ?_, ?_, fun j hj => ?_, fun j hj => ?_⟩
    · rw [e _ _ (by decide) (by decide)]; exact h.1
    · rw [e _ _ (by decide) (by decide)]; exact h.2.1
    · rw [e _ _ (by decide) (by decide)]; exact h.2.2.1
    · rw [e _ _ (by decide) (by decide)]; exact h.2.2.2.1
    · rw [e _ _ (by decide) (by decide), e _ _ (by decide) (by decide), e _ _ (by decide) (by decide)]; exact h.2.2.2.2.1 j hj
    · rw [e _ _ (by decide) (by decide), e _ _ (by decide) (by decide)]; exact h.2.2.2.2.2 j hj
theorem MSh.of {R R' : Nat → Nat → Int32} {sh : Nat → Option (Nat × Nat × (Nat → Int32))} (h : MSh R sh) (e : ∀ p q, 42 ≤ p → p ≤ 44 → R' p q = R p q) : MSh R' sh := by
  intro k hk
  have := h k hk
  cases hs : sh k with
  | none => rw [hs] at this; dsimp only at this ⊢; rw [e _ _ (by decide) (by decide)]; exact this
  | some x =>
    rw [hs] at this
    dsimp only at this ⊢
    refine ⟨?_, ?_, fun i hi => ?_⟩
    · rw [e _ _ (by decide) (by decide)]; exact this.1
    · rw [e _ _ (by decide) (by decide)]; exact this.2.1
    · rw [e _ _ (by decide) (by decide)]; exact this.2.2 i hi
theorem MTp.of {R R' : Nat → Nat → Int32} {tp : Nat × (Nat → Nat)} (h : MTp R tp) (e1 : R' 0 20 = R 0 20) (e : ∀ q, R' 20 q = R 20 q) : MTp R' tp := ⟨e1.trans h.1, fun j hj => (e j).trans (h.2 j hj)⟩
theorem MT.of {R R' : Nat → Nat → Int32} {T : Td_} (g : MT R T) (e : ∀ p q, p ≠ 28 → p ≠ 31 → p ≠ 32 → p ≠ 33 → R' p q = R p q) : MT R' T := by
  refine ⟨⟨?_, ?_, ?_, ?_⟩, fun t ht => ?_, fun m hm => ⟨?_, ?_, ?_⟩, fun s hs => ?_, fun k hk => ⟨?_, ?_, ?_, ?_, ?_⟩⟩ <;> rw [e _ _ (by decide) (by decide) (by decide) (by decide)]
  · exact g.1.1
  · exact g.1.2.1
  · exact g.1.2.2.1
  · exact g.1.2.2.2
  · exact g.2.1 t ht
  · exact (g.2.2.1 m hm).1
  · exact (g.2.2.1 m hm).2.1
  · exact (g.2.2.1 m hm).2.2
  · exact g.2.2.2.1 s hs
  · exact (g.2.2.2.2 k hk).1
  · exact (g.2.2.2.2 k hk).2.1
  · exact (g.2.2.2.2 k hk).2.2.1
  · exact (g.2.2.2.2 k hk).2.2.2.1
  · exact (g.2.2.2.2 k hk).2.2.2.2
theorem MI.of {O O' : Mem_} {A : A_} (hw : WA A) (h : MI (O 7 0) A) (e : ∀ p q, ¬ (p = 28 ∧ 70 ≤ q) → p ≠ 31 → p ≠ 32 → p ≠ 33 → O' 7 0 p q = O 7 0 p q) : MI (O' 7 0) A := by
  obtain ⟨h1, h2, h3, h4, h5, h6, h7, h8⟩ := h
  have h6k := hw.1.2.2.2.1
  have e2 : ∀ p q, p ≠ 28 → p ≠ 31 → p ≠ 32 → p ≠ 33 → O' 7 0 p q = O 7 0 p q := fun p q z => e p q (fun y => z y.1)
  refine ⟨h1.of e2, h2.of e2, fun i hi => (h3 i hi).of fun p q a b => e2 p q (by omega) (by omega) (by omega) (by omega), ?_, h5.of (e2 _ _ (by decide) (by decide) (by decide) (by decide)) (fun q => e2 _ _ (by decide) (by decide) (by decide) (by decide)), (e2 _ _ (by decide) (by decide) (by decide) (by decide)).trans h6, h7.of fun p q a b => e2 p q (by omega) (by omega) (by omega) (by omega), (e2 _ _ (by decide) (by decide) (by decide) (by decide)).trans h8⟩
  obtain ⟨g1, S, N, g2⟩ := h4
  refine ⟨fun k hk => ⟨fun s hs => ?_, ?_, ?_⟩, S, N, fun s hs => ?_⟩
  · rw [e _ _ (by omega) (by decide) (by decide) (by decide), e _ _ (by omega) (by decide) (by decide) (by decide)]; exact (g1 k hk).1 s hs
  · rw [e _ _ (by omega) (by decide) (by decide) (by decide)]; exact (g1 k hk).2.1
  · rw [e _ _ (by omega) (by decide) (by decide) (by decide)]; exact (g1 k hk).2.2
  · rw [e _ _ (by omega) (by decide) (by decide) (by decide), e _ _ (by omega) (by decide) (by decide) (by decide)]; exact g2 s hs
/-- class and model answer a call alike, and hold the same state behind it -/
def Cal (cx cm : Nat) (args : Lv_) : Prop := ∀ (O : Mem_) (A : A_), WA A → CI O A → MI (O 7 0) A → ∃ (r : Int32) (A' : A_) (O1 : Mem_), WA A' ∧ ex 40 cx 0 (some (vr 6 0 0) :: args) [] O = some (r, O1) ∧ CI O1 A' ∧ O1 7 = O 7 ∧ O1 8 = O 8 ∧ ∃ O2, ex 40 cm 0 (some (vr 7 0 0) :: args) [] O1 = some (r, O2) ∧ MI (O2 7 0) A' ∧ ∀ c, c ≠ 7 → O2 c = O1 c
theorem Cal.q {cx cm : Nat} {args : Lv_} (h : ∀ (O : Mem_) (A : A_), WA A → CI O A → MI (O 7 0) A → ∃ r, ex 40 cx 0 (some (vr 6 0 0) :: args) [] O = some (r, O) ∧ ex 40 cm 0 (some (vr 7 0 0) :: args) [] O = some (r, O)) : Cal cx cm args := by
  intro O A hw hc hm
  obtain ⟨r, h1, h2⟩ := h O A hw hc hm
  exact ⟨r, A, O, hw, h1, hc, rfl, rfl, O, h2, hm, fun _ _ => rfl⟩
def All_ : Prop := (∀ v : Int64, Cal 67 126 [some (vl v), none]) ∧ (∀ x : Int32, Cal 68 127 [some (vi x)]) ∧ (Cal 69 140 []) ∧ (Cal 70 141 []) ∧ (∀ x : Int32, Cal 71 149 [some (vi x)]) ∧ (∀ x y : Int32, Cal 72 150 [some (vi x), some (vi y)]) ∧ (∀ x : Int32, Cal 73 151 [some (vi x)]) ∧ (∀ x y : Int32, Cal 74 152 [some (vi x), some (vi y)]) ∧ (∀ (x y : Int32) (b : Bool), Cal 75 165 [some (vi x), some (vi y), some (vi (bI b))]) ∧ (∀ x y : Int32, Cal 76 166 [some (vi x), some (vi y)]) ∧ (Cal 77 167 []) ∧ (Cal 78 168 []) ∧ (∀ x y : Int32, Cal 79 169 [some (vi x), some (vi y)]) ∧ (∀ x y : Int32, Cal 80 170 [some (vi x), some (vi y)]) ∧ (∀ x y : Int32, Cal 81 171 [some (vi x), some (vi y)]) ∧ (∀ x y : Int32, Cal 82 173 [some (vi x), some (vi y)]) ∧ (∀ x : Int32, Cal 83 174 [some (vi x)]) ∧ (∀ x y : Int32, Cal 84 175 [some (vi x), some (vi y)]) ∧ (∀ x : Int32, Cal 85 177 [some (vi x)]) ∧ (∀ x y z : Int32, Cal 86 183 [some (vi x), some (vi y), some (vi z)]) ∧ (∀ x y : Int32, Cal 87 184 [some (vi x), some (vi y)]) ∧ (∀ x y : Int32, Cal 88 187 [some (vi x), some (vi y)]) ∧ (∀ x y : Int32, Cal 89 192 [some (vi x), some (vi y)]) ∧ (∀ x : Int32, Cal 90 193 [some (vi x)]) ∧ (∀ x y z : Int32, Cal 91 195 [some (vi x), some (vi y), some (vi z)]) ∧ (∀ x y z : Int32, Cal 92 197 [some (vi x), some (vi y), some (vi z)]) ∧ (∀ x : Int32, Cal 93 198 [some (vi x)]) ∧ (∀ x : Int32, Cal 94 199 [some (vi x)]) ∧ (∀ x y : Int32, Cal 95 200 [some (vi x), some (vi y)]) ∧ (∀ x y : Int32, Cal 96 201 [some (vi x), some (vi y)]) ∧ (∀ (x : Int32) (b : Bool), Cal 97 202 [some (vi x), some (vi (bI b))]) ∧ (Cal 98 203 []) ∧ (∀ x : Int32, Cal 99 206 [some (vi x)]) ∧ (∀ x y : Int32, Cal 100 207 [some (vi x), some (vi y)]) ∧ (∀ x : Int32, Cal 101 208 [some (vi x)]) ∧ (∀ x : Int32, Cal 102 209 [some (vi x)]) ∧ (∀ x : Int32, Cal 103 210 [some (vi x)]) ∧ (∀ x y z : Int32, Cal 104 212 [some (vi x), some (vi y), some (vi z)]) ∧ (∀ x y z : Int32, Cal 105 213 [some (vi x), some (vi y), some (vi z)]) ∧ (∀ x y z u : Int32, Cal 106 214 [some (vi x), some (vi y), some (vi z), some (vi u)]) ∧ (Cal 107 215 []) ∧ (∀ x : Int32, Cal 108 216 [some (vi x)])
theorem law_ok (hall : All_) (L : Nat) (hL5 : L ≤ 2560) : ∀ (n i : Nat) (O : Mem_) (A : A_), L < i + n → i ≤ L + 5 → O 8 0 1 0 = nI L → WA A → CI O A → MI (O 7 0) A → ∃ O2, ex (40 + 1) 218 18 [some (vr 8 0 0), some (vr 6 0 0), some (vr 7 0 0), some (vi (nI i))] [] O = some (nI 1, O2) := by
  obtain ⟨a0, a1, a2, a3, a4, a5, a6, a7, a8, a9, a10, a11, a12, a13, a14, a15, a16, a17, a18, a19, a20, a21, a22, a23, a24, a25, a26, a27, a28, a29, a30, a31, a32, a33, a34, a35, a36, a37, a38, a39, a40, a41⟩ := hall
  intro n
  induction n with
  | zero =>
    intro i O A h1 h2 hL hw hc hm
    refine ⟨O, (sL_law_18 ..).trans ?_⟩
    rw [hL, if_pos (by rw [Int32.lt_iff_toInt_lt, pk_sub_toInt (by omega) (by decide), nI_toInt (by omega)]; omega)]
  | succ n ih =>
    intro i O A h1 h2 hL hw hc hm
    by_cases hi : L < i + 5
    · refine ⟨O, (sL_law_18 ..).trans ?_⟩
      rw [hL, if_pos (by rw [Int32.lt_iff_toInt_lt, pk_sub_toInt (by omega) (by decide), nI_toInt (by omega)]; omega)]
    · have nx : ∀ (cx cm : Nat) (args : Lv_), Cal cx cm args → ∃ r O1 O2, ex 40 cx 0 (some (vr 6 0 0) :: args) [] O = some (r, O1) ∧ O1 8 = O 8 ∧ ex 40 cm 0 (some (vr 7 0 0) :: args) [] O1 = some (r, O2) ∧ O2 8 = O 8 ∧ ∃ O3, ex (40 + 1) 218 18 [some (vr 8 0 0), some (vr 6 0 0), some (vr 7 0 0), some (vi (nI (i + 5)))] [] O2 = some (nI 1, O3) := by
        intro cx cm args hcal
        obtain ⟨r, A', O1, w, e1, ci, h7, h8, O2, e2, mi, h9⟩ := hcal O A hw hc hm
        have c8 : O2 8 = O 8 := (h9 8 (by decide)).trans h8
        refine ⟨r, O1, O2, e1, h8, e2, c8, ih (i + 5) O2 A' (by omega) (by omega) (by rw [c8]; exact hL) w ?_ mi⟩
        refine ci.of ?_ ?_ ?_ ?_ ?_ ?_ <;> rw [h9 _ (by decide)]
      have hx : ¬ (nI L - nI 5 < nI i) := by rw [Int32.lt_iff_toInt_lt, pk_sub_toInt (by omega) (by decide), nI_toInt (by omega)]; omega
      rw [sL_law_18, hL, if_neg hx, if_pos (by rw [nI_clamp (by omega)]; exact ib_n (by omega) (by omega))]
      by_cases s0 : O 8 0 0 (nI i).toNatClampNeg &&& nI 63 = nI 0
      · rw [if_pos s0]
        obtain ⟨r, O1, O2, e1, h8, e2, c8, O3, e3⟩ := nx _ _ _ (a0 (((Int32.toInt64 (O 8 0 0 (i + 1))) <<< (Int32.toInt64 (nI 32) &&& 63)) ||| ((Int32.toInt64 (O 8 0 0 (i + 2))) &&& (4294967295))))
        refine ⟨O3, ?_⟩
        simp (disch := omega) only [nI_ltI, nI_eq, nI_add, nI_clamp, ib_n, pk_mul, q_and, q_or, q_dn, q_shl, q_shlm, q_p1, if_true, if_false, ↓reduceIte, Option.bind_some, bI_0, bI_1, bI_01, b_or, Nat.not_lt_zero, Nat.zero_add, Bool.false_eq_true, Bool.true_eq_false, or_false, or_true, true_or, false_or, e1, h8, hL, e2]
        exact e3
      rw [if_neg s0]
      by_cases s1 : O 8 0 0 (nI i).toNatClampNeg &&& nI 63 = nI 1
      · rw [if_pos s1]
        obtain ⟨r, O1, O2, e1, h8, e2, c8, O3, e3⟩ := nx _ _ _ (a1 (O 8 0 0 (i + 1)))
        refine ⟨O3, ?_⟩
        simp (disch := omega) only [nI_ltI, nI_eq, nI_add, nI_clamp, ib_n, pk_mul, q_and, q_or, q_dn, q_shl, q_shlm, q_p1, if_true, if_false, ↓reduceIte, Option.bind_some, bI_0, bI_1, bI_01, b_or, Nat.not_lt_zero, Nat.zero_add, Bool.false_eq_true, Bool.true_eq_false, or_false, or_true, true_or, false_or, e1, h8, hL, e2]
        exact e3
      rw [if_neg s1]
      by_cases s2 : O 8 0 0 (nI i).toNatClampNeg &&& nI 63 = nI 2
      · rw [if_pos s2]
        obtain ⟨r, O1, O2, e1, h8, e2, c8, O3, e3⟩ := nx _ _ _ (a2)
        refine ⟨O3, ?_⟩
        simp (disch := omega) only [nI_ltI, nI_eq, nI_add, nI_clamp, ib_n, pk_mul, q_and, q_or, q_dn, q_shl, q_shlm, q_p1, if_true, if_false, ↓reduceIte, Option.bind_some, bI_0, bI_1, bI_01, b_or, Nat.not_lt_zero, Nat.zero_add, Bool.false_eq_true, Bool.true_eq_false, or_false, or_true, true_or, false_or, e1, h8, hL, e2]
        exact e3
      rw [if_neg s2]
      by_cases s3 : O 8 0 0 (nI i).toNatClampNeg &&& nI 63 = nI 3
      · rw [if_pos s3]
        obtain ⟨r, O1, O2, e1, h8, e2, c8, O3, e3⟩ := nx _ _ _ (a3)
        refine ⟨O3, ?_⟩
        simp (disch := omega) only [nI_ltI, nI_eq, nI_add, nI_clamp, ib_n, pk_mul, q_and, q_or, q_dn, q_shl, q_shlm, q_p1, if_true, if_false, ↓reduceIte, Option.bind_some, bI_0, bI_1, bI_01, b_or, Nat.not_lt_zero, Nat.zero_add, Bool.false_eq_true, Bool.true_eq_false, or_false, or_true, true_or, false_or, e1, h8, hL, e2]
        exact e3
      rw [if_neg s3]
      by_cases s4 : O 8 0 0 (nI i).toNatClampNeg &&& nI 63 = nI 4
      · rw [if_pos s4]
        obtain ⟨r, O1, O2, e1, h8, e2, c8, O3, e3⟩ := nx _ _ _ (a4 (O 8 0 0 (i + 1)))
        refine ⟨O3, ?_⟩
        simp (disch := omega) only [nI_ltI, nI_eq, nI_add, nI_clamp, ib_n, pk_mul, q_and, q_or, q_dn, q_shl, q_shlm, q_p1, if_true, if_false, ↓reduceIte, Option.bind_some, bI_0, bI_1, bI_01, b_or, Nat.not_lt_zero, Nat.zero_add, Bool.false_eq_true, Bool.true_eq_false, or_false, or_true, true_or, false_or, e1, h8, hL, e2]
        exact e3
      rw [if_neg s4]
      by_cases s5 : O 8 0 0 (nI i).toNatClampNeg &&& nI 63 = nI 5
      · rw [if_pos s5]
        obtain ⟨r, O1, O2, e1, h8, e2, c8, O3, e3⟩ := nx _ _ _ (a5 (O 8 0 0 (i + 1)) (O 8 0 0 (i + 2)))
        refine ⟨O3, ?_⟩
        simp (disch := omega) only [nI_ltI, nI_eq, nI_add, nI_clamp, ib_n, pk_mul, q_and, q_or, q_dn, q_shl, q_shlm, q_p1, if_true, if_false, ↓reduceIte, Option.bind_some, bI_0, bI_1, bI_01, b_or, Nat.not_lt_zero, Nat.zero_add, Bool.false_eq_true, Bool.true_eq_false, or_false, or_true, true_or, false_or, e1, h8, hL, e2]
        exact e3
      rw [if_neg s5]
      by_cases s6 : O 8 0 0 (nI i).toNatClampNeg &&& nI 63 = nI 6
      · rw [if_pos s6]
        obtain ⟨r, O1, O2, e1, h8, e2, c8, O3, e3⟩ := nx _ _ _ (a6 (O 8 0 0 (i + 1)))
        refine ⟨O3, ?_⟩
        simp (disch := omega) only [nI_ltI, nI_eq, nI_add, nI_clamp, ib_n, pk_mul, q_and, q_or, q_dn, q_shl, q_shlm, q_p1, if_true, if_false, ↓reduceIte, Option.bind_some, bI_0, bI_1, bI_01, b_or, Nat.not_lt_zero, Nat.zero_add, Bool.false_eq_true, Bool.true_eq_false, or_false, or_true, true_or, false_or, e1, h8, hL, e2]
        exact e3
      rw [if_neg s6]
      by_cases s7 : O 8 0 0 (nI i).toNatClampNeg &&& nI 63 = nI 7
      · rw [if_pos s7]
        obtain ⟨r, O1, O2, e1, h8, e2, c8, O3, e3⟩ := nx _ _ _ (a7 (O 8 0 0 (i + 1)) (O 8 0 0 (i + 2)))
        refine ⟨O3, ?_⟩
        simp (disch := omega) only [nI_ltI, nI_eq, nI_add, nI_clamp, ib_n, pk_mul, q_and, q_or, q_dn, q_shl, q_shlm, q_p1, if_true, if_false, ↓reduceIte, Option.bind_some, bI_0, bI_1, bI_01, b_or, Nat.not_lt_zero, Nat.zero_add, Bool.false_eq_true, Bool.true_eq_false, or_false, or_true, true_or, false_or, e1, h8, hL, e2]
        exact e3
      rw [if_neg s7]
      by_cases s8 : O 8 0 0 (nI i).toNatClampNeg &&& nI 63 = nI 8
      · rw [if_pos s8]
        by_cases hb : O 8 0 0 (i + 3) = nI 0
        · obtain ⟨r, O1, O2, e1, h8, e2, c8, O3, e3⟩ := nx _ _ _ (a8 (O 8 0 0 (i + 1)) (O 8 0 0 (i + 2)) false)
          refine ⟨O3, ?_⟩
          simp only [bI_f] at e1 e2
          simp (disch := omega) only [nI_ltI, nI_eq, nI_add, nI_clamp, ib_n, pk_mul, q_and, q_or, q_dn, q_shl, q_shlm, q_p1, if_true, if_false, ↓reduceIte, Option.bind_some, bI_0, bI_1, bI_01, b_or, Nat.not_lt_zero, Nat.zero_add, Bool.false_eq_true, Bool.true_eq_false, or_false, or_true, true_or, false_or, hb, e1, h8, hL, e2, sL_law_454, sL_law_481]
          exact e3
        · obtain ⟨r, O1, O2, e1, h8, e2, c8, O3, e3⟩ := nx _ _ _ (a8 (O 8 0 0 (i + 1)) (O 8 0 0 (i + 2)) true)
          refine ⟨O3, ?_⟩
          simp only [bI_t] at e1 e2
          simp (disch := omega) only [nI_ltI, nI_eq, nI_add, nI_clamp, ib_n, pk_mul, q_and, q_or, q_dn, q_shl, q_shlm, q_p1, if_true, if_false, ↓reduceIte, Option.bind_some, bI_0, bI_1, bI_01, b_or, Nat.not_lt_zero, Nat.zero_add, Bool.false_eq_true, Bool.true_eq_false, or_false, or_true, true_or, false_or, hb, e1, h8, hL, e2, sL_law_454, sL_law_481]
          exact e3
      rw [if_neg s8]
      by_cases s9 : O 8 0 0 (nI i).toNatClampNeg &&& nI 63 = nI 9
      · rw [if_pos s9]
        obtain ⟨r, O1, O2, e1, h8, e2, c8, O3, e3⟩ := nx _ _ _ (a9 (O 8 0 0 (i + 1)) (O 8 0 0 (i + 2)))
        refine ⟨O3, ?_⟩
        simp (disch := omega) only [nI_ltI, nI_eq, nI_add, nI_clamp, ib_n, pk_mul, q_and, q_or, q_dn, q_shl, q_shlm, q_p1, if_true, if_false, ↓reduceIte, Option.bind_some, bI_0, bI_1, bI_01, b_or, Nat.not_lt_zero, Nat.zero_add, Bool.false_eq_true, Bool.true_eq_false, or_false, or_true, true_or, false_or, e1, h8, hL, e2]
        exact e3
      rw [if_neg s9]
      by_cases s10 : O 8 0 0 (nI i).toNatClampNeg &&& nI 63 = nI 10
      · rw [if_pos s10]
        obtain ⟨r, O1, O2, e1, h8, e2, c8, O3, e3⟩ := nx _ _ _ (a10)
        refine ⟨O3, ?_⟩
        simp (disch := omega) only [nI_ltI, nI_eq, nI_add, nI_clamp, ib_n, pk_mul, q_and, q_or, q_dn, q_shl, q_shlm, q_p1, if_true, if_false, ↓reduceIte, Option.bind_some, bI_0, bI_1, bI_01, b_or, Nat.not_lt_zero, Nat.zero_add, Bool.false_eq_true, Bool.true_eq_false, or_false, or_true, true_or, false_or, e1, h8, hL, e2]
        exact e3
      rw [if_neg s10]
      by_cases s11 : O 8 0 0 (nI i).toNatClampNeg &&& nI 63 = nI 11
      · rw [if_pos s11]
        obtain ⟨r, O1, O2, e1, h8, e2, c8, O3, e3⟩ := nx _ _ _ (a11)
        refine ⟨O3, ?_⟩
        simp (disch := omega) only [nI_ltI, nI_eq, nI_add, nI_clamp, ib_n, pk_mul, q_and, q_or, q_dn, q_shl, q_shlm, q_p1, if_true, if_false, ↓reduceIte, Option.bind_some, bI_0, bI_1, bI_01, b_or, Nat.not_lt_zero, Nat.zero_add, Bool.false_eq_true, Bool.true_eq_false, or_false, or_true, true_or, false_or, e1, h8, hL, e2]
        exact e3
      rw [if_neg s11]
      by_cases s12 : O 8 0 0 (nI i).toNatClampNeg &&& nI 63 = nI 12
      · rw [if_pos s12]
        obtain ⟨r, O1, O2, e1, h8, e2, c8, O3, e3⟩ := nx _ _ _ (a12 (O 8 0 0 (i + 1)) (O 8 0 0 (i + 2)))
        refine ⟨O3, ?_⟩
        simp (disch := omega) only [nI_ltI, nI_eq, nI_add, nI_clamp, ib_n, pk_mul, q_and, q_or, q_dn, q_shl, q_shlm, q_p1, if_true, if_false, ↓reduceIte, Option.bind_some, bI_0, bI_1, bI_01, b_or, Nat.not_lt_zero, Nat.zero_add, Bool.false_eq_true, Bool.true_eq_false, or_false, or_true, true_or, false_or, e1, h8, hL, e2]
        exact e3
      rw [if_neg s12]
      by_cases s13 : O 8 0 0 (nI i).toNatClampNeg &&& nI 63 = nI 13
      · rw [if_pos s13]
        obtain ⟨r, O1, O2, e1, h8, e2, c8, O3, e3⟩ := nx _ _ _ (a13 (O 8 0 0 (i + 1)) (O 8 0 0 (i + 2)))
        refine ⟨O3, ?_⟩
        simp (disch := omega) only [nI_ltI, nI_eq, nI_add, nI_clamp, ib_n, pk_mul, q_and, q_or, q_dn, q_shl, q_shlm, q_p1, if_true, if_false, ↓reduceIte, Option.bind_some, bI_0, bI_1, bI_01, b_or, Nat.not_lt_zero, Nat.zero_add, Bool.false_eq_true, Bool.true_eq_false, or_false, or_true, true_or, false_or, e1, h8, hL, e2]
        exact e3
      rw [if_neg s13]
      by_cases s14 : O 8 0 0 (nI i).toNatClampNeg &&& nI 63 = nI 14
      · rw [if_pos s14]
        obtain ⟨r, O1, O2, e1, h8, e2, c8, O3, e3⟩ := nx _ _ _ (a14 (O 8 0 0 (i + 1)) (O 8 0 0 (i + 2)))
        refine ⟨O3, ?_⟩
        simp (disch := omega) only [nI_ltI, nI_eq, nI_add, nI_clamp, ib_n, pk_mul, q_and, q_or, q_dn, q_shl, q_shlm, q_p1, if_true, if_false, ↓reduceIte, Option.bind_some, bI_0, bI_1, bI_01, b_or, Nat.not_lt_zero, Nat.zero_add, Bool.false_eq_true, Bool.true_eq_false, or_false, or_true, true_or, false_or, e1, h8, hL, e2]
        exact e3
      rw [if_neg s14]
      by_cases s15 : O 8 0 0 (nI i).toNatClampNeg &&& nI 63 = nI 15
      · rw [if_pos s15]
        obtain ⟨r, O1, O2, e1, h8, e2, c8, O3, e3⟩ := nx _ _ _ (a15 (O 8 0 0 (i + 1)) (O 8 0 0 (i + 2)))
        refine ⟨O3, ?_⟩
        simp (disch := omega) only [nI_ltI, nI_eq, nI_add, nI_clamp, ib_n, pk_mul, q_and, q_or, q_dn, q_shl, q_shlm, q_p1, if_true, if_false, ↓reduceIte, Option.bind_some, bI_0, bI_1, bI_01, b_or, Nat.not_lt_zero, Nat.zero_add, Bool.false_eq_true, Bool.true_eq_false, or_false, or_true, true_or, false_or, e1, h8, hL, e2]
        exact e3
      rw [if_neg s15]
      by_cases s16 : O 8 0 0 (nI i).toNatClampNeg &&& nI 63 = nI 16
      · rw [if_pos s16]
        obtain ⟨r, O1, O2, e1, h8, e2, c8, O3, e3⟩ := nx _ _ _ (a16 (O 8 0 0 (i + 1)))
        refine ⟨O3, ?_⟩
        simp (disch := omega) only [nI_ltI, nI_eq, nI_add, nI_clamp, ib_n, pk_mul, q_and, q_or, q_dn, q_shl, q_shlm, q_p1, if_true, if_false, ↓reduceIte, Option.bind_some, bI_0, bI_1, bI_01, b_or, Nat.not_lt_zero, Nat.zero_add, Bool.false_eq_true, Bool.true_eq_false, or_false, or_true, true_or, false_or, e1, h8, hL, e2]
        exact e3
      rw [if_neg s16]
      by_cases s17 : O 8 0 0 (nI i).toNatClampNeg &&& nI 63 = nI 17
      · rw [if_pos s17]
        obtain ⟨r, O1, O2, e1, h8, e2, c8, O3, e3⟩ := nx _ _ _ (a17 (O 8 0 0 (i + 1)) (O 8 0 0 (i + 2)))
        refine ⟨O3, ?_⟩
        simp (disch := omega) only [nI_ltI, nI_eq, nI_add, nI_clamp, ib_n, pk_mul, q_and, q_or, q_dn, q_shl, q_shlm, q_p1, if_true, if_false, ↓reduceIte, Option.bind_some, bI_0, bI_1, bI_01, b_or, Nat.not_lt_zero, Nat.zero_add, Bool.false_eq_true, Bool.true_eq_false, or_false, or_true, true_or, false_or, e1, h8, hL, e2]
        exact e3
      rw [if_neg s17]
      by_cases s18 : O 8 0 0 (nI i).toNatClampNeg &&& nI 63 = nI 18
      · rw [if_pos s18]
        obtain ⟨r, O1, O2, e1, h8, e2, c8, O3, e3⟩ := nx _ _ _ (a18 (O 8 0 0 (i + 1)))
        refine ⟨O3, ?_⟩
        simp (disch := omega) only [nI_ltI, nI_eq, nI_add, nI_clamp, ib_n, pk_mul, q_and, q_or, q_dn, q_shl, q_shlm, q_p1, if_true, if_false, ↓reduceIte, Option.bind_some, bI_0, bI_1, bI_01, b_or, Nat.not_lt_zero, Nat.zero_add, Bool.false_eq_true, Bool.true_eq_false, or_false, or_true, true_or, false_or, e1, h8, hL, e2]
        exact e3
      rw [if_neg s18]
      by_cases s19 : O 8 0 0 (nI i).toNatClampNeg &&& nI 63 = nI 19
      · rw [if_pos s19]
        obtain ⟨r, O1, O2, e1, h8, e2, c8, O3, e3⟩ := nx _ _ _ (a19 (O 8 0 0 (i + 1)) (O 8 0 0 (i + 2)) (O 8 0 0 (i + 3)))
        refine ⟨O3, ?_⟩
        simp (disch := omega) only [nI_ltI, nI_eq, nI_add, nI_clamp, ib_n, pk_mul, q_and, q_or, q_dn, q_shl, q_shlm, q_p1, if_true, if_false, ↓reduceIte, Option.bind_some, bI_0, bI_1, bI_01, b_or, Nat.not_lt_zero, Nat.zero_add, Bool.false_eq_true, Bool.true_eq_false, or_false, or_true, true_or, false_or, e1, h8, hL, e2]
        exact e3
      rw [if_neg s19]
      by_cases s20 : O 8 0 0 (nI i).toNatClampNeg &&& nI 63 = nI 20
      · rw [if_pos s20]
        obtain ⟨r, O1, O2, e1, h8, e2, c8, O3, e3⟩ := nx _ _ _ (a20 (O 8 0 0 (i + 1)) (O 8 0 0 (i + 2)))
        refine ⟨O3, ?_⟩
        simp (disch := omega) only [nI_ltI, nI_eq, nI_add, nI_clamp, ib_n, pk_mul, q_and, q_or, q_dn, q_shl, q_shlm, q_p1, if_true, if_false, ↓reduceIte, Option.bind_some, bI_0, bI_1, bI_01, b_or, Nat.not_lt_zero, Nat.zero_add, Bool.false_eq_true, Bool.true_eq_false, or_false, or_true, true_or, false_or, e1, h8, hL, e2]
        exact e3
      rw [if_neg s20]
      by_cases s21 : O 8 0 0 (nI i).toNatClampNeg &&& nI 63 = nI 21
      · rw [if_pos s21]
        obtain ⟨r, O1, O2, e1, h8, e2, c8, O3, e3⟩ := nx _ _ _ (a21 (O 8 0 0 (i + 1)) (O 8 0 0 (i + 2)))
        refine ⟨O3, ?_⟩
        simp (disch := omega) only [nI_ltI, nI_eq, nI_add, nI_clamp, ib_n, pk_mul, q_and, q_or, q_dn, q_shl, q_shlm, q_p1, if_true, if_false, ↓reduceIte, Option.bind_some, bI_0, bI_1, bI_01, b_or, Nat.not_lt_zero, Nat.zero_add, Bool.false_eq_true, Bool.true_eq_false, or_false, or_true, true_or, false_or, e1, h8, hL, e2]
        exact e3
      rw [if_neg s21]
      by_cases s22 : O 8 0 0 (nI i).toNatClampNeg &&& nI 63 = nI 22
      · rw [if_pos s22]
        obtain ⟨r, O1, O2, e1, h8, e2, c8, O3, e3⟩ := nx _ _ _ (a22 (O 8 0 0 (i + 1)) (O 8 0 0 (i + 2)))
        refine ⟨O3, ?_⟩
        simp (disch := omega) only [nI_ltI, nI_eq, nI_add, nI_clamp, ib_n, pk_mul, q_and, q_or, q_dn, q_shl, q_shlm, q_p1, if_true, if_false, ↓reduceIte, Option.bind_some, bI_0, bI_1, bI_01, b_or, Nat.not_lt_zero, Nat.zero_add, Bool.false_eq_true, Bool.true_eq_false, or_false, or_true, true_or, false_or, e1, h8, hL, e2]
        exact e3
      rw [if_neg s22]
      by_cases s23 : O 8 0 0 (nI i).toNatClampNeg &&& nI 63 = nI 23
      · rw [if_pos s23]
        obtain ⟨r, O1, O2, e1, h8, e2, c8, O3, e3⟩ := nx _ _ _ (a23 (O 8 0 0 (i + 1)))
        refine ⟨O3, ?_⟩
        simp (disch := omega) only [nI_ltI, nI_eq, nI_add, nI_clamp, ib_n, pk_mul, q_and, q_or, q_dn, q_shl, q_shlm, q_p1, if_true, if_false, ↓reduceIte, Option.bind_some, bI_0, bI_1, bI_01, b_or, Nat.not_lt_zero, Nat.zero_add, Bool.false_eq_true, Bool.true_eq_false, or_false, or_true, true_or, false_or, e1, h8, hL, e2]
        exact e3
      rw [if_neg s23]
      by_cases s24 : O 8 0 0 (nI i).toNatClampNeg &&& nI 63 = nI 24
      · rw [if_pos s24]
        obtain ⟨r, O1, O2, e1, h8, e2, c8, O3, e3⟩ := nx _ _ _ (a24 (O 8 0 0 (i + 1)) (O 8 0 0 (i + 2)) (O 8 0 0 (i + 3)))
        refine ⟨O3, ?_⟩
        simp (disch := omega) only [nI_ltI, nI_eq, nI_add, nI_clamp, ib_n, pk_mul, q_and, q_or, q_dn, q_shl, q_shlm, q_p1, if_true, if_false, ↓reduceIte, Option.bind_some, bI_0, bI_1, bI_01, b_or, Nat.not_lt_zero, Nat.zero_add, Bool.false_eq_true, Bool.true_eq_false, or_false, or_true, true_or, false_or, e1, h8, hL, e2]
        exact e3
      rw [if_neg s24]
      by_cases s25 : O 8 0 0 (nI i).toNatClampNeg &&& nI 63 = nI 25
      · rw [if_pos s25]
        obtain ⟨r, O1, O2, e1, h8, e2, c8, O3, e3⟩ := nx _ _ _ (a25 (O 8 0 0 (i + 1)) (O 8 0 0 (i + 2)) (O 8 0 0 (i + 3)))
        refine ⟨O3, ?_⟩
        simp (disch := omega) only [nI_ltI, nI_eq, nI_add, nI_clamp, ib_n, pk_mul, q_and, q_or, q_dn, q_shl, q_shlm, q_p1, if_true, if_false, ↓reduceIte, Option.bind_some, bI_0, bI_1, bI_01, b_or, Nat.not_lt_zero, Nat.zero_add, Bool.false_eq_true, Bool.true_eq_false, or_false, or_true, true_or, false_or, e1, h8, hL, e2]
        exact e3
      rw [if_neg s25]
      by_cases s26 : O 8 0 0 (nI i).toNatClampNeg &&& nI 63 = nI 26
      · rw [if_pos s26]
        obtain ⟨r, O1, O2, e1, h8, e2, c8, O3, e3⟩ := nx _ _ _ (a26 (O 8 0 0 (i + 1)))
        refine ⟨O3, ?_⟩
        simp (disch := omega) only [nI_ltI, nI_eq, nI_add, nI_clamp, ib_n, pk_mul, q_and, q_or, q_dn, q_shl, q_shlm, q_p1, if_true, if_false, ↓reduceIte, Option.bind_some, bI_0, bI_1, bI_01, b_or, Nat.not_lt_zero, Nat.zero_add, Bool.false_eq_true, Bool.true_eq_false, or_false, or_true, true_or, false_or, e1, h8, hL, e2]
        exact e3
      rw [if_neg s26]
      by_cases s27 : O 8 0 0 (nI i).toNatClampNeg &&& nI 63 = nI 27
      · rw [if_pos s27]
        obtain ⟨r, O1, O2, e1, h8, e2, c8, O3, e3⟩ := nx _ _ _ (a27 (O 8 0 0 (i + 1)))
        refine ⟨O3, ?_⟩
        simp (disch := omega) only [nI_ltI, nI_eq, nI_add, nI_clamp, ib_n, pk_mul, q_and, q_or, q_dn, q_shl, q_shlm, q_p1, if_true, if_false, ↓reduceIte, Option.bind_some, bI_0, bI_1, bI_01, b_or, Nat.not_lt_zero, Nat.zero_add, Bool.false_eq_true, Bool.true_eq_false, or_false, or_true, true_or, false_or, e1, h8, hL, e2]
        exact e3
      rw [if_neg s27]
      by_cases s28 : O 8 0 0 (nI i).toNatClampNeg &&& nI 63 = nI 28
      · rw [if_pos s28]
        obtain ⟨r, O1, O2, e1, h8, e2, c8, O3, e3⟩ := nx _ _ _ (a28 (O 8 0 0 (i + 1)) (O 8 0 0 (i + 2)))
        refine ⟨O3, ?_⟩
        simp (disch := omega) only [nI_ltI, nI_eq, nI_add, nI_clamp, ib_n, pk_mul, q_and, q_or, q_dn, q_shl, q_shlm, q_p1, if_true, if_false, ↓reduceIte, Option.bind_some, bI_0, bI_1, bI_01, b_or, Nat.not_lt_zero, Nat.zero_add, Bool.false_eq_true, Bool.true_eq_false, or_false, or_true, true_or, false_or, e1, h8, hL, e2]
        exact e3
      rw [if_neg s28]
      by_cases s29 : O 8 0 0 (nI i).toNatClampNeg &&& nI 63 = nI 29
      · rw [if_pos s29]
        obtain ⟨r, O1, O2, e1, h8, e2, c8, O3, e3⟩ := nx _ _ _ (a29 (O 8 0 0 (i + 1)) (O 8 0 0 (i + 2)))
        refine ⟨O3, ?_⟩
        simp (disch := omega) only [nI_ltI, nI_eq, nI_add, nI_clamp, ib_n, pk_mul, q_and, q_or, q_dn, q_shl, q_shlm, q_p1, if_true, if_false, ↓reduceIte, Option.bind_some, bI_0, bI_1, bI_01, b_or, Nat.not_lt_zero, Nat.zero_add, Bool.false_eq_true, Bool.true_eq_false, or_false, or_true, true_or, false_or, e1, h8, hL, e2]
        exact e3
      rw [if_neg s29]
      by_cases s30 : O 8 0 0 (nI i).toNatClampNeg &&& nI 63 = nI 30
      · rw [if_pos s30]
        by_cases hb : O 8 0 0 (i + 2) = nI 0
        · obtain ⟨r, O1, O2, e1, h8, e2, c8, O3, e3⟩ := nx _ _ _ (a30 (O 8 0 0 (i + 1)) false)
          refine ⟨O3, ?_⟩
          simp only [bI_f] at e1 e2
          simp (disch := omega) only [nI_ltI, nI_eq, nI_add, nI_clamp, ib_n, pk_mul, q_and, q_or, q_dn, q_shl, q_shlm, q_p1, if_true, if_false, ↓reduceIte, Option.bind_some, bI_0, bI_1, bI_01, b_or, Nat.not_lt_zero, Nat.zero_add, Bool.false_eq_true, Bool.true_eq_false, or_false, or_true, true_or, false_or, hb, e1, h8, hL, e2, sL_law_1141, sL_law_1163]
          exact e3
        · obtain ⟨r, O1, O2, e1, h8, e2, c8, O3, e3⟩ := nx _ _ _ (a30 (O 8 0 0 (i + 1)) true)
          refine ⟨O3, ?_⟩
          simp only [bI_t] at e1 e2
          simp (disch := omega) only [nI_ltI, nI_eq, nI_add, nI_clamp, ib_n, pk_mul, q_and, q_or, q_dn, q_shl, q_shlm, q_p1, if_true, if_false, ↓reduceIte, Option.bind_some, bI_0, bI_1, bI_01, b_or, Nat.not_lt_zero, Nat.zero_add, Bool.false_eq_true, Bool.true_eq_false, or_false, or_true, true_or, false_or, hb, e1, h8, hL, e2, sL_law_1141, sL_law_1163]
          exact e3
      rw [if_neg s30]
      by_cases s31 : O 8 0 0 (nI i).toNatClampNeg &&& nI 63 = nI 31
      · rw [if_pos s31]
        obtain ⟨r, O1, O2, e1, h8, e2, c8, O3, e3⟩ := nx _ _ _ (a31)
        refine ⟨O3, ?_⟩
        simp (disch := omega) only [nI_ltI, nI_eq, nI_add, nI_clamp, ib_n, pk_mul, q_and, q_or, q_dn, q_shl, q_shlm, q_p1, if_true, if_false, ↓reduceIte, Option.bind_some, bI_0, bI_1, bI_01, b_or, Nat.not_lt_zero, Nat.zero_add, Bool.false_eq_true, Bool.true_eq_false, or_false, or_true, true_or, false_or, e1, h8, hL, e2]
        exact e3
      rw [if_neg s31]
      by_cases s32 : O 8 0 0 (nI i).toNatClampNeg &&& nI 63 = nI 32
      · rw [if_pos s32]
        obtain ⟨r, O1, O2, e1, h8, e2, c8, O3, e3⟩ := nx _ _ _ (a32 (O 8 0 0 (i + 1)))
        refine ⟨O3, ?_⟩
        simp (disch := omega) only [nI_ltI, nI_eq, nI_add, nI_clamp, ib_n, pk_mul, q_and, q_or, q_dn, q_shl, q_shlm, q_p1, if_true, if_false, ↓reduceIte, Option.bind_some, bI_0, bI_1, bI_01, b_or, Nat.not_lt_zero, Nat.zero_add, Bool.false_eq_true, Bool.true_eq_false, or_false, or_true, true_or, false_or, e1, h8, hL, e2]
        exact e3
      rw [if_neg s32]
      by_cases s33 : O 8 0 0 (nI i).toNatClampNeg &&& nI 63 = nI 33
      · rw [if_pos s33]
        obtain ⟨r, O1, O2, e1, h8, e2, c8, O3, e3⟩ := nx _ _ _ (a33 (O 8 0 0 (i + 1)) (O 8 0 0 (i + 2)))
        refine ⟨O3, ?_⟩
        simp (disch := omega) only [nI_ltI, nI_eq, nI_add, nI_clamp, ib_n, pk_mul, q_and, q_or, q_dn, q_shl, q_shlm, q_p1, if_true, if_false, ↓reduceIte, Option.bind_some, bI_0, bI_1, bI_01, b_or, Nat.not_lt_zero, Nat.zero_add, Bool.false_eq_true, Bool.true_eq_false, or_false, or_true, true_or, false_or, e1, h8, hL, e2]
        exact e3
      rw [if_neg s33]
      by_cases s34 : O 8 0 0 (nI i).toNatClampNeg &&& nI 63 = nI 34
      · rw [if_pos s34]
        obtain ⟨r, O1, O2, e1, h8, e2, c8, O3, e3⟩ := nx _ _ _ (a34 (O 8 0 0 (i + 1)))
        refine ⟨O3, ?_⟩
        simp (disch := omega) only [nI_ltI, nI_eq, nI_add, nI_clamp, ib_n, pk_mul, q_and, q_or, q_dn, q_shl, q_shlm, q_p1, if_true, if_false, ↓reduceIte, Option.bind_some, bI_0, bI_1, bI_01, b_or, Nat.not_lt_zero, Nat.zero_add, Bool.false_eq_true, Bool.true_eq_false, or_false, or_true, true_or, false_or, e1, h8, hL, e2]
        exact e3
      rw [if_neg s34]
      by_cases s35 : O 8 0 0 (nI i).toNatClampNeg &&& nI 63 = nI 35
      · rw [if_pos s35]
        obtain ⟨r, O1, O2, e1, h8, e2, c8, O3, e3⟩ := nx _ _ _ (a35 (O 8 0 0 (i + 1)))
        refine ⟨O3, ?_⟩
        simp (disch := omega) only [nI_ltI, nI_eq, nI_add, nI_clamp, ib_n, pk_mul, q_and, q_or, q_dn, q_shl, q_shlm, q_p1, if_true, if_false, ↓reduceIte, Option.bind_some, bI_0, bI_1, bI_01, b_or, Nat.not_lt_zero, Nat.zero_add, Bool.false_eq_true, Bool.true_eq_false, or_false, or_true, true_or, false_or, e1, h8, hL, e2]
        exact e3
      rw [if_neg s35]
      by_cases s36 : O 8 0 0 (nI i).toNatClampNeg &&& nI 63 = nI 36
      · rw [if_pos s36]
        obtain ⟨r, O1, O2, e1, h8, e2, c8, O3, e3⟩ := nx _ _ _ (a36 (O 8 0 0 (i + 1)))
        refine ⟨O3, ?_⟩
        simp (disch := omega) only [nI_ltI, nI_eq, nI_add, nI_clamp, ib_n, pk_mul, q_and, q_or, q_dn, q_shl, q_shlm, q_p1, if_true, if_false, ↓reduceIte, Option.bind_some, bI_0, bI_1, bI_01, b_or, Nat.not_lt_zero, Nat.zero_add, Bool.false_eq_true, Bool.true_eq_false, or_false, or_true, true_or, false_or, e1, h8, hL, e2]
        exact e3
      rw [if_neg s36]
      by_cases s37 : O 8 0 0 (nI i).toNatClampNeg &&& nI 63 = nI 37
      · rw [if_pos s37]
        obtain ⟨r, O1, O2, e1, h8, e2, c8, O3, e3⟩ := nx _ _ _ (a37 (O 8 0 0 (i + 1)) (O 8 0 0 (i + 2)) (O 8 0 0 (i + 3)))
        refine ⟨O3, ?_⟩
        simp (disch := omega) only [nI_ltI, nI_eq, nI_add, nI_clamp, ib_n, pk_mul, q_and, q_or, q_dn, q_shl, q_shlm, q_p1, if_true, if_false, ↓reduceIte, Option.bind_some, bI_0, bI_1, bI_01, b_or, Nat.not_lt_zero, Nat.zero_add, Bool.false_eq_true, Bool.true_eq_false, or_false, or_true, true_or, false_or, e1, h8, hL, e2]
        exact e3
      rw [if_neg s37]
      by_cases s38 : O 8 0 0 (nI i).toNatClampNeg &&& nI 63 = nI 38
      · rw [if_pos s38]
        obtain ⟨r, O1, O2, e1, h8, e2, c8, O3, e3⟩ := nx _ _ _ (a38 (O 8 0 0 (i + 1)) (O 8 0 0 (i + 2)) (O 8 0 0 (i + 3)))
        refine ⟨O3, ?_⟩
        simp (disch := omega) only [nI_ltI, nI_eq, nI_add, nI_clamp, ib_n, pk_mul, q_and, q_or, q_dn, q_shl, q_shlm, q_p1, if_true, if_false, ↓reduceIte, Option.bind_some, bI_0, bI_1, bI_01, b_or, Nat.not_lt_zero, Nat.zero_add, Bool.false_eq_true, Bool.true_eq_false, or_false, or_true, true_or, false_or, e1, h8, hL, e2]
        exact e3
      rw [if_neg s38]
      by_cases s39 : O 8 0 0 (nI i).toNatClampNeg &&& nI 63 = nI 39
      · rw [if_pos s39]
        obtain ⟨r, O1, O2, e1, h8, e2, c8, O3, e3⟩ := nx _ _ _ (a39 (O 8 0 0 (i + 1)) (O 8 0 0 (i + 2)) (O 8 0 0 (i + 3)) (O 8 0 0 (i + 4)))
        refine ⟨O3, ?_⟩
        simp (disch := omega) only [nI_ltI, nI_eq, nI_add, nI_clamp, ib_n, pk_mul, q_and, q_or, q_dn, q_shl, q_shlm, q_p1, if_true, if_false, ↓reduceIte, Option.bind_some, bI_0, bI_1, bI_01, b_or, Nat.not_lt_zero, Nat.zero_add, Bool.false_eq_true, Bool.true_eq_false, or_false, or_true, true_or, false_or, e1, h8, hL, e2]
        exact e3
      rw [if_neg s39]
      by_cases s40 : O 8 0 0 (nI i).toNatClampNeg &&& nI 63 = nI 40
      · rw [if_pos s40]
        obtain ⟨r, O1, O2, e1, h8, e2, c8, O3, e3⟩ := nx _ _ _ (a40)
        refine ⟨O3, ?_⟩
        simp (disch := omega) only [nI_ltI, nI_eq, nI_add, nI_clamp, ib_n, pk_mul, q_and, q_or, q_dn, q_shl, q_shlm, q_p1, if_true, if_false, ↓reduceIte, Option.bind_some, bI_0, bI_1, bI_01, b_or, Nat.not_lt_zero, Nat.zero_add, Bool.false_eq_true, Bool.true_eq_false, or_false, or_true, true_or, false_or, e1, h8, hL, e2]
        exact e3
      rw [if_neg s40]
      by_cases s41 : O 8 0 0 (nI i).toNatClampNeg &&& nI 63 = nI 41
      · rw [if_pos s41]
        obtain ⟨r, O1, O2, e1, h8, e2, c8, O3, e3⟩ := nx _ _ _ (a41 (O 8 0 0 (i + 1)))
        refine ⟨O3, ?_⟩
        simp (disch := omega) only [nI_ltI, nI_eq, nI_add, nI_clamp, ib_n, pk_mul, q_and, q_or, q_dn, q_shl, q_shlm, q_p1, if_true, if_false, ↓reduceIte, Option.bind_some, bI_0, bI_1, bI_01, b_or, Nat.not_lt_zero, Nat.zero_add, Bool.false_eq_true, Bool.true_eq_false, or_false, or_true, true_or, false_or, e1, h8, hL, e2]
        exact e3
      rw [if_neg s41]
      rw [nI_add]
      exact ih (i + 5) O A (by omega) (by omega) hL hw hc hm
end
end
