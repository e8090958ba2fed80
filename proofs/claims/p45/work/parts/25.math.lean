/-! WHAT IS TOLD, WHAT IS THOUGHT: of lists and natural numbers. -/
section
/-- marks of things; has, has not of meanings; targets of sounds; kinds: sort, sees, fears, unlike, chance -/
abbrev Td_ : Type := List Nat × List (Nat × Nat) × List Nat × List (Nat × Nat × Option Nat × Bool × Nat)
def nT (T : Td_) : Nat := T.1.length
def nM (T : Td_) : Nat := T.2.1.length
def nS (T : Td_) : Nat := T.2.2.1.length
def nK (T : Td_) : Nat := T.2.2.2.length
def mk_ (T : Td_) (t : Nat) : Nat := T.1.getD t 0
def hs_ (T : Td_) (m : Nat) : Nat := (T.2.1.getD m (0, 0)).1
def hn_ (T : Td_) (m : Nat) : Nat := (T.2.1.getD m (0, 0)).2
def tg_ (T : Td_) (s : Nat) : Nat := T.2.2.1.getD s 0
def kd_ (T : Td_) (k : Nat) : Nat × Nat × Option Nat × Bool × Nat := T.2.2.2.getD k (0, 0, none, false, 0)
def so_ (T : Td_) (k : Nat) : Nat := (kd_ T k).1
def se_ (T : Td_) (k : Nat) : Nat := (kd_ T k).2.1
def fe_ (T : Td_) (k : Nat) : Option Nat := (kd_ T k).2.2.1
def ul_ (T : Td_) (k : Nat) : Bool := (kd_ T k).2.2.2.1
def ch_ (T : Td_) (k : Nat) : Nat := (kd_ T k).2.2.2.2
/-- the words of a text are in their bounds -/
def WT (T : Td_) : Prop := nT T ≤ 8 ∧ nM T ≤ 12 ∧ nS T ≤ 4 ∧ nK T ≤ 6 ∧ (∀ t, mk_ T t < 256) ∧ (∀ m, hs_ T m < 256 ∧ hn_ T m < 256 ∧ hs_ T m &&& hn_ T m = 0) ∧ (∀ s, s < nS T → tg_ T s < nM T) ∧ (∀ k, so_ T k < 4 ∧ se_ T k < 256 ∧ ch_ T k ≤ 9) ∧ ∀ k t, fe_ T k = some t → t < nT T
def isA (T : Td_) (m t : Nat) : Bool := (mk_ T t &&& hs_ T m == hs_ T m) && (mk_ T t &&& hn_ T m == 0)
def are (T : Td_) (m : Nat) : Nat := ms (nT T) (fun t => isA T m t)
def isIt (T : Td_) (t : Nat) : Nat := ms (nM T) (fun m => isA T m t)
def can (T : Td_) (k : Nat) : Nat := ms (nM T) (fun m => dn (hs_ T m ||| hn_ T m) (se_ T k) == 0)
def alike (T : Td_) (m : Nat) : Nat := ms (nM T) (fun o => are T m == are T o)
/-- how many of the first n bits of a mask are set -/
def cnt (a : Nat) : Nat → Nat
  | 0 => 0
  | n + 1 => cnt a n + (a.testBit n).toNat
def asks (T : Td_) (m : Nat) : Nat := cnt (hs_ T m ||| hn_ T m) 8
def fpl (T : Td_) : List Nat := (List.range 9).flatMap fun a => (List.range (nM T)).filter fun m => asks T m == a
def plainest (T : Td_) (these : Nat) : Option Nat := (fpl T).find? fun m => these.testBit m
/-- o is one of the mask's -/
def inO (o : Option Nat) (b : Nat) : Bool := o.any fun i => b.testBit i
def fitg (T : Td_) (t : Nat) (so : Bool) : Nat := if so then isIt T t else dn (2 ^ nM T - 1) (isIt T t)
def tgA (T : Td_) (s : Nat) : Nat := are T (tg_ T s)
def tgL (T : Td_) (s : Nat) : Nat := alike T (tg_ T s)
def isTg (T : Td_) (s t : Nat) : Bool := (tgA T s).testBit t
/-- a mind: thoughts, how often wrong, the latest, where it fled -/
abbrev Mi_ : Type := (Nat → Option Nat) × (Nat → Nat) × Option Nat × Option Nat
/-- minds: what fits each sound, the kinds -/
abbrev Md_ : Type := (Nat → Nat) × (Nat → Mi_)
def taken (T : Td_) (k s : Nat) (th : Nat → Option Nat) (m : Nat) : Bool := ul_ T k && (List.range (nS T)).any fun q => q != s && th q == some m
def chs (T : Td_) (f : Nat) (k s : Nat) (th : Nat → Option Nat) : Nat := ms 12 fun m => (f.testBit m && (can T k).testBit m) && !taken T k s th m
def upF {α : Type} (f : Nat → α) (s : Nat) (v : α) : Nat → α := fun q => if q = s then v else f q
/-- what a kind thinks of a sound behind a showing, and how often it was wrong -/
def thk (T : Td_) (k s t : Nat) (so : Bool) (f : Nat) (μ : Mi_) : Option Nat × Nat :=
  let these := chs T f k s μ.1
  let p := plainest T these
  if so_ T k = 1 then (if inO μ.2.2.1 these then μ.2.2.1 else p, μ.2.1 s)
  else if so_ T k = 2 then (if p.any (fun m => dn these (alike T m) == 0) then p else none, μ.2.1 s)
  else if so_ T k = 3 then
    (let w := if (μ.1 s).isSome && !inO (μ.1 s) (fitg T t so) then μ.2.1 s + 1 else μ.2.1 s
     if (μ.1 s).isNone || decide (2 ≤ w) then (p, 0) else (μ.1 s, w))
  else (p, μ.2.1 s)
def look1 (T : Td_) (k s t : Nat) (so : Bool) (f : Nat) (μ : Mi_) : Mi_ :=
  (upF μ.1 s (thk T k s t so f μ).1, upF μ.2.1 s (thk T k s t so f μ).2, ((thk T k s t so f μ).1 <|> μ.2.2.1), μ.2.2.2)
def see1 (T : Td_) (k s t : Nat) (so : Bool) (i : Nat) (f : Nat) (μ : Mi_) : Mi_ :=
  if μ.2.2.2.isSome then μ else if fe_ T k = some t then (fun _ => none, fun _ => 0, μ.2.2.1, some i) else look1 T k s t so f μ
def see (T : Td_) (i s t : Nat) (so : Bool) (M : Md_) : Md_ :=
  (upF M.1 s (M.1 s &&& fitg T t so), fun k => see1 T k s t so i (M.1 s &&& fitg T t so) (M.2 k))
def mi0 : Mi_ := (fun _ => none, fun _ => 0, none, none)
def md0 (T : Td_) : Md_ := (fun _ => 2 ^ nM T - 1, fun _ => mi0)
/-- the minds behind the first n of a row of showings -/
def mds (T : Td_) (f : Nat → Nat × Nat × Bool) : Nat → Md_
  | 0 => md0 T
  | n + 1 => see T n (f n).1 (f n).2.1 (f n).2.2 (mds T f n)
def sam (T : Td_) (M : Md_) (k s : Nat) : Bool := inO ((M.2 k).1 s) (tgL T s)
def samA (T : Td_) (M : Md_) (K s : Nat) : Bool := (List.range (nK T)).all fun k => !K.testBit k || sam T M k s
/-- a sum over the first n -/
def sm : Nat → (Nat → Nat) → Nat
  | 0, _ => 0
  | n + 1, f => sm n f + f n
def chc (T : Td_) (K : Nat) : Nat := sm (nK T) fun k => if K.testBit k then ch_ T k else 0
def frd (T : Td_) (K : Nat) : Nat := ms (nT T) fun t => (List.range (nK T)).any fun k => K.testBit k && fe_ T k == some t
def ans (T : Td_) (M : Md_) (k s t : Nat) : Option Nat := ((M.2 k).1 s).map fun m => ((are T m).testBit t).toNat
def who (T : Td_) (M : Md_) (s t : Nat) (a : Option Nat) : Nat := ms (nK T) fun k => ans T M k s t == a
end
