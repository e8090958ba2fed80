set_option maxRecDepth 100000 in
theorem sX0_blank_0 (d : Nat) (O : Mem_) (n0 : Nat) (n1 : Nat) : ex (d + 1) 0 0 [some (vr 0 n0 0), some (vr 4 n1 0)] [] O =
ex (d + 1) 0 7 [some (vr 0 n0 0), some (vr 4 n1 0), some (vi (nI 0))] [] (up O 0 n0 0 0 (nI 0)) := (ex_un d 0 300 0 [some (vr 0 n0 0), some (vr 4 n1 0)] [] O).trans rfl
set_option maxRecDepth 100000 in
theorem sX0_blank_7 (d : Nat) (O : Mem_) (n0 : Nat) (n1 : Nat) (x2 : Int32) : ex (d + 1) 0 7 [some (vr 0 n0 0), some (vr 4 n1 0), some (vi x2)] [] O =
if x2 < (nI 24) then
(if ib x2 24 then
(if ib x2 24 then
(ex (d + 1) 0 7 [some (vr 0 n0 0), some (vr 4 n1 0), some (vi (x2 + (nI 1)))] [] (up (up O 0 n0 2 (Int32.toNatClampNeg x2) (oI none)) 0 n0 3 (Int32.toNatClampNeg x2) (nI 0)))
else none)
else none)
else
(ex (d + 1) 0 36 [some (vr 0 n0 0), some (vr 4 n1 0), some (vi (nI 0))] [] O) := (ex_un d 0 300 7 [some (vr 0 n0 0), some (vr 4 n1 0), some (vi x2)] [] O).trans rfl
set_option maxRecDepth 100000 in
theorem sX0_blank_36 (d : Nat) (O : Mem_) (n0 : Nat) (n1 : Nat) (x2 : Int32) : ex (d + 1) 0 36 [some (vr 0 n0 0), some (vr 4 n1 0), some (vi x2)] [] O =
if x2 < (nI 6) then
(if ib x2 6 then
(if ib x2 6 then
(ex (d + 1) 0 36 [some (vr 0 n0 0), some (vr 4 n1 0), some (vi (x2 + (nI 1)))] [] (up (up O 0 n0 4 (Int32.toNatClampNeg x2) (oI none)) 0 n0 5 (Int32.toNatClampNeg x2) (oI none)))
else none)
else none)
else
(ex (d + 1) 0 66 [some (vr 0 n0 0), some (vr 4 n1 0), some (vi (nI 0))] [] O) := (ex_un d 0 300 36 [some (vr 0 n0 0), some (vr 4 n1 0), some (vi x2)] [] O).trans rfl
set_option maxRecDepth 100000 in
theorem sX0_blank_66 (d : Nat) (O : Mem_) (n0 : Nat) (n1 : Nat) (x2 : Int32) : ex (d + 1) 0 66 [some (vr 0 n0 0), some (vr 4 n1 0), some (vi x2)] [] O =
if x2 < (nI 4) then
((ex d 49 0 [some (vr 4 n1 0)] [] O).bind fun r0 =>
if ib x2 4 then
(ex (d + 1) 0 66 [some (vr 0 n0 0), some (vr 4 n1 0), some (vi (x2 + (nI 1)))] [] (up r0.2 0 n0 6 (Int32.toNatClampNeg x2) r0.1))
else none)
else
(some (nI 0, O)) := (ex_un d 0 300 66 [some (vr 0 n0 0), some (vr 4 n1 0), some (vi x2)] [] O).trans rfl
set_option maxRecDepth 100000 in
theorem sX0_witness_0 (d : Nat) (O : Mem_) (n0 : Nat) (n1 : Nat) (x2 : Int32) (x3 : Int32) (x4 : Int32) (x5 : Int32) : ex (d + 1) 2 0 [some (vr 0 n0 0), some (vr 4 n1 0), some (vi x2), some (vi x3), some (vi x4), some (vi x5)] [] O =
(ex d 45 0 [some (vr 4 n1 0), some (vi x3)] [] O).bind fun r0 =>
if r0.1 = nI 0 then
(some ((nI 0), r0.2))
else
((ex d 43 0 [some (vr 4 n1 0), some (vi x4)] [] r0.2).bind fun r1 =>
if r1.1 = nI 0 then
(some ((nI 0), r1.2))
else
(if ib x3 4 then
(if ib x3 4 then
((ex d 52 0 [some (vr 4 n1 0), some (vi x4), some (vi x5)] [] r1.2).bind fun r2 =>
if ib x3 4 then
(if ib x3 4 then
(if ((up r2.2 0 n0 6 (Int32.toNatClampNeg x3) ((r1.2 0 n0 6 (Int32.toNatClampNeg x3)) &&& r2.1)) 0 n0 6 (Int32.toNatClampNeg x3)) = (r1.2 0 n0 6 (Int32.toNatClampNeg x3)) then
(ex (d + 1) 2 65 [some (vr 0 n0 0), some (vr 4 n1 0), some (vi x2), some (vi x3), some (vi x4), some (vi x5), none, some (vi (nI 0)), some (vi (nI 0))] [] (up r2.2 0 n0 6 (Int32.toNatClampNeg x3) ((r1.2 0 n0 6 (Int32.toNatClampNeg x3)) &&& r2.1)))
else
(ex (d + 1) 2 65 [some (vr 0 n0 0), some (vr 4 n1 0), some (vi x2), some (vi x3), some (vi x4), some (vi x5), none, some (vi (nI 1)), some (vi (nI 0))] [] (up r2.2 0 n0 6 (Int32.toNatClampNeg x3) ((r1.2 0 n0 6 (Int32.toNatClampNeg x3)) &&& r2.1))))
else none)
else none)
else none)
else none)) := (ex_un d 2 300 0 [some (vr 0 n0 0), some (vr 4 n1 0), some (vi x2), some (vi x3), some (vi x4), some (vi x5)] [] O).trans rfl
set_option maxRecDepth 100000 in
theorem sX0_witness_65 (d : Nat) (O : Mem_) (n0 : Nat) (n1 : Nat) (x2 : Int32) (x3 : Int32) (x4 : Int32) (x5 : Int32) (x7 : Int32) (x8 : Int32) : ex (d + 1) 2 65 [some (vr 0 n0 0), some (vr 4 n1 0), some (vi x2), some (vi x3), some (vi x4), some (vi x5), none, some (vi x7), some (vi x8)] [] O =
if x8 < (O 4 n1 0 3) then
((ex d 109 0 [some (vi x8), some (vi x2)] [] O).bind fun r0 =>
if r0.1 = nI 0 then
(ex (d + 1) 2 65 [some (vr 0 n0 0), some (vr 4 n1 0), some (vi x2), some (vi x3), some (vi x4), some (vi x5), none, some (vi x7), some (vi (x8 + (nI 1)))] [] r0.2)
else
(if ib x8 6 then
(if (r0.2 0 n0 5 (Int32.toNatClampNeg x8)) = (oI none) then
(if ib x8 6 then
(if (r0.2 4 n1 16 (Int32.toNatClampNeg x8)) = x4 then
((ex d 3 0 [some (vr 0 n0 0), some (vi x8)] [] r0.2).bind fun r1 =>
ex (d + 1) 2 65 [some (vr 0 n0 0), some (vr 4 n1 0), some (vi x2), some (vi x3), some (vi x4), some (vi x5), none, some (vi (nI 1)), some (vi (x8 + (nI 1)))] [] r1.2)
else
((ex d 4 0 [some (vr 0 n0 0), some (vr 4 n1 0), some (vi x8), some (vi x3), some (vi x4), some (vi x5)] [] r0.2).bind fun r2 =>
if r2.1 = nI 0 then
(ex (d + 1) 2 65 [some (vr 0 n0 0), some (vr 4 n1 0), some (vi x2), some (vi x3), some (vi x4), some (vi x5), none, some (vi x7), some (vi (x8 + (nI 1)))] [] r2.2)
else
(ex (d + 1) 2 65 [some (vr 0 n0 0), some (vr 4 n1 0), some (vi x2), some (vi x3), some (vi x4), some (vi x5), none, some (vi (nI 1)), some (vi (x8 + (nI 1)))] [] r2.2)))
else none)
else
(ex (d + 1) 2 65 [some (vr 0 n0 0), some (vr 4 n1 0), some (vi x2), some (vi x3), some (vi x4), some (vi x5), none, some (vi x7), some (vi (x8 + (nI 1)))] [] r0.2))
else none))
else
(if x7 = nI 0 ∨ x7 = nI 1 then some (x7, (up O 0 n0 0 0 ((O 0 n0 0 0) + (nI 1)))) else none) := (ex_un d 2 300 65 [some (vr 0 n0 0), some (vr 4 n1 0), some (vi x2), some (vi x3), some (vi x4), some (vi x5), none, some (vi x7), some (vi x8)] [] O).trans rfl
set_option maxRecDepth 100000 in
theorem sX0_frighten_0 (d : Nat) (O : Mem_) (n0 : Nat) (x1 : Int32) : ex (d + 1) 3 0 [some (vr 0 n0 0), some (vi x1)] [] O =
if ib x1 6 then
(ex (d + 1) 3 12 [some (vr 0 n0 0), some (vi x1), some (vi (nI 0))] [] (up O 0 n0 5 (Int32.toNatClampNeg x1) (O 0 n0 0 0)))
else none := (ex_un d 3 300 0 [some (vr 0 n0 0), some (vi x1)] [] O).trans rfl
set_option maxRecDepth 100000 in
theorem sX0_frighten_12 (d : Nat) (O : Mem_) (n0 : Nat) (x1 : Int32) (x2 : Int32) : ex (d + 1) 3 12 [some (vr 0 n0 0), some (vi x1), some (vi x2)] [] O =
if x2 < (nI 4) then
(if ib ((x1 * (nI 4)) + x2) 24 then
(if ib ((x1 * (nI 4)) + x2) 24 then
(ex (d + 1) 3 12 [some (vr 0 n0 0), some (vi x1), some (vi (x2 + (nI 1)))] [] (up (up O 0 n0 2 (Int32.toNatClampNeg ((x1 * (nI 4)) + x2)) (oI none)) 0 n0 3 (Int32.toNatClampNeg ((x1 * (nI 4)) + x2)) (nI 0)))
else none)
else none)
else
(some (nI 0, O)) := (ex_un d 3 300 12 [some (vr 0 n0 0), some (vi x1), some (vi x2)] [] O).trans rfl
set_option maxRecDepth 100000 in
theorem sX0_look_0 (d : Nat) (O : Mem_) (n0 : Nat) (n1 : Nat) (x2 : Int32) (x3 : Int32) (x4 : Int32) (x5 : Int32) : ex (d + 1) 4 0 [some (vr 0 n0 0), some (vr 4 n1 0), some (vi x2), some (vi x3), some (vi x4), some (vi x5)] [] O =
if ib ((x2 * (nI 4)) + x3) 24 then
(if ib ((x2 * (nI 4)) + x3) 24 then
(if ib x2 6 then
((ex d 6 0 [some (vr 0 n0 0), some (vr 4 n1 0), some (vi x2), some (vi x3)] [] O).bind fun r0 =>
(ex d 51 0 [some (vr 4 n1 0), some (vi r0.1)] [] r0.2).bind fun r1 =>
if ib x2 6 then
(if (r1.2 4 n1 14 (Int32.toNatClampNeg x2)) = (nI 1) then
(if ib x2 6 then
((ex d 109 0 [some (vi (r1.2 0 n0 4 (Int32.toNatClampNeg x2))), some (vi r0.1)] [] r1.2).bind fun r2 =>
if r2.1 = nI 0 then
(if ib ((x2 * (nI 4)) + x3) 24 then
(ex (d + 1) 4 196 [some (vr 0 n0 0), none, some (vi x2), none, none, none, some (vi ((x2 * (nI 4)) + x3)), some (vi (O 0 n0 2 (Int32.toNatClampNeg ((x2 * (nI 4)) + x3)))), some (vi (O 0 n0 3 (Int32.toNatClampNeg ((x2 * (nI 4)) + x3)))), some (vi (O 0 n0 4 (Int32.toNatClampNeg x2)))] [] (up r2.2 0 n0 2 (Int32.toNatClampNeg ((x2 * (nI 4)) + x3)) r1.1))
else none)
else
(if ib x2 6 then
(if ib ((x2 * (nI 4)) + x3) 24 then
(ex (d + 1) 4 196 [some (vr 0 n0 0), none, some (vi x2), none, none, none, some (vi ((x2 * (nI 4)) + x3)), some (vi (O 0 n0 2 (Int32.toNatClampNeg ((x2 * (nI 4)) + x3)))), some (vi (O 0 n0 3 (Int32.toNatClampNeg ((x2 * (nI 4)) + x3)))), some (vi (O 0 n0 4 (Int32.toNatClampNeg x2)))] [] (up r2.2 0 n0 2 (Int32.toNatClampNeg ((x2 * (nI 4)) + x3)) (r2.2 0 n0 4 (Int32.toNatClampNeg x2))))
else none)
else none))
else none)
else if (r1.2 4 n1 14 (Int32.toNatClampNeg x2)) = (nI 2) then
(if r1.1 = (oI none) then
(if ib ((x2 * (nI 4)) + x3) 24 then
(ex (d + 1) 4 196 [some (vr 0 n0 0), none, some (vi x2), none, none, none, some (vi ((x2 * (nI 4)) + x3)), some (vi (O 0 n0 2 (Int32.toNatClampNeg ((x2 * (nI 4)) + x3)))), some (vi (O 0 n0 3 (Int32.toNatClampNeg ((x2 * (nI 4)) + x3)))), some (vi (O 0 n0 4 (Int32.toNatClampNeg x2)))] [] (up r1.2 0 n0 2 (Int32.toNatClampNeg ((x2 * (nI 4)) + x3)) (oI none)))
else none)
else
(if ib r1.1 12 then
(if (r0.1 &&& ((r1.2 4 n1 11 (Int32.toNatClampNeg r1.1)) ^^^ (-1))) = nI 0 then
(if ib ((x2 * (nI 4)) + x3) 24 then
(ex (d + 1) 4 196 [some (vr 0 n0 0), none, some (vi x2), none, none, none, some (vi ((x2 * (nI 4)) + x3)), some (vi (O 0 n0 2 (Int32.toNatClampNeg ((x2 * (nI 4)) + x3)))), some (vi (O 0 n0 3 (Int32.toNatClampNeg ((x2 * (nI 4)) + x3)))), some (vi (O 0 n0 4 (Int32.toNatClampNeg x2)))] [] (up r1.2 0 n0 2 (Int32.toNatClampNeg ((x2 * (nI 4)) + x3)) r1.1))
else none)
else
(if ib ((x2 * (nI 4)) + x3) 24 then
(ex (d + 1) 4 196 [some (vr 0 n0 0), none, some (vi x2), none, none, none, some (vi ((x2 * (nI 4)) + x3)), some (vi (O 0 n0 2 (Int32.toNatClampNeg ((x2 * (nI 4)) + x3)))), some (vi (O 0 n0 3 (Int32.toNatClampNeg ((x2 * (nI 4)) + x3)))), some (vi (O 0 n0 4 (Int32.toNatClampNeg x2)))] [] (up r1.2 0 n0 2 (Int32.toNatClampNeg ((x2 * (nI 4)) + x3)) (oI none)))
else none))
else none))
else if (r1.2 4 n1 14 (Int32.toNatClampNeg x2)) = (nI 3) then
(if ib ((x2 * (nI 4)) + x3) 24 then
((ex d 52 0 [some (vr 4 n1 0), some (vi x4), some (vi x5)] [] r1.2).bind fun r3 =>
(ex d 109 0 [some (vi (r1.2 0 n0 2 (Int32.toNatClampNeg ((x2 * (nI 4)) + x3)))), some (vi r3.1)] [] r3.2).bind fun r4 =>
(ex d 5 0 [some (vr 0 n0 0), some (vi ((x2 * (nI 4)) + x3)), some (vi r1.1), some (vi r4.1)] [] r4.2).bind fun r5 =>
ex (d + 1) 4 196 [some (vr 0 n0 0), none, some (vi x2), none, none, none, some (vi ((x2 * (nI 4)) + x3)), some (vi (O 0 n0 2 (Int32.toNatClampNeg ((x2 * (nI 4)) + x3)))), some (vi (O 0 n0 3 (Int32.toNatClampNeg ((x2 * (nI 4)) + x3)))), some (vi (O 0 n0 4 (Int32.toNatClampNeg x2)))] [] r5.2)
else none)
else 
(if ib ((x2 * (nI 4)) + x3) 24 then
(ex (d + 1) 4 196 [some (vr 0 n0 0), none, some (vi x2), none, none, none, some (vi ((x2 * (nI 4)) + x3)), some (vi (O 0 n0 2 (Int32.toNatClampNeg ((x2 * (nI 4)) + x3)))), some (vi (O 0 n0 3 (Int32.toNatClampNeg ((x2 * (nI 4)) + x3)))), some (vi (O 0 n0 4 (Int32.toNatClampNeg x2)))] [] (up r1.2 0 n0 2 (Int32.toNatClampNeg ((x2 * (nI 4)) + x3)) r1.1))
else none))
else none)
else none)
else none)
else none := (ex_un d 4 300 0 [some (vr 0 n0 0), some (vr 4 n1 0), some (vi x2), some (vi x3), some (vi x4), some (vi x5)] [] O).trans rfl
set_option maxRecDepth 100000 in
theorem sX0_look_196 (d : Nat) (O : Mem_) (n0 : Nat) (x2 : Int32) (x6 : Int32) (x7 : Int32) (x8 : Int32) (x9 : Int32) : ex (d + 1) 4 196 [some (vr 0 n0 0), none, some (vi x2), none, none, none, some (vi x6), some (vi x7), some (vi x8), some (vi x9)] [] O =
if ib x6 24 then
(if (O 0 n0 2 (Int32.toNatClampNeg x6)) = (oI none) then
(ex (d + 1) 4 221 [some (vr 0 n0 0), none, some (vi x2), none, none, none, some (vi x6), some (vi x7), some (vi x8), some (vi x9)] [] O)
else
(if ib x6 24 then
(if ib x2 6 then
(ex (d + 1) 4 221 [some (vr 0 n0 0), none, some (vi x2), none, none, none, some (vi x6), some (vi x7), some (vi x8), some (vi x9)] [] (up O 0 n0 4 (Int32.toNatClampNeg x2) (O 0 n0 2 (Int32.toNatClampNeg x6))))
else none)
else none))
else none := (ex_un d 4 300 196 [some (vr 0 n0 0), none, some (vi x2), none, none, none, some (vi x6), some (vi x7), some (vi x8), some (vi x9)] [] O).trans rfl
set_option maxRecDepth 100000 in
theorem sX0_look_221 (d : Nat) (O : Mem_) (n0 : Nat) (x2 : Int32) (x6 : Int32) (x7 : Int32) (x8 : Int32) (x9 : Int32) : ex (d + 1) 4 221 [some (vr 0 n0 0), none, some (vi x2), none, none, none, some (vi x6), some (vi x7), some (vi x8), some (vi x9)] [] O =
if ib x6 24 then
(if (O 0 n0 2 (Int32.toNatClampNeg x6)) = x7 then
(if ib x6 24 then
(if (O 0 n0 3 (Int32.toNatClampNeg x6)) = x8 then
(if ib x2 6 then
(if (O 0 n0 4 (Int32.toNatClampNeg x2)) = x9 then
(some ((nI 0), O))
else
(some ((nI 1), O)))
else none)
else
(some ((nI 1), O)))
else none)
else
(some ((nI 1), O)))
else none := (ex_un d 4 300 221 [some (vr 0 n0 0), none, some (vi x2), none, none, none, some (vi x6), some (vi x7), some (vi x8), some (vi x9)] [] O).trans rfl
set_option maxRecDepth 100000 in
theorem sX0_holdOrTurn_0 (d : Nat) (O : Mem_) (n0 : Nat) (x1 : Int32) (x2 : Int32) (x3 : Int32) : ex (d + 1) 5 0 [some (vr 0 n0 0), some (vi x1), some (vi x2), some (vi x3)] [] O =
if ib x1 24 then
(if (O 0 n0 2 (Int32.toNatClampNeg x1)) = (oI none) then
(ex (d + 1) 5 16 [some (vr 0 n0 0), some (vi x1), some (vi x2), some (vi x3)] [vi (nI 0)] O)
else
(ex (d + 1) 5 16 [some (vr 0 n0 0), some (vi x1), some (vi x2), some (vi x3)] [vi (nI 1)] O))
else none := (ex_un d 5 300 0 [some (vr 0 n0 0), some (vi x1), some (vi x2), some (vi x3)] [] O).trans rfl
set_option maxRecDepth 100000 in
theorem sX0_holdOrTurn_16 (d : Nat) (O : Mem_) (n0 : Nat) (x1 : Int32) (x2 : Int32) (x3 : Int32) (y0 : Int32) : ex (d + 1) 5 16 [some (vr 0 n0 0), some (vi x1), some (vi x2), some (vi x3)] [vi y0] O =
if y0 = nI 0 then
(ex (d + 1) 5 37 [some (vr 0 n0 0), some (vi x1), some (vi x2), none, some (vi y0)] [] O)
else
(if x3 = nI 0 then
(if ib x1 24 then
(if ib x1 24 then
(ex (d + 1) 5 37 [some (vr 0 n0 0), some (vi x1), some (vi x2), none, some (vi y0)] [] (up O 0 n0 3 (Int32.toNatClampNeg x1) ((O 0 n0 3 (Int32.toNatClampNeg x1)) + (nI 1))))
else none)
else none)
else
(ex (d + 1) 5 37 [some (vr 0 n0 0), some (vi x1), some (vi x2), none, some (vi y0)] [] O)) := (ex_un d 5 300 16 [some (vr 0 n0 0), some (vi x1), some (vi x2), some (vi x3)] [vi y0] O).trans rfl
set_option maxRecDepth 100000 in
theorem sX0_holdOrTurn_37 (d : Nat) (O : Mem_) (n0 : Nat) (x1 : Int32) (x2 : Int32) (x4 : Int32) : ex (d + 1) 5 37 [some (vr 0 n0 0), some (vi x1), some (vi x2), none, some (vi x4)] [] O =
if x4 = nI 0 then
(ex (d + 1) 5 52 [some (vr 0 n0 0), some (vi x1), some (vi x2)] [] O)
else
(if ib x1 24 then
(if (O 0 n0 3 (Int32.toNatClampNeg x1)) < (nI 2) then
(some (nI 0, O))
else
(ex (d + 1) 5 52 [some (vr 0 n0 0), some (vi x1), some (vi x2)] [] O))
else none) := (ex_un d 5 300 37 [some (vr 0 n0 0), some (vi x1), some (vi x2), none, some (vi x4)] [] O).trans rfl
set_option maxRecDepth 100000 in
theorem sX0_holdOrTurn_52 (d : Nat) (O : Mem_) (n0 : Nat) (x1 : Int32) (x2 : Int32) : ex (d + 1) 5 52 [some (vr 0 n0 0), some (vi x1), some (vi x2)] [] O =
if ib x1 24 then
(if ib x1 24 then
(some (nI 0, (up (up O 0 n0 2 (Int32.toNatClampNeg x1) x2) 0 n0 3 (Int32.toNatClampNeg x1) (nI 0))))
else none)
else none := (ex_un d 5 300 52 [some (vr 0 n0 0), some (vi x1), some (vi x2)] [] O).trans rfl
set_option maxRecDepth 100000 in
theorem sX0_choices_0 (d : Nat) (O : Mem_) (n0 : Nat) (n1 : Nat) (x2 : Int32) (x3 : Int32) : ex (d + 1) 6 0 [some (vr 0 n0 0), some (vr 4 n1 0), some (vi x2), some (vi x3)] [] O =
if ib x3 4 then
(if ib x2 6 then
(ex (d + 1) 6 18 [some (vr 0 n0 0), some (vr 4 n1 0), some (vi x2), some (vi x3), some (vi ((O 0 n0 6 (Int32.toNatClampNeg x3)) &&& (O 4 n1 19 (Int32.toNatClampNeg x2)))), some (vi (nI 0))] [] O)
else none)
else none := (ex_un d 6 300 0 [some (vr 0 n0 0), some (vr 4 n1 0), some (vi x2), some (vi x3)] [] O).trans rfl
set_option maxRecDepth 100000 in
theorem sX0_choices_18 (d : Nat) (O : Mem_) (n0 : Nat) (n1 : Nat) (x2 : Int32) (x3 : Int32) (x4 : Int32) (x5 : Int32) : ex (d + 1) 6 18 [some (vr 0 n0 0), some (vr 4 n1 0), some (vi x2), some (vi x3), some (vi x4), some (vi x5)] [] O =
if x5 < (O 4 n1 0 2) then
(if ib x2 6 then
(if (O 4 n1 17 (Int32.toNatClampNeg x2)) = nI 0 then
(some (x4, O))
else
((ex d 7 0 [some (vr 0 n0 0), some (vi x2), some (vi x5)] [] O).bind fun r0 =>
if x5 = x3 then
(ex (d + 1) 6 18 [some (vr 0 n0 0), some (vr 4 n1 0), some (vi x2), some (vi x3), some (vi x4), some (vi (x5 + (nI 1)))] [] r0.2)
else
(if r0.1 = (oI none) then
(ex (d + 1) 6 18 [some (vr 0 n0 0), some (vr 4 n1 0), some (vi x2), some (vi x3), some (vi x4), some (vi (x5 + (nI 1)))] [] r0.2)
else
(ex (d + 1) 6 18 [some (vr 0 n0 0), some (vr 4 n1 0), some (vi x2), some (vi x3), some (vi (x4 &&& (((nI 1) <<< (r0.1 &&& (31:Int32))) ^^^ (-1)))), some (vi (x5 + (nI 1)))] [] r0.2))))
else none)
else
(some (x4, O)) := (ex_un d 6 300 18 [some (vr 0 n0 0), some (vr 4 n1 0), some (vi x2), some (vi x3), some (vi x4), some (vi x5)] [] O).trans rfl
set_option maxRecDepth 100000 in
theorem sX0_thoughtOf_0 (d : Nat) (O : Mem_) (n0 : Nat) (x1 : Int32) (x2 : Int32) : ex (d + 1) 7 0 [some (vr 0 n0 0), some (vi x1), some (vi x2)] [] O =
if ((x1 * (nI 4)) + x2) < nI 0 then
(some ((oI none), O))
else
(if ((x1 * (nI 4)) + x2) < (nI 24) then
(if ib ((x1 * (nI 4)) + x2) 24 then
(some ((O 0 n0 2 (Int32.toNatClampNeg ((x1 * (nI 4)) + x2))), O))
else none)
else
(some ((oI none), O))) := (ex_un d 7 300 0 [some (vr 0 n0 0), some (vi x1), some (vi x2)] [] O).trans rfl
set_option maxRecDepth 100000 in
theorem sX0_isSame_0 (d : Nat) (O : Mem_) (n0 : Nat) (n1 : Nat) (x2 : Int32) (x3 : Int32) : ex (d + 1) 8 0 [some (vr 0 n0 0), some (vr 4 n1 0), some (vi x2), some (vi x3)] [] O =
(ex d 7 0 [some (vr 0 n0 0), some (vi x2), some (vi x3)] [] O).bind fun r0 =>
(ex d 54 0 [some (vr 4 n1 0), some (vi x3)] [] r0.2).bind fun r1 =>
(ex d 109 0 [some (vi r0.1), some (vi r1.1)] [] r1.2).bind fun r2 =>
if r2.1 = nI 0 ∨ r2.1 = nI 1 then some (r2.1, r2.2) else none := (ex_un d 8 300 0 [some (vr 0 n0 0), some (vr 4 n1 0), some (vi x2), some (vi x3)] [] O).trans rfl
set_option maxRecDepth 100000 in
theorem sX0_isSameForAll_0 (d : Nat) (O : Mem_) (n0 : Nat) (n1 : Nat) (x2 : Int32) (x3 : Int32) : ex (d + 1) 9 0 [some (vr 0 n0 0), some (vr 4 n1 0), some (vi x2), some (vi x3)] [] O =
ex (d + 1) 9 3 [some (vr 0 n0 0), some (vr 4 n1 0), some (vi x2), some (vi x3), some (vi (nI 0))] [] O := (ex_un d 9 300 0 [some (vr 0 n0 0), some (vr 4 n1 0), some (vi x2), some (vi x3)] [] O).trans rfl
set_option maxRecDepth 100000 in
theorem sX0_isSameForAll_3 (d : Nat) (O : Mem_) (n0 : Nat) (n1 : Nat) (x2 : Int32) (x3 : Int32) (x4 : Int32) : ex (d + 1) 9 3 [some (vr 0 n0 0), some (vr 4 n1 0), some (vi x2), some (vi x3), some (vi x4)] [] O =
if x4 < (O 4 n1 0 3) then
((ex d 109 0 [some (vi x4), some (vi x2)] [] O).bind fun r0 =>
if r0.1 = nI 0 then
(ex (d + 1) 9 3 [some (vr 0 n0 0), some (vr 4 n1 0), some (vi x2), some (vi x3), some (vi (x4 + (nI 1)))] [] r0.2)
else
((ex d 8 0 [some (vr 0 n0 0), some (vr 4 n1 0), some (vi x4), some (vi x3)] [] r0.2).bind fun r1 =>
if r1.1 = nI 0 then
(some ((nI 0), r1.2))
else
(ex (d + 1) 9 3 [some (vr 0 n0 0), some (vr 4 n1 0), some (vi x2), some (vi x3), some (vi (x4 + (nI 1)))] [] r1.2)))
else
(some ((nI 1), O)) := (ex_un d 9 300 3 [some (vr 0 n0 0), some (vr 4 n1 0), some (vi x2), some (vi x3), some (vi x4)] [] O).trans rfl
set_option maxRecDepth 100000 in
theorem sX0_chanceOfSame_0 (d : Nat) (O : Mem_) (n0 : Nat) (n1 : Nat) (x2 : Int32) : ex (d + 1) 10 0 [some (vr 0 n0 0), some (vr 4 n1 0), some (vi x2)] [] O =
ex (d + 1) 10 5 [some (vr 0 n0 0), some (vr 4 n1 0), some (vi x2), some (vi (nI 0)), some (vi (nI 0))] [] O := (ex_un d 10 300 0 [some (vr 0 n0 0), some (vr 4 n1 0), some (vi x2)] [] O).trans rfl
set_option maxRecDepth 100000 in
theorem sX0_chanceOfSame_5 (d : Nat) (O : Mem_) (n0 : Nat) (n1 : Nat) (x2 : Int32) (x3 : Int32) (x4 : Int32) : ex (d + 1) 10 5 [some (vr 0 n0 0), some (vr 4 n1 0), some (vi x2), some (vi x3), some (vi x4)] [] O =
if x4 < (O 4 n1 0 3) then
((ex d 8 0 [some (vr 0 n0 0), some (vr 4 n1 0), some (vi x4), some (vi x2)] [] O).bind fun r0 =>
if r0.1 = nI 0 then
(ex (d + 1) 10 5 [some (vr 0 n0 0), some (vr 4 n1 0), some (vi x2), some (vi x3), some (vi (x4 + (nI 1)))] [] r0.2)
else
(if ib x4 6 then
(ex (d + 1) 10 5 [some (vr 0 n0 0), some (vr 4 n1 0), some (vi x2), some (vi (x3 + (r0.2 4 n1 18 (Int32.toNatClampNeg x4)))), some (vi (x4 + (nI 1)))] [] r0.2)
else none))
else
(some (x3, O)) := (ex_un d 10 300 5 [some (vr 0 n0 0), some (vr 4 n1 0), some (vi x2), some (vi x3), some (vi x4)] [] O).trans rfl
set_option maxRecDepth 100000 in
theorem sX0_answerOf_0 (d : Nat) (O : Mem_) (n0 : Nat) (n1 : Nat) (x2 : Int32) (x3 : Int32) (x4 : Int32) : ex (d + 1) 11 0 [some (vr 0 n0 0), some (vr 4 n1 0), some (vi x2), some (vi x3), some (vi x4)] [] O =
(ex d 7 0 [some (vr 0 n0 0), some (vi x2), some (vi x3)] [] O).bind fun r0 =>
(ex d 44 0 [some (vr 4 n1 0), some (vi r0.1)] [] r0.2).bind fun r1 =>
if r1.1 = nI 0 then
(some ((oI none), r1.2))
else
(if ib r0.1 12 then
((ex d 109 0 [some (vi x4), some (vi (r1.2 4 n1 10 (Int32.toNatClampNeg r0.1)))] [] r1.2).bind fun r2 =>
if r2.1 = nI 0 then
(some ((nI 0), r2.2))
else
(some ((nI 1), r2.2)))
else none) := (ex_un d 11 300 0 [some (vr 0 n0 0), some (vr 4 n1 0), some (vi x2), some (vi x3), some (vi x4)] [] O).trans rfl
set_option maxRecDepth 100000 in
theorem sX1_empty_0 (d : Nat) (O : Mem_) (n0 : Nat) (n1 : Nat) : ex (d + 1) 13 0 [some (vr 1 n0 0), some (vr 4 n1 0)] [] O =
(ex d 50 0 [some (vr 4 n1 0)] [] (up (up O 1 n0 0 0 (nI 0)) 1 n0 0 5 (nI 0))).bind fun r0 =>
some (nI 0, (up r0.2 1 n0 0 4 r0.1)) := (ex_un d 13 300 0 [some (vr 1 n0 0), some (vr 4 n1 0)] [] O).trans rfl
set_option maxRecDepth 100000 in
theorem sX1_become_0 (d : Nat) (O : Mem_) (n0 : Nat) (n1 : Nat) : ex (d + 1) 14 0 [some (vr 1 n0 0), some (vr 1 n1 0)] [] O =
ex (d + 1) 14 71 [some (vr 1 n0 0), some (vr 1 n1 0), some (vi (nI 0))] [] (cpy (cpy (cpy (up (up (up O 1 n0 0 0 (O 1 n1 0 0)) 1 n0 0 4 ((up O 1 n0 0 0 (O 1 n1 0 0)) 1 n1 0 4)) 1 n0 0 5 ((up (up O 1 n0 0 0 (O 1 n1 0 0)) 1 n0 0 4 ((up O 1 n0 0 0 (O 1 n1 0 0)) 1 n1 0 4)) 1 n1 0 5)) 1 n1 2 1 n0 2 0 0 24) 1 n1 3 1 n0 3 0 0 24) 1 n1 7 1 n0 7 0 0 12) := (ex_un d 14 300 0 [some (vr 1 n0 0), some (vr 1 n1 0)] [] O).trans rfl
set_option maxRecDepth 100000 in
theorem sX1_become_71 (d : Nat) (O : Mem_) (n0 : Nat) (n1 : Nat) (x2 : Int32) : ex (d + 1) 14 71 [some (vr 1 n0 0), some (vr 1 n1 0), some (vi x2)] [] O =
if x2 < (nI 24) then
(if ib x2 24 then
(if ib x2 24 then
(if (O 1 n1 4 (Int32.toNatClampNeg x2)) = nI 0 ∨ (O 1 n1 4 (Int32.toNatClampNeg x2)) = nI 1 then
(ex (d + 1) 14 71 [some (vr 1 n0 0), some (vr 1 n1 0), some (vi (x2 + (nI 1)))] [] (up O 1 n0 4 (Int32.toNatClampNeg x2) (O 1 n1 4 (Int32.toNatClampNeg x2))))
else none)
else none)
else none)
else
(ex (d + 1) 14 97 [some (vr 1 n0 0), some (vr 1 n1 0), some (vi (nI 0))] [] O) := (ex_un d 14 300 71 [some (vr 1 n0 0), some (vr 1 n1 0), some (vi x2)] [] O).trans rfl
set_option maxRecDepth 100000 in
theorem sX1_become_97 (d : Nat) (O : Mem_) (n0 : Nat) (n1 : Nat) (x2 : Int32) : ex (d + 1) 14 97 [some (vr 1 n0 0), some (vr 1 n1 0), some (vi x2)] [] O =
if x2 < (nI 12) then
(if ib x2 12 then
(if ib x2 12 then
(if (O 1 n1 8 (Int32.toNatClampNeg x2)) = nI 0 ∨ (O 1 n1 8 (Int32.toNatClampNeg x2)) = nI 1 then
(ex (d + 1) 14 97 [some (vr 1 n0 0), some (vr 1 n1 0), some (vi (x2 + (nI 1)))] [] (up O 1 n0 8 (Int32.toNatClampNeg x2) (O 1 n1 8 (Int32.toNatClampNeg x2))))
else none)
else none)
else none)
else
(some (nI 0, O)) := (ex_un d 14 300 97 [some (vr 1 n0 0), some (vr 1 n1 0), some (vi x2)] [] O).trans rfl
set_option maxRecDepth 100000 in
theorem sX3_put_0 (d : Nat) (O : Mem_) (x1 : Int32) : ex (d + 1) 20 0 [some (vr 3 0 0), some (vi x1)] [] O =
if (O 3 0 0 1) < nI 0 then
(some (nI 0, O))
else
(if (O 3 0 0 1) < (nI 400) then
(if ib (O 3 0 0 1) 400 then
(some (nI 0, (up (up O 3 0 1 (Int32.toNatClampNeg (O 3 0 0 1)) x1) 3 0 0 1 (((up O 3 0 1 (Int32.toNatClampNeg (O 3 0 0 1)) x1) 3 0 0 1) + (nI 1)))))
else none)
else
(some (nI 0, O))) := (ex_un d 20 300 0 [some (vr 3 0 0), some (vi x1)] [] O).trans rfl
set_option maxRecDepth 100000 in
theorem sX3_readInto_0 (d : Nat) (O : Mem_) (n1 : Nat) : ex (d + 1) 21 0 [some (vr 3 0 0), some (vr 4 n1 0)] [] O =
(ex d 36 0 [some (vr 4 n1 0)] [] O).bind fun r0 =>
(ex d 25 0 [some (vr 3 0 0)] [] (up (up (up (up r0.2 3 0 0 2 (nI 0)) 3 0 0 3 (nI 0)) 3 0 0 4 (nI 0)) 3 0 0 5 (nI 0))).bind fun r1 =>
ex (d + 1) 21 30 [some (vr 3 0 0), some (vr 4 n1 0), some (vi (nI 0))] [] r1.2 := (ex_un d 21 300 0 [some (vr 3 0 0), some (vr 4 n1 0)] [] O).trans rfl
set_option maxRecDepth 100000 in
theorem sX3_readInto_30 (d : Nat) (O : Mem_) (n1 : Nat) (x2 : Int32) : ex (d + 1) 21 30 [some (vr 3 0 0), some (vr 4 n1 0), some (vi x2)] [] O =
if x2 < (nI 400) then
(if (O 3 0 0 2) = nI 0 then
(if (O 3 0 0 6) = nI 0 then
(ex (d + 1) 21 72 [some (vr 3 0 0), some (vr 4 n1 0)] [] O)
else
((ex d 27 0 [some (vr 3 0 0), some (vr 4 n1 0)] [] O).bind fun r0 =>
ex (d + 1) 21 30 [some (vr 3 0 0), some (vr 4 n1 0), some (vi (x2 + (nI 1)))] [] (up r0.2 3 0 0 4 ((r0.2 3 0 0 4) + (nI 1)))))
else
(ex (d + 1) 21 72 [some (vr 3 0 0), some (vr 4 n1 0)] [] O))
else
(ex (d + 1) 21 72 [some (vr 3 0 0), some (vr 4 n1 0)] [] O) := (ex_un d 21 300 30 [some (vr 3 0 0), some (vr 4 n1 0), some (vi x2)] [] O).trans rfl
set_option maxRecDepth 100000 in
theorem sX3_readInto_72 (d : Nat) (O : Mem_) (n1 : Nat) : ex (d + 1) 21 72 [some (vr 3 0 0), some (vr 4 n1 0)] [] O =
if (O 3 0 0 2) = nI 0 then
((ex d 41 0 [some (vr 4 n1 0)] [] O).bind fun r0 =>
if (r0.2 3 0 0 2) = nI 0 then
(some ((nI 1), r0.2))
else
(some ((nI 0), r0.2)))
else
(if (O 3 0 0 2) = nI 0 then
(some ((nI 1), O))
else
(some ((nI 0), O))) := (ex_un d 21 300 72 [some (vr 3 0 0), some (vr 4 n1 0)] [] O).trans rfl
set_option maxRecDepth 100000 in
theorem sX3_blame_0 (d : Nat) (O : Mem_) (x1 : Int32) : ex (d + 1) 22 0 [some (vr 3 0 0), some (vi x1)] [] O =
some (nI 0, (up (up O 3 0 0 2 x1) 3 0 0 3 ((up O 3 0 0 2 x1) 3 0 0 7))) := (ex_un d 22 300 0 [some (vr 3 0 0), some (vi x1)] [] O).trans rfl
set_option maxRecDepth 100000 in
theorem sX3_byteAt_0 (d : Nat) (O : Mem_) (x1 : Int32) : ex (d + 1) 23 0 [some (vr 3 0 0), some (vi x1)] [] O =
if x1 < nI 0 then
(some ((nI 0), O))
else
(if x1 < (O 3 0 0 1) then
(if x1 < (nI 400) then
(if ib x1 400 then
(some ((O 3 0 1 (Int32.toNatClampNeg x1)), O))
else none)
else
(some ((nI 0), O)))
else
(some ((nI 0), O))) := (ex_un d 23 300 0 [some (vr 3 0 0), some (vi x1)] [] O).trans rfl
set_option maxRecDepth 100000 in
theorem sX3_tokenAt_0 (d : Nat) (O : Mem_) (x1 : Int32) : ex (d + 1) 24 0 [some (vr 3 0 0), some (vi x1)] [] O =
(ex d 23 0 [some (vr 3 0 0), some (vi x1)] [] O).bind fun r0 =>
if x1 < (r0.2 3 0 0 1) then
(if r0.1 < (nI 97) then
(ex (d + 1) 24 30 [none, none, some (vi r0.1)] [] r0.2)
else
(if (nI 122) < r0.1 then
(ex (d + 1) 24 30 [none, none, some (vi r0.1)] [] r0.2)
else
(some ((nI 1), r0.2))))
else
(some ((nI 0), r0.2)) := (ex_un d 24 300 0 [some (vr 3 0 0), some (vi x1)] [] O).trans rfl
set_option maxRecDepth 100000 in
theorem sX3_tokenAt_30 (d : Nat) (O : Mem_) (x2 : Int32) : ex (d + 1) 24 30 [none, none, some (vi x2)] [] O =
if x2 < (nI 48) then
(ex (d + 1) 24 44 [none, none, some (vi x2)] [] O)
else
(if (nI 57) < x2 then
(ex (d + 1) 24 44 [none, none, some (vi x2)] [] O)
else
(some ((nI 2), O))) := (ex_un d 24 300 30 [none, none, some (vi x2)] [] O).trans rfl
set_option maxRecDepth 100000 in
theorem sX3_tokenAt_44 (d : Nat) (O : Mem_) (x2 : Int32) : ex (d + 1) 24 44 [none, none, some (vi x2)] [] O =
if x2 = (nI 59) then
(some ((nI 3), O))
else
(if x2 = (nI 45) then
(some ((nI 4), O))
else
(some ((nI 5), O))) := (ex_un d 24 300 44 [none, none, some (vi x2)] [] O).trans rfl
set_option maxRecDepth 100000 in
theorem sX3_nextToken_0 (d : Nat) (O : Mem_)  : ex (d + 1) 25 0 [some (vr 3 0 0)] [] O =
if (O 3 0 0 5) < (O 3 0 0 1) then
((ex d 23 0 [some (vr 3 0 0), some (vi (O 3 0 0 5))] [] O).bind fun r0 =>
if r0.1 = (nI 32) then
(ex (d + 1) 25 0 [some (vr 3 0 0)] [] (up r0.2 3 0 0 5 ((r0.2 3 0 0 5) + (nI 1))))
else
(ex (d + 1) 25 37 [some (vr 3 0 0)] [] r0.2))
else
(ex (d + 1) 25 37 [some (vr 3 0 0)] [] O) := (ex_un d 25 300 0 [some (vr 3 0 0)] [] O).trans rfl
set_option maxRecDepth 100000 in
theorem sX3_nextToken_37 (d : Nat) (O : Mem_)  : ex (d + 1) 25 37 [some (vr 3 0 0)] [] O =
(ex d 24 0 [some (vr 3 0 0), some (vi ((up O 3 0 0 7 (O 3 0 0 5)) 3 0 0 5))] [] (up O 3 0 0 7 (O 3 0 0 5))).bind fun r0 =>
if ((up r0.2 3 0 0 6 r0.1) 3 0 0 6) = nI 0 then
(ex (d + 1) 25 74 [some (vr 3 0 0)] [] (up r0.2 3 0 0 6 r0.1))
else
(ex (d + 1) 25 74 [some (vr 3 0 0)] [] (up (up r0.2 3 0 0 6 r0.1) 3 0 0 5 (((up r0.2 3 0 0 6 r0.1) 3 0 0 5) + (nI 1)))) := (ex_un d 25 300 37 [some (vr 3 0 0)] [] O).trans rfl
set_option maxRecDepth 100000 in
theorem sX3_nextToken_74 (d : Nat) (O : Mem_)  : ex (d + 1) 25 74 [some (vr 3 0 0)] [] O =
if (O 3 0 0 5) < (O 3 0 0 1) then
(if (O 3 0 0 6) = (nI 1) then
(ex (d + 1) 25 101 [some (vr 3 0 0)] [] O)
else
(if (O 3 0 0 6) = (nI 2) then
(ex (d + 1) 25 101 [some (vr 3 0 0)] [] O)
else
(ex (d + 1) 25 129 [some (vr 3 0 0)] [] O)))
else
(ex (d + 1) 25 129 [some (vr 3 0 0)] [] O) := (ex_un d 25 300 74 [some (vr 3 0 0)] [] O).trans rfl
set_option maxRecDepth 100000 in
theorem sX3_nextToken_101 (d : Nat) (O : Mem_)  : ex (d + 1) 25 101 [some (vr 3 0 0)] [] O =
(ex d 24 0 [some (vr 3 0 0), some (vi (O 3 0 0 5))] [] O).bind fun r0 =>
if r0.1 = (r0.2 3 0 0 6) then
(ex (d + 1) 25 74 [some (vr 3 0 0)] [] (up r0.2 3 0 0 5 ((r0.2 3 0 0 5) + (nI 1))))
else
(ex (d + 1) 25 129 [some (vr 3 0 0)] [] r0.2) := (ex_un d 25 300 101 [some (vr 3 0 0)] [] O).trans rfl
set_option maxRecDepth 100000 in
theorem sX3_nextToken_129 (d : Nat) (O : Mem_)  : ex (d + 1) 25 129 [some (vr 3 0 0)] [] O =
if ((up O 3 0 0 8 (O 3 0 0 5)) 3 0 0 6) = (nI 5) then
(ex (d + 1) 25 166 [some (vr 3 0 0)] [] (up O 3 0 0 8 (O 3 0 0 5)))
else
(if ((up O 3 0 0 8 (O 3 0 0 5)) 3 0 0 6) = (nI 2) then
(if (nI 2) < (((up O 3 0 0 8 (O 3 0 0 5)) 3 0 0 8) - ((up O 3 0 0 8 (O 3 0 0 5)) 3 0 0 7)) then
(ex (d + 1) 25 166 [some (vr 3 0 0)] [] (up O 3 0 0 8 (O 3 0 0 5)))
else
(some (nI 0, (up O 3 0 0 8 (O 3 0 0 5)))))
else
(some (nI 0, (up O 3 0 0 8 (O 3 0 0 5))))) := (ex_un d 25 300 129 [some (vr 3 0 0)] [] O).trans rfl
set_option maxRecDepth 100000 in
theorem sX3_nextToken_166 (d : Nat) (O : Mem_)  : ex (d + 1) 25 166 [some (vr 3 0 0)] [] O =
(ex d 22 0 [some (vr 3 0 0), some (vi (nI 1))] [] O).bind fun r0 =>
some (nI 0, r0.2) := (ex_un d 25 300 166 [some (vr 3 0 0)] [] O).trans rfl
set_option maxRecDepth 100000 in
theorem sX3_isNamed_0 (d : Nat) (O : Mem_) (n1 : Nat) : ex (d + 1) 26 0 [some (vr 3 0 0), some (vr 9 n1 0)] [] O =
if (O 3 0 0 6) = (nI 1) then
(if (nI (sT.getD n1 []).length) = ((O 3 0 0 8) - (O 3 0 0 7)) then
(ex (d + 1) 26 28 [some (vr 3 0 0), some (vr 9 n1 0), some (vi (nI 0))] [] O)
else
(some ((nI 0), O)))
else
(some ((nI 0), O)) := (ex_un d 26 300 0 [some (vr 3 0 0), some (vr 9 n1 0)] [] O).trans rfl
set_option maxRecDepth 100000 in
theorem sX3_isNamed_28 (d : Nat) (O : Mem_) (n1 : Nat) (x2 : Int32) : ex (d + 1) 26 28 [some (vr 3 0 0), some (vr 9 n1 0), some (vi x2)] [] O =
if x2 < (nI (sT.getD n1 []).length) then
((if ib x2 (sT.getD n1 []).length then some ((sT.getD n1 []).getD (Int32.toNatClampNeg x2) 0, O) else none).bind fun r1 =>
(ex d 23 0 [some (vr 3 0 0), some (vi ((r1.2 3 0 0 7) + x2))] [] r1.2).bind fun r2 =>
if r1.1 = r2.1 then
(ex (d + 1) 26 28 [some (vr 3 0 0), some (vr 9 n1 0), some (vi (x2 + (nI 1)))] [] r2.2)
else
(some ((nI 0), r2.2)))
else
(some ((nI 1), O)) := (ex_un d 26 300 28 [some (vr 3 0 0), some (vr 9 n1 0), some (vi x2)] [] O).trans rfl
set_option maxRecDepth 100000 in
theorem sX3_readLine_0 (d : Nat) (O : Mem_) (n1 : Nat) : ex (d + 1) 27 0 [some (vr 3 0 0), some (vr 4 n1 0)] [] O =
(ex d 28 0 [some (vr 3 0 0)] [] O).bind fun r0 =>
(ex d 26 0 [some (vr 3 0 0), some (vr 9 0 0)] [] r0.2).bind fun r1 =>
if r1.1 = nI 0 then
((ex d 26 0 [some (vr 3 0 0), some (vr 9 1 0)] [] r1.2).bind fun r2 =>
if r2.1 = nI 0 then
((ex d 26 0 [some (vr 3 0 0), some (vr 9 2 0)] [] r2.2).bind fun r3 =>
if r3.1 = nI 0 then
(if r0.1 = (oI none) then
((ex d 22 0 [some (vr 3 0 0), some (vi (nI 2))] [] r3.2).bind fun r4 =>
ex (d + 1) 27 76 [some (vr 3 0 0)] [] r4.2)
else
((ex d 32 0 [some (vr 3 0 0), some (vr 4 n1 0), some (vi r0.1)] [] r3.2).bind fun r5 =>
ex (d + 1) 27 76 [some (vr 3 0 0)] [] r5.2))
else
((ex d 31 0 [some (vr 3 0 0), some (vr 4 n1 0)] [] r3.2).bind fun r6 =>
ex (d + 1) 27 76 [some (vr 3 0 0)] [] r6.2))
else
((ex d 30 0 [some (vr 3 0 0), some (vr 4 n1 0)] [] r2.2).bind fun r7 =>
ex (d + 1) 27 76 [some (vr 3 0 0)] [] r7.2))
else
((ex d 29 0 [some (vr 3 0 0), some (vr 4 n1 0)] [] r1.2).bind fun r8 =>
ex (d + 1) 27 76 [some (vr 3 0 0)] [] r8.2) := (ex_un d 27 300 0 [some (vr 3 0 0), some (vr 4 n1 0)] [] O).trans rfl
set_option maxRecDepth 100000 in
theorem sX3_readLine_76 (d : Nat) (O : Mem_)  : ex (d + 1) 27 76 [some (vr 3 0 0)] [] O =
if (O 3 0 0 2) = nI 0 then
(if (O 3 0 0 6) = (nI 3) then
(ex (d + 1) 27 96 [some (vr 3 0 0)] [] O)
else
((ex d 22 0 [some (vr 3 0 0), some (vi (nI 2))] [] O).bind fun r0 =>
ex (d + 1) 27 96 [some (vr 3 0 0)] [] r0.2))
else
(ex (d + 1) 27 96 [some (vr 3 0 0)] [] O) := (ex_un d 27 300 76 [some (vr 3 0 0)] [] O).trans rfl
set_option maxRecDepth 100000 in
theorem sX3_readLine_96 (d : Nat) (O : Mem_)  : ex (d + 1) 27 96 [some (vr 3 0 0)] [] O =
if (O 3 0 0 2) = nI 0 then
((ex d 25 0 [some (vr 3 0 0)] [] O).bind fun r0 =>
some (nI 0, r0.2))
else
(some (nI 0, O)) := (ex_un d 27 300 96 [some (vr 3 0 0)] [] O).trans rfl
set_option maxRecDepth 100000 in
theorem sX3_sortNamed_0 (d : Nat) (O : Mem_)  : ex (d + 1) 28 0 [some (vr 3 0 0)] [] O =
(ex d 26 0 [some (vr 3 0 0), some (vr 9 3 0)] [] O).bind fun r0 =>
if r0.1 = nI 0 then
((ex d 26 0 [some (vr 3 0 0), some (vr 9 4 0)] [] r0.2).bind fun r1 =>
if r1.1 = nI 0 then
((ex d 26 0 [some (vr 3 0 0), some (vr 9 5 0)] [] r1.2).bind fun r2 =>
if r2.1 = nI 0 then
((ex d 26 0 [some (vr 3 0 0), some (vr 9 6 0)] [] r2.2).bind fun r3 =>
if r3.1 = nI 0 then
(some ((oI none), r3.2))
else
(some ((nI 3), r3.2)))
else
(some ((nI 2), r2.2)))
else
(some ((nI 1), r1.2)))
else
(some ((nI 0), r0.2)) := (ex_un d 28 300 0 [some (vr 3 0 0)] [] O).trans rfl
set_option maxRecDepth 100000 in
theorem sX3_readThing_0 (d : Nat) (O : Mem_) (n1 : Nat) : ex (d + 1) 29 0 [some (vr 3 0 0), some (vr 4 n1 0)] [] O =
if (O 4 n1 0 0) < (nI 8) then
((ex d 25 0 [some (vr 3 0 0)] [] O).bind fun r0 =>
(ex d 34 0 [some (vr 3 0 0), some (vi (nI 0))] [] r0.2).bind fun r1 =>
(ex d 37 0 [some (vr 4 n1 0), some (vi r1.1)] [] r1.2).bind fun r2 =>
some (nI 0, r2.2))
else
((ex d 22 0 [some (vr 3 0 0), some (vi (nI 5))] [] O).bind fun r3 =>
some (nI 0, r3.2)) := (ex_un d 29 300 0 [some (vr 3 0 0), some (vr 4 n1 0)] [] O).trans rfl
set_option maxRecDepth 100000 in
theorem sX3_readMeaning_0 (d : Nat) (O : Mem_) (n1 : Nat) : ex (d + 1) 30 0 [some (vr 3 0 0), some (vr 4 n1 0)] [] O =
if (O 4 n1 0 1) < (nI 12) then
((ex d 25 0 [some (vr 3 0 0)] [] O).bind fun r0 =>
(ex d 34 0 [some (vr 3 0 0), some (vi (nI 0))] [] r0.2).bind fun r1 =>
if (r1.2 3 0 0 2) = nI 0 then
((ex d 26 0 [some (vr 3 0 0), some (vr 9 7 0)] [] r1.2).bind fun r2 =>
if r2.1 = nI 0 then
(ex (d + 1) 30 53 [none, some (vr 4 n1 0), some (vi r1.1), some (vi (nI 0))] [] r2.2)
else
((ex d 25 0 [some (vr 3 0 0)] [] r2.2).bind fun r3 =>
(ex d 34 0 [some (vr 3 0 0), some (vi r1.1)] [] r3.2).bind fun r4 =>
ex (d + 1) 30 53 [none, some (vr 4 n1 0), some (vi r1.1), some (vi r4.1)] [] r4.2))
else
(ex (d + 1) 30 53 [none, some (vr 4 n1 0), some (vi r1.1), some (vi (nI 0))] [] r1.2))
else
((ex d 22 0 [some (vr 3 0 0), some (vi (nI 5))] [] O).bind fun r5 =>
some (nI 0, r5.2)) := (ex_un d 30 300 0 [some (vr 3 0 0), some (vr 4 n1 0)] [] O).trans rfl
set_option maxRecDepth 100000 in
theorem sX3_readMeaning_53 (d : Nat) (O : Mem_) (n1 : Nat) (x2 : Int32) (x3 : Int32) : ex (d + 1) 30 53 [none, some (vr 4 n1 0), some (vi x2), some (vi x3)] [] O =
(ex d 38 0 [some (vr 4 n1 0), some (vi x2), some (vi x3)] [] O).bind fun r0 =>
some (nI 0, r0.2) := (ex_un d 30 300 53 [none, some (vr 4 n1 0), some (vi x2), some (vi x3)] [] O).trans rfl
set_option maxRecDepth 100000 in
theorem sX3_readWord_0 (d : Nat) (O : Mem_) (n1 : Nat) : ex (d + 1) 31 0 [some (vr 3 0 0), some (vr 4 n1 0)] [] O =
if (O 4 n1 0 2) < (nI 4) then
((ex d 25 0 [some (vr 3 0 0)] [] O).bind fun r0 =>
(ex d 35 0 [some (vr 3 0 0), some (vi (r0.2 4 n1 0 1))] [] r0.2).bind fun r1 =>
(ex d 39 0 [some (vr 4 n1 0), some (vi r1.1)] [] r1.2).bind fun r2 =>
some (nI 0, r2.2))
else
((ex d 22 0 [some (vr 3 0 0), some (vi (nI 5))] [] O).bind fun r3 =>
some (nI 0, r3.2)) := (ex_un d 31 300 0 [some (vr 3 0 0), some (vr 4 n1 0)] [] O).trans rfl
set_option maxRecDepth 100000 in
theorem sX3_readKind_0 (d : Nat) (O : Mem_) (n1 : Nat) (x2 : Int32) : ex (d + 1) 32 0 [some (vr 3 0 0), some (vr 4 n1 0), some (vi x2)] [] O =
if (O 4 n1 0 3) < (nI 6) then
((ex d 40 0 [some (vr 4 n1 0), some (vi x2)] [] O).bind fun r0 =>
(ex d 25 0 [some (vr 3 0 0)] [] r0.2).bind fun r1 =>
ex (d + 1) 32 35 [some (vr 3 0 0), some (vr 4 n1 0), none, some (vi (O 4 n1 0 3)), some (vi (nI 0)), some (vi (nI 0))] [] r1.2)
else
((ex d 22 0 [some (vr 3 0 0), some (vi (nI 5))] [] O).bind fun r2 =>
some (nI 0, r2.2)) := (ex_un d 32 300 0 [some (vr 3 0 0), some (vr 4 n1 0), some (vi x2)] [] O).trans rfl
set_option maxRecDepth 100000 in
theorem sX3_readKind_35 (d : Nat) (O : Mem_) (n1 : Nat) (x3 : Int32) (x4 : Int32) (x5 : Int32) : ex (d + 1) 32 35 [some (vr 3 0 0), some (vr 4 n1 0), none, some (vi x3), some (vi x4), some (vi x5)] [] O =
if x5 < (nI 400) then
(if (O 3 0 0 2) = nI 0 then
(if (O 3 0 0 6) = (nI 1) then
((ex d 33 0 [some (vr 3 0 0)] [] O).bind fun r0 =>
if r0.1 = (oI none) then
(ex (d + 1) 32 81 [some (vr 3 0 0), none, none, none, none, none, some (vi r0.1)] [] r0.2)
else
((ex d 109 0 [some (vi r0.1), some (vi x4)] [] r0.2).bind fun r1 =>
if r1.1 = nI 0 then
((ex d 25 0 [some (vr 3 0 0)] [] r1.2).bind fun r2 =>
if r0.1 = (nI 1) then
((ex d 34 0 [some (vr 3 0 0), some (vi (nI 0))] [] r2.2).bind fun r3 =>
if ib x3 6 then
(ex (d + 1) 32 35 [some (vr 3 0 0), some (vr 4 n1 0), none, some (vi x3), some (vi (x4 ||| ((nI 1) <<< (r0.1 &&& (31:Int32))))), some (vi (x5 + (nI 1)))] [] (up r3.2 4 n1 15 (Int32.toNatClampNeg x3) r3.1))
else none)
else
(if r0.1 = (nI 2) then
((ex d 35 0 [some (vr 3 0 0), some (vi (r2.2 4 n1 0 0))] [] r2.2).bind fun r4 =>
if ib x3 6 then
(ex (d + 1) 32 35 [some (vr 3 0 0), some (vr 4 n1 0), none, some (vi x3), some (vi (x4 ||| ((nI 1) <<< (r0.1 &&& (31:Int32))))), some (vi (x5 + (nI 1)))] [] (up r4.2 4 n1 16 (Int32.toNatClampNeg x3) r4.1))
else none)
else
(if r0.1 = (nI 4) then
((ex d 35 0 [some (vr 3 0 0), some (vi (nI 10))] [] r2.2).bind fun r5 =>
if ib x3 6 then
(ex (d + 1) 32 35 [some (vr 3 0 0), some (vr 4 n1 0), none, some (vi x3), some (vi (x4 ||| ((nI 1) <<< (r0.1 &&& (31:Int32))))), some (vi (x5 + (nI 1)))] [] (up r5.2 4 n1 18 (Int32.toNatClampNeg x3) r5.1))
else none)
else
(if ib x3 6 then
(ex (d + 1) 32 35 [some (vr 3 0 0), some (vr 4 n1 0), none, some (vi x3), some (vi (x4 ||| ((nI 1) <<< (r0.1 &&& (31:Int32))))), some (vi (x5 + (nI 1)))] [] (up r2.2 4 n1 17 (Int32.toNatClampNeg x3) (nI 1)))
else none))))
else
(ex (d + 1) 32 81 [some (vr 3 0 0), none, none, none, none, none, some (vi r0.1)] [] r1.2)))
else
(some (nI 0, O)))
else
(some (nI 0, O)))
else
(some (nI 0, O)) := (ex_un d 32 300 35 [some (vr 3 0 0), some (vr 4 n1 0), none, some (vi x3), some (vi x4), some (vi x5)] [] O).trans rfl
set_option maxRecDepth 100000 in
theorem sX3_readKind_81 (d : Nat) (O : Mem_) (x6 : Int32) : ex (d + 1) 32 81 [some (vr 3 0 0), none, none, none, none, none, some (vi x6)] [] O =
if x6 = (oI none) then
((ex d 22 0 [some (vr 3 0 0), some (vi (nI 2))] [] O).bind fun r0 =>
some (nI 0, r0.2))
else
((ex d 22 0 [some (vr 3 0 0), some (vi (nI 4))] [] O).bind fun r1 =>
some (nI 0, r1.2)) := (ex_un d 32 300 81 [some (vr 3 0 0), none, none, none, none, none, some (vi x6)] [] O).trans rfl
set_option maxRecDepth 100000 in
theorem sX3_withNamed_0 (d : Nat) (O : Mem_)  : ex (d + 1) 33 0 [some (vr 3 0 0)] [] O =
(ex d 26 0 [some (vr 3 0 0), some (vr 9 8 0)] [] O).bind fun r0 =>
if r0.1 = nI 0 then
((ex d 26 0 [some (vr 3 0 0), some (vr 9 9 0)] [] r0.2).bind fun r1 =>
if r1.1 = nI 0 then
((ex d 26 0 [some (vr 3 0 0), some (vr 9 10 0)] [] r1.2).bind fun r2 =>
if r2.1 = nI 0 then
((ex d 26 0 [some (vr 3 0 0), some (vr 9 11 0)] [] r2.2).bind fun r3 =>
if r3.1 = nI 0 then
(some ((oI none), r3.2))
else
(some ((nI 4), r3.2)))
else
(some ((nI 3), r2.2)))
else
(some ((nI 2), r1.2)))
else
(some ((nI 1), r0.2)) := (ex_un d 33 300 0 [some (vr 3 0 0)] [] O).trans rfl
set_option maxRecDepth 100000 in
theorem sX3_takeLetters_0 (d : Nat) (O : Mem_) (x1 : Int32) : ex (d + 1) 34 0 [some (vr 3 0 0), some (vi x1)] [] O =
if (O 3 0 0 2) = nI 0 then
(if (O 3 0 0 6) = (nI 1) then
(ex (d + 1) 34 39 [some (vr 3 0 0), some (vi x1), some (vi (nI 0)), some (vi (O 3 0 0 7))] [] O)
else
(if (O 3 0 0 6) = (nI 4) then
(ex (d + 1) 34 39 [some (vr 3 0 0), some (vi x1), some (vi (nI 0)), some (vi (O 3 0 0 7))] [] O)
else
((ex d 22 0 [some (vr 3 0 0), some (vi (nI 2))] [] O).bind fun r0 =>
some ((nI 0), r0.2))))
else
(some ((nI 0), O)) := (ex_un d 34 300 0 [some (vr 3 0 0), some (vi x1)] [] O).trans rfl
set_option maxRecDepth 100000 in
theorem sX3_takeLetters_39 (d : Nat) (O : Mem_) (x1 : Int32) (x2 : Int32) (x3 : Int32) : ex (d + 1) 34 39 [some (vr 3 0 0), some (vi x1), some (vi x2), some (vi x3)] [] O =
if x3 < (O 3 0 0 8) then
(if (O 3 0 0 6) = (nI 1) then
((ex d 23 0 [some (vr 3 0 0), some (vi x3)] [] O).bind fun r0 =>
if (r0.1 - (nI 97)) < (nI 8) then
((ex d 109 0 [some (vi (r0.1 - (nI 97))), some (vi (x2 ||| x1))] [] r0.2).bind fun r1 =>
if r1.1 = nI 0 then
(ex (d + 1) 34 39 [some (vr 3 0 0), some (vi x1), some (vi (x2 ||| ((nI 1) <<< ((r0.1 - (nI 97)) &&& (31:Int32))))), some (vi (x3 + (nI 1)))] [] r1.2)
else
(ex (d + 1) 34 83 [some (vr 3 0 0)] [] r1.2))
else
(ex (d + 1) 34 83 [some (vr 3 0 0)] [] r0.2))
else
(ex (d + 1) 34 103 [some (vr 3 0 0), none, some (vi x2)] [] O))
else
(ex (d + 1) 34 103 [some (vr 3 0 0), none, some (vi x2)] [] O) := (ex_un d 34 300 39 [some (vr 3 0 0), some (vi x1), some (vi x2), some (vi x3)] [] O).trans rfl
set_option maxRecDepth 100000 in
theorem sX3_takeLetters_83 (d : Nat) (O : Mem_)  : ex (d + 1) 34 83 [some (vr 3 0 0)] [] O =
(ex d 22 0 [some (vr 3 0 0), some (vi (nI 3))] [] O).bind fun r0 =>
some ((nI 0), r0.2) := (ex_un d 34 300 83 [some (vr 3 0 0)] [] O).trans rfl
set_option maxRecDepth 100000 in
theorem sX3_takeLetters_103 (d : Nat) (O : Mem_) (x2 : Int32) : ex (d + 1) 34 103 [some (vr 3 0 0), none, some (vi x2)] [] O =
(ex d 25 0 [some (vr 3 0 0)] [] O).bind fun r0 =>
some (x2, r0.2) := (ex_un d 34 300 103 [some (vr 3 0 0), none, some (vi x2)] [] O).trans rfl
set_option maxRecDepth 100000 in
theorem sX3_takeNumber_0 (d : Nat) (O : Mem_) (x1 : Int32) : ex (d + 1) 35 0 [some (vr 3 0 0), some (vi x1)] [] O =
if (O 3 0 0 2) = nI 0 then
(if (O 3 0 0 6) = (nI 2) then
(ex (d + 1) 35 31 [some (vr 3 0 0), some (vi x1), some (vi (nI 0)), some (vi (O 3 0 0 7))] [] O)
else
((ex d 22 0 [some (vr 3 0 0), some (vi (nI 2))] [] O).bind fun r0 =>
some ((nI 0), r0.2)))
else
(some ((nI 0), O)) := (ex_un d 35 300 0 [some (vr 3 0 0), some (vi x1)] [] O).trans rfl
set_option maxRecDepth 100000 in
theorem sX3_takeNumber_31 (d : Nat) (O : Mem_) (x1 : Int32) (x2 : Int32) (x3 : Int32) : ex (d + 1) 35 31 [some (vr 3 0 0), some (vi x1), some (vi x2), some (vi x3)] [] O =
if x3 < (O 3 0 0 8) then
((ex d 23 0 [some (vr 3 0 0), some (vi x3)] [] O).bind fun r0 =>
ex (d + 1) 35 31 [some (vr 3 0 0), some (vi x1), some (vi (((x2 * (nI 10)) + r0.1) - (nI 48))), some (vi (x3 + (nI 1)))] [] r0.2)
else
(if x2 < x1 then
((ex d 25 0 [some (vr 3 0 0)] [] O).bind fun r1 =>
some (x2, r1.2))
else
((ex d 22 0 [some (vr 3 0 0), some (vi (nI 3))] [] O).bind fun r2 =>
some ((nI 0), r2.2))) := (ex_un d 35 300 31 [some (vr 3 0 0), some (vi x1), some (vi x2), some (vi x3)] [] O).trans rfl
set_option maxRecDepth 100000 in
theorem sX4_empty_0 (d : Nat) (O : Mem_) (n0 : Nat) : ex (d + 1) 36 0 [some (vr 4 n0 0)] [] O =
some (nI 0, (up (up (up (up O 4 n0 0 0 (nI 0)) 4 n0 0 1 (nI 0)) 4 n0 0 2 (nI 0)) 4 n0 0 3 (nI 0))) := (ex_un d 36 300 0 [some (vr 4 n0 0)] [] O).trans rfl
set_option maxRecDepth 100000 in
theorem sX4_addThing_0 (d : Nat) (O : Mem_) (n0 : Nat) (x1 : Int32) : ex (d + 1) 37 0 [some (vr 4 n0 0), some (vi x1)] [] O =
if (O 4 n0 0 0) < (nI 8) then
(if ib (O 4 n0 0 0) 8 then
(some (nI 0, (up (up O 4 n0 5 (Int32.toNatClampNeg (O 4 n0 0 0)) x1) 4 n0 0 0 (((up O 4 n0 5 (Int32.toNatClampNeg (O 4 n0 0 0)) x1) 4 n0 0 0) + (nI 1)))))
else none)
else
(some (nI 0, O)) := (ex_un d 37 300 0 [some (vr 4 n0 0), some (vi x1)] [] O).trans rfl
set_option maxRecDepth 100000 in
theorem sX4_addMeaning_0 (d : Nat) (O : Mem_) (n0 : Nat) (x1 : Int32) (x2 : Int32) : ex (d + 1) 38 0 [some (vr 4 n0 0), some (vi x1), some (vi x2)] [] O =
if (O 4 n0 0 1) < (nI 12) then
(if ib (O 4 n0 0 1) 12 then
(if ib ((up O 4 n0 7 (Int32.toNatClampNeg (O 4 n0 0 1)) x1) 4 n0 0 1) 12 then
((ex d 217 0 [some (vi (x1 ||| x2))] [] (up (up O 4 n0 7 (Int32.toNatClampNeg (O 4 n0 0 1)) x1) 4 n0 8 (Int32.toNatClampNeg ((up O 4 n0 7 (Int32.toNatClampNeg (O 4 n0 0 1)) x1) 4 n0 0 1)) x2)).bind fun r0 =>
if ib ((up (up O 4 n0 7 (Int32.toNatClampNeg (O 4 n0 0 1)) x1) 4 n0 8 (Int32.toNatClampNeg ((up O 4 n0 7 (Int32.toNatClampNeg (O 4 n0 0 1)) x1) 4 n0 0 1)) x2) 4 n0 0 1) 12 then
(some (nI 0, (up (up r0.2 4 n0 9 (Int32.toNatClampNeg ((up (up O 4 n0 7 (Int32.toNatClampNeg (O 4 n0 0 1)) x1) 4 n0 8 (Int32.toNatClampNeg ((up O 4 n0 7 (Int32.toNatClampNeg (O 4 n0 0 1)) x1) 4 n0 0 1)) x2) 4 n0 0 1)) r0.1) 4 n0 0 1 (((up r0.2 4 n0 9 (Int32.toNatClampNeg ((up (up O 4 n0 7 (Int32.toNatClampNeg (O 4 n0 0 1)) x1) 4 n0 8 (Int32.toNatClampNeg ((up O 4 n0 7 (Int32.toNatClampNeg (O 4 n0 0 1)) x1) 4 n0 0 1)) x2) 4 n0 0 1)) r0.1) 4 n0 0 1) + (nI 1)))))
else none)
else none)
else none)
else
(some (nI 0, O)) := (ex_un d 38 300 0 [some (vr 4 n0 0), some (vi x1), some (vi x2)] [] O).trans rfl
set_option maxRecDepth 100000 in
theorem sX4_addSound_0 (d : Nat) (O : Mem_) (n0 : Nat) (x1 : Int32) : ex (d + 1) 39 0 [some (vr 4 n0 0), some (vi x1)] [] O =
if (O 4 n0 0 2) < (nI 4) then
(if ib (O 4 n0 0 2) 4 then
(some (nI 0, (up (up O 4 n0 13 (Int32.toNatClampNeg (O 4 n0 0 2)) x1) 4 n0 0 2 (((up O 4 n0 13 (Int32.toNatClampNeg (O 4 n0 0 2)) x1) 4 n0 0 2) + (nI 1)))))
else none)
else
(some (nI 0, O)) := (ex_un d 39 300 0 [some (vr 4 n0 0), some (vi x1)] [] O).trans rfl
set_option maxRecDepth 100000 in
theorem sX4_addKind_0 (d : Nat) (O : Mem_) (n0 : Nat) (x1 : Int32) : ex (d + 1) 40 0 [some (vr 4 n0 0), some (vi x1)] [] O =
if (O 4 n0 0 3) < (nI 6) then
(if ib (O 4 n0 0 3) 6 then
(if ib ((up O 4 n0 14 (Int32.toNatClampNeg (O 4 n0 0 3)) x1) 4 n0 0 3) 6 then
(if ib ((up (up O 4 n0 14 (Int32.toNatClampNeg (O 4 n0 0 3)) x1) 4 n0 15 (Int32.toNatClampNeg ((up O 4 n0 14 (Int32.toNatClampNeg (O 4 n0 0 3)) x1) 4 n0 0 3)) (nI 255)) 4 n0 0 3) 6 then
(if ib ((up (up (up O 4 n0 14 (Int32.toNatClampNeg (O 4 n0 0 3)) x1) 4 n0 15 (Int32.toNatClampNeg ((up O 4 n0 14 (Int32.toNatClampNeg (O 4 n0 0 3)) x1) 4 n0 0 3)) (nI 255)) 4 n0 16 (Int32.toNatClampNeg ((up (up O 4 n0 14 (Int32.toNatClampNeg (O 4 n0 0 3)) x1) 4 n0 15 (Int32.toNatClampNeg ((up O 4 n0 14 (Int32.toNatClampNeg (O 4 n0 0 3)) x1) 4 n0 0 3)) (nI 255)) 4 n0 0 3)) (oI none)) 4 n0 0 3) 6 then
(if ib ((up (up (up (up O 4 n0 14 (Int32.toNatClampNeg (O 4 n0 0 3)) x1) 4 n0 15 (Int32.toNatClampNeg ((up O 4 n0 14 (Int32.toNatClampNeg (O 4 n0 0 3)) x1) 4 n0 0 3)) (nI 255)) 4 n0 16 (Int32.toNatClampNeg ((up (up O 4 n0 14 (Int32.toNatClampNeg (O 4 n0 0 3)) x1) 4 n0 15 (Int32.toNatClampNeg ((up O 4 n0 14 (Int32.toNatClampNeg (O 4 n0 0 3)) x1) 4 n0 0 3)) (nI 255)) 4 n0 0 3)) (oI none)) 4 n0 17 (Int32.toNatClampNeg ((up (up (up O 4 n0 14 (Int32.toNatClampNeg (O 4 n0 0 3)) x1) 4 n0 15 (Int32.toNatClampNeg ((up O 4 n0 14 (Int32.toNatClampNeg (O 4 n0 0 3)) x1) 4 n0 0 3)) (nI 255)) 4 n0 16 (Int32.toNatClampNeg ((up (up O 4 n0 14 (Int32.toNatClampNeg (O 4 n0 0 3)) x1) 4 n0 15 (Int32.toNatClampNeg ((up O 4 n0 14 (Int32.toNatClampNeg (O 4 n0 0 3)) x1) 4 n0 0 3)) (nI 255)) 4 n0 0 3)) (oI none)) 4 n0 0 3)) (nI 0)) 4 n0 0 3) 6 then
(some (nI 0, (up (up (up (up (up (up O 4 n0 14 (Int32.toNatClampNeg (O 4 n0 0 3)) x1) 4 n0 15 (Int32.toNatClampNeg ((up O 4 n0 14 (Int32.toNatClampNeg (O 4 n0 0 3)) x1) 4 n0 0 3)) (nI 255)) 4 n0 16 (Int32.toNatClampNeg ((up (up O 4 n0 14 (Int32.toNatClampNeg (O 4 n0 0 3)) x1) 4 n0 15 (Int32.toNatClampNeg ((up O 4 n0 14 (Int32.toNatClampNeg (O 4 n0 0 3)) x1) 4 n0 0 3)) (nI 255)) 4 n0 0 3)) (oI none)) 4 n0 17 (Int32.toNatClampNeg ((up (up (up O 4 n0 14 (Int32.toNatClampNeg (O 4 n0 0 3)) x1) 4 n0 15 (Int32.toNatClampNeg ((up O 4 n0 14 (Int32.toNatClampNeg (O 4 n0 0 3)) x1) 4 n0 0 3)) (nI 255)) 4 n0 16 (Int32.toNatClampNeg ((up (up O 4 n0 14 (Int32.toNatClampNeg (O 4 n0 0 3)) x1) 4 n0 15 (Int32.toNatClampNeg ((up O 4 n0 14 (Int32.toNatClampNeg (O 4 n0 0 3)) x1) 4 n0 0 3)) (nI 255)) 4 n0 0 3)) (oI none)) 4 n0 0 3)) (nI 0)) 4 n0 18 (Int32.toNatClampNeg ((up (up (up (up O 4 n0 14 (Int32.toNatClampNeg (O 4 n0 0 3)) x1) 4 n0 15 (Int32.toNatClampNeg ((up O 4 n0 14 (Int32.toNatClampNeg (O 4 n0 0 3)) x1) 4 n0 0 3)) (nI 255)) 4 n0 16 (Int32.toNatClampNeg ((up (up O 4 n0 14 (Int32.toNatClampNeg (O 4 n0 0 3)) x1) 4 n0 15 (Int32.toNatClampNeg ((up O 4 n0 14 (Int32.toNatClampNeg (O 4 n0 0 3)) x1) 4 n0 0 3)) (nI 255)) 4 n0 0 3)) (oI none)) 4 n0 17 (Int32.toNatClampNeg ((up (up (up O 4 n0 14 (Int32.toNatClampNeg (O 4 n0 0 3)) x1) 4 n0 15 (Int32.toNatClampNeg ((up O 4 n0 14 (Int32.toNatClampNeg (O 4 n0 0 3)) x1) 4 n0 0 3)) (nI 255)) 4 n0 16 (Int32.toNatClampNeg ((up (up O 4 n0 14 (Int32.toNatClampNeg (O 4 n0 0 3)) x1) 4 n0 15 (Int32.toNatClampNeg ((up O 4 n0 14 (Int32.toNatClampNeg (O 4 n0 0 3)) x1) 4 n0 0 3)) (nI 255)) 4 n0 0 3)) (oI none)) 4 n0 0 3)) (nI 0)) 4 n0 0 3)) (nI 1)) 4 n0 0 3 (((up (up (up (up (up O 4 n0 14 (Int32.toNatClampNeg (O 4 n0 0 3)) x1) 4 n0 15 (Int32.toNatClampNeg ((up O 4 n0 14 (Int32.toNatClampNeg (O 4 n0 0 3)) x1) 4 n0 0 3)) (nI 255)) 4 n0 16 (Int32.toNatClampNeg ((up (up O 4 n0 14 (Int32.toNatClampNeg (O 4 n0 0 3)) x1) 4 n0 15 (Int32.toNatClampNeg ((up O 4 n0 14 (Int32.toNatClampNeg (O 4 n0 0 3)) x1) 4 n0 0 3)) (nI 255)) 4 n0 0 3)) (oI none)) 4 n0 17 (Int32.toNatClampNeg ((up (up (up O 4 n0 14 (Int32.toNatClampNeg (O 4 n0 0 3)) x1) 4 n0 15 (Int32.toNatClampNeg ((up O 4 n0 14 (Int32.toNatClampNeg (O 4 n0 0 3)) x1) 4 n0 0 3)) (nI 255)) 4 n0 16 (Int32.toNatClampNeg ((up (up O 4 n0 14 (Int32.toNatClampNeg (O 4 n0 0 3)) x1) 4 n0 15 (Int32.toNatClampNeg ((up O 4 n0 14 (Int32.toNatClampNeg (O 4 n0 0 3)) x1) 4 n0 0 3)) (nI 255)) 4 n0 0 3)) (oI none)) 4 n0 0 3)) (nI 0)) 4 n0 18 (Int32.toNatClampNeg ((up (up (up (up O 4 n0 14 (Int32.toNatClampNeg (O 4 n0 0 3)) x1) 4 n0 15 (Int32.toNatClampNeg ((up O 4 n0 14 (Int32.toNatClampNeg (O 4 n0 0 3)) x1) 4 n0 0 3)) (nI 255)) 4 n0 16 (Int32.toNatClampNeg ((up (up O 4 n0 14 (Int32.toNatClampNeg (O 4 n0 0 3)) x1) 4 n0 15 (Int32.toNatClampNeg ((up O 4 n0 14 (Int32.toNatClampNeg (O 4 n0 0 3)) x1) 4 n0 0 3)) (nI 255)) 4 n0 0 3)) (oI none)) 4 n0 17 (Int32.toNatClampNeg ((up (up (up O 4 n0 14 (Int32.toNatClampNeg (O 4 n0 0 3)) x1) 4 n0 15 (Int32.toNatClampNeg ((up O 4 n0 14 (Int32.toNatClampNeg (O 4 n0 0 3)) x1) 4 n0 0 3)) (nI 255)) 4 n0 16 (Int32.toNatClampNeg ((up (up O 4 n0 14 (Int32.toNatClampNeg (O 4 n0 0 3)) x1) 4 n0 15 (Int32.toNatClampNeg ((up O 4 n0 14 (Int32.toNatClampNeg (O 4 n0 0 3)) x1) 4 n0 0 3)) (nI 255)) 4 n0 0 3)) (oI none)) 4 n0 0 3)) (nI 0)) 4 n0 0 3)) (nI 1)) 4 n0 0 3) + (nI 1)))))
else none)
else none)
else none)
else none)
else none)
else
(some (nI 0, O)) := (ex_un d 40 300 0 [some (vr 4 n0 0), some (vi x1)] [] O).trans rfl
set_option maxRecDepth 100000 in
theorem sX4_settle_0 (d : Nat) (O : Mem_) (n0 : Nat) : ex (d + 1) 41 0 [some (vr 4 n0 0)] [] O =
ex (d + 1) 41 2 [some (vr 4 n0 0), some (vi (nI 0))] [] O := (ex_un d 41 300 0 [some (vr 4 n0 0)] [] O).trans rfl
set_option maxRecDepth 100000 in
theorem sX4_settle_2 (d : Nat) (O : Mem_) (n0 : Nat) (x1 : Int32) : ex (d + 1) 41 2 [some (vr 4 n0 0), some (vi x1)] [] O =
if x1 < (O 4 n0 0 0) then
(if ib x1 8 then
(ex (d + 1) 41 2 [some (vr 4 n0 0), some (vi (x1 + (nI 1)))] [] (up O 4 n0 6 (Int32.toNatClampNeg x1) (nI 0)))
else none)
else
(ex (d + 1) 41 25 [some (vr 4 n0 0), some (vi (nI 0))] [] O) := (ex_un d 41 300 2 [some (vr 4 n0 0), some (vi x1)] [] O).trans rfl
set_option maxRecDepth 100000 in
theorem sX4_settle_25 (d : Nat) (O : Mem_) (n0 : Nat) (x1 : Int32) : ex (d + 1) 41 25 [some (vr 4 n0 0), some (vi x1)] [] O =
if x1 < (O 4 n0 0 1) then
(if ib x1 12 then
(ex (d + 1) 41 42 [some (vr 4 n0 0), some (vi x1), some (vi (nI 0))] [] (up O 4 n0 10 (Int32.toNatClampNeg x1) (nI 0)))
else none)
else
(ex (d + 1) 41 126 [some (vr 4 n0 0), some (vi (nI 0))] [] O) := (ex_un d 41 300 25 [some (vr 4 n0 0), some (vi x1)] [] O).trans rfl
set_option maxRecDepth 100000 in
theorem sX4_settle_42 (d : Nat) (O : Mem_) (n0 : Nat) (x1 : Int32) (x2 : Int32) : ex (d + 1) 41 42 [some (vr 4 n0 0), some (vi x1), some (vi x2)] [] O =
if x2 < (O 4 n0 0 0) then
(if ib x2 8 then
(if ib x1 12 then
(if ib x1 12 then
(if ((O 4 n0 5 (Int32.toNatClampNeg x2)) &&& (O 4 n0 7 (Int32.toNatClampNeg x1))) = (O 4 n0 7 (Int32.toNatClampNeg x1)) then
(if ib x2 8 then
(if ib x1 12 then
(if ((O 4 n0 5 (Int32.toNatClampNeg x2)) &&& (O 4 n0 8 (Int32.toNatClampNeg x1))) = nI 0 then
(if ib x1 12 then
(if ib x1 12 then
(if ib x2 8 then
(if ib x2 8 then
(ex (d + 1) 41 42 [some (vr 4 n0 0), some (vi x1), some (vi (x2 + (nI 1)))] [] (up (up O 4 n0 10 (Int32.toNatClampNeg x1) ((O 4 n0 10 (Int32.toNatClampNeg x1)) ||| ((nI 1) <<< (x2 &&& (31:Int32))))) 4 n0 6 (Int32.toNatClampNeg x2) (((up O 4 n0 10 (Int32.toNatClampNeg x1) ((O 4 n0 10 (Int32.toNatClampNeg x1)) ||| ((nI 1) <<< (x2 &&& (31:Int32))))) 4 n0 6 (Int32.toNatClampNeg x2)) ||| ((nI 1) <<< (x1 &&& (31:Int32))))))
else none)
else none)
else none)
else none)
else
(ex (d + 1) 41 42 [some (vr 4 n0 0), some (vi x1), some (vi (x2 + (nI 1)))] [] O))
else none)
else none)
else
(ex (d + 1) 41 42 [some (vr 4 n0 0), some (vi x1), some (vi (x2 + (nI 1)))] [] O))
else none)
else none)
else none)
else
(ex (d + 1) 41 25 [some (vr 4 n0 0), some (vi (x1 + (nI 1)))] [] O) := (ex_un d 41 300 42 [some (vr 4 n0 0), some (vi x1), some (vi x2)] [] O).trans rfl
set_option maxRecDepth 100000 in
theorem sX4_settle_126 (d : Nat) (O : Mem_) (n0 : Nat) (x1 : Int32) : ex (d + 1) 41 126 [some (vr 4 n0 0), some (vi x1)] [] O =
if x1 < (O 4 n0 0 3) then
(if ib x1 6 then
(ex (d + 1) 41 143 [some (vr 4 n0 0), some (vi x1), some (vi (nI 0))] [] (up O 4 n0 19 (Int32.toNatClampNeg x1) (nI 0)))
else none)
else
((ex d 42 0 [some (vr 4 n0 0)] [] O).bind fun r0 =>
some (nI 0, r0.2)) := (ex_un d 41 300 126 [some (vr 4 n0 0), some (vi x1)] [] O).trans rfl
set_option maxRecDepth 100000 in
theorem sX4_settle_143 (d : Nat) (O : Mem_) (n0 : Nat) (x1 : Int32) (x2 : Int32) : ex (d + 1) 41 143 [some (vr 4 n0 0), some (vi x1), some (vi x2)] [] O =
if x2 < (O 4 n0 0 1) then
(if ib x2 12 then
(if ib x2 12 then
(if ib x1 6 then
(if (((O 4 n0 7 (Int32.toNatClampNeg x2)) ||| (O 4 n0 8 (Int32.toNatClampNeg x2))) &&& ((O 4 n0 15 (Int32.toNatClampNeg x1)) ^^^ (-1))) = nI 0 then
(if ib x1 6 then
(if ib x1 6 then
(ex (d + 1) 41 143 [some (vr 4 n0 0), some (vi x1), some (vi (x2 + (nI 1)))] [] (up O 4 n0 19 (Int32.toNatClampNeg x1) ((O 4 n0 19 (Int32.toNatClampNeg x1)) ||| ((nI 1) <<< (x2 &&& (31:Int32))))))
else none)
else none)
else
(ex (d + 1) 41 143 [some (vr 4 n0 0), some (vi x1), some (vi (x2 + (nI 1)))] [] O))
else none)
else none)
else none)
else
(ex (d + 1) 41 126 [some (vr 4 n0 0), some (vi (x1 + (nI 1)))] [] O) := (ex_un d 41 300 143 [some (vr 4 n0 0), some (vi x1), some (vi x2)] [] O).trans rfl
set_option maxRecDepth 100000 in
theorem sX4_settleMeanings_0 (d : Nat) (O : Mem_) (n0 : Nat) : ex (d + 1) 42 0 [some (vr 4 n0 0)] [] O =
ex (d + 1) 42 2 [some (vr 4 n0 0), some (vi (nI 0))] [] O := (ex_un d 42 300 0 [some (vr 4 n0 0)] [] O).trans rfl
set_option maxRecDepth 100000 in
theorem sX4_settleMeanings_2 (d : Nat) (O : Mem_) (n0 : Nat) (x1 : Int32) : ex (d + 1) 42 2 [some (vr 4 n0 0), some (vi x1)] [] O =
if x1 < (O 4 n0 0 1) then
(if ib x1 12 then
(ex (d + 1) 42 19 [some (vr 4 n0 0), some (vi x1), some (vi (nI 0))] [] (up O 4 n0 11 (Int32.toNatClampNeg x1) (nI 0)))
else none)
else
(ex (d + 1) 42 70 [some (vr 4 n0 0), some (vi (nI 0)), some (vi (nI 0))] [] O) := (ex_un d 42 300 2 [some (vr 4 n0 0), some (vi x1)] [] O).trans rfl
set_option maxRecDepth 100000 in
theorem sX4_settleMeanings_19 (d : Nat) (O : Mem_) (n0 : Nat) (x1 : Int32) (x2 : Int32) : ex (d + 1) 42 19 [some (vr 4 n0 0), some (vi x1), some (vi x2)] [] O =
if x2 < (O 4 n0 0 1) then
(if ib x1 12 then
(if ib x2 12 then
(if (O 4 n0 10 (Int32.toNatClampNeg x1)) = (O 4 n0 10 (Int32.toNatClampNeg x2)) then
(if ib x1 12 then
(if ib x1 12 then
(ex (d + 1) 42 19 [some (vr 4 n0 0), some (vi x1), some (vi (x2 + (nI 1)))] [] (up O 4 n0 11 (Int32.toNatClampNeg x1) ((O 4 n0 11 (Int32.toNatClampNeg x1)) ||| ((nI 1) <<< (x2 &&& (31:Int32))))))
else none)
else none)
else
(ex (d + 1) 42 19 [some (vr 4 n0 0), some (vi x1), some (vi (x2 + (nI 1)))] [] O))
else none)
else none)
else
(ex (d + 1) 42 2 [some (vr 4 n0 0), some (vi (x1 + (nI 1)))] [] O) := (ex_un d 42 300 19 [some (vr 4 n0 0), some (vi x1), some (vi x2)] [] O).trans rfl
set_option maxRecDepth 100000 in
theorem sX4_settleMeanings_70 (d : Nat) (O : Mem_) (n0 : Nat) (x1 : Int32) (x2 : Int32) : ex (d + 1) 42 70 [some (vr 4 n0 0), some (vi x1), some (vi x2)] [] O =
if (nI 8) < x2 then
(some (nI 0, O))
else
(ex (d + 1) 42 78 [some (vr 4 n0 0), some (vi x1), some (vi x2), some (vi (nI 0))] [] O) := (ex_un d 42 300 70 [some (vr 4 n0 0), some (vi x1), some (vi x2)] [] O).trans rfl
set_option maxRecDepth 100000 in
theorem sX4_settleMeanings_78 (d : Nat) (O : Mem_) (n0 : Nat) (x1 : Int32) (x2 : Int32) (x3 : Int32) : ex (d + 1) 42 78 [some (vr 4 n0 0), some (vi x1), some (vi x2), some (vi x3)] [] O =
if x3 < (O 4 n0 0 1) then
(if ib x3 12 then
(if (O 4 n0 9 (Int32.toNatClampNeg x3)) = x2 then
(if x1 < (nI 12) then
(if ib x1 12 then
(ex (d + 1) 42 78 [some (vr 4 n0 0), some (vi (x1 + (nI 1))), some (vi x2), some (vi (x3 + (nI 1)))] [] (up O 4 n0 12 (Int32.toNatClampNeg x1) x3))
else none)
else
(ex (d + 1) 42 78 [some (vr 4 n0 0), some (vi x1), some (vi x2), some (vi (x3 + (nI 1)))] [] O))
else
(ex (d + 1) 42 78 [some (vr 4 n0 0), some (vi x1), some (vi x2), some (vi (x3 + (nI 1)))] [] O))
else none)
else
(ex (d + 1) 42 70 [some (vr 4 n0 0), some (vi x1), some (vi (x2 + (nI 1)))] [] O) := (ex_un d 42 300 78 [some (vr 4 n0 0), some (vi x1), some (vi x2), some (vi x3)] [] O).trans rfl
set_option maxRecDepth 100000 in
theorem sX4_hasThing_0 (d : Nat) (O : Mem_) (n0 : Nat) (x1 : Int32) : ex (d + 1) 43 0 [some (vr 4 n0 0), some (vi x1)] [] O =
if x1 < nI 0 then
(some ((nI 0), O))
else
(if x1 < (O 4 n0 0 0) then
(some ((nI 1), O))
else
(some ((nI 0), O))) := (ex_un d 43 300 0 [some (vr 4 n0 0), some (vi x1)] [] O).trans rfl
set_option maxRecDepth 100000 in
theorem sX4_hasMeaning_0 (d : Nat) (O : Mem_) (n0 : Nat) (x1 : Int32) : ex (d + 1) 44 0 [some (vr 4 n0 0), some (vi x1)] [] O =
if x1 < nI 0 then
(some ((nI 0), O))
else
(if x1 < (O 4 n0 0 1) then
(some ((nI 1), O))
else
(some ((nI 0), O))) := (ex_un d 44 300 0 [some (vr 4 n0 0), some (vi x1)] [] O).trans rfl
set_option maxRecDepth 100000 in
theorem sX4_hasSound_0 (d : Nat) (O : Mem_) (n0 : Nat) (x1 : Int32) : ex (d + 1) 45 0 [some (vr 4 n0 0), some (vi x1)] [] O =
if x1 < nI 0 then
(some ((nI 0), O))
else
(if x1 < (O 4 n0 0 2) then
(some ((nI 1), O))
else
(some ((nI 0), O))) := (ex_un d 45 300 0 [some (vr 4 n0 0), some (vi x1)] [] O).trans rfl
set_option maxRecDepth 100000 in
theorem sX4_hasKind_0 (d : Nat) (O : Mem_) (n0 : Nat) (x1 : Int32) : ex (d + 1) 46 0 [some (vr 4 n0 0), some (vi x1)] [] O =
if x1 < nI 0 then
(some ((nI 0), O))
else
(if x1 < (O 4 n0 0 3) then
(some ((nI 1), O))
else
(some ((nI 0), O))) := (ex_un d 46 300 0 [some (vr 4 n0 0), some (vi x1)] [] O).trans rfl
set_option maxRecDepth 100000 in
theorem sX4_areKinds_0 (d : Nat) (O : Mem_) (n0 : Nat) (x1 : Int32) : ex (d + 1) 47 0 [some (vr 4 n0 0), some (vi x1)] [] O =
if x1 < nI 0 then
(some ((nI 0), O))
else
(if x1 < ((nI 1) <<< ((O 4 n0 0 3) &&& (31:Int32))) then
(some ((nI 1), O))
else
(some ((nI 0), O))) := (ex_un d 47 300 0 [some (vr 4 n0 0), some (vi x1)] [] O).trans rfl
set_option maxRecDepth 100000 in
theorem sX4_allMeanings_0 (d : Nat) (O : Mem_) (n0 : Nat) : ex (d + 1) 49 0 [some (vr 4 n0 0)] [] O =
some ((((nI 1) <<< ((O 4 n0 0 1) &&& (31:Int32))) - (nI 1)), O) := (ex_un d 49 300 0 [some (vr 4 n0 0)] [] O).trans rfl
set_option maxRecDepth 100000 in
theorem sX4_allKinds_0 (d : Nat) (O : Mem_) (n0 : Nat) : ex (d + 1) 50 0 [some (vr 4 n0 0)] [] O =
some ((((nI 1) <<< ((O 4 n0 0 3) &&& (31:Int32))) - (nI 1)), O) := (ex_un d 50 300 0 [some (vr 4 n0 0)] [] O).trans rfl
set_option maxRecDepth 100000 in
theorem sX4_plainest_0 (d : Nat) (O : Mem_) (n0 : Nat) (x1 : Int32) : ex (d + 1) 51 0 [some (vr 4 n0 0), some (vi x1)] [] O =
ex (d + 1) 51 2 [some (vr 4 n0 0), some (vi x1), some (vi (nI 0))] [] O := (ex_un d 51 300 0 [some (vr 4 n0 0), some (vi x1)] [] O).trans rfl
set_option maxRecDepth 100000 in
theorem sX4_plainest_2 (d : Nat) (O : Mem_) (n0 : Nat) (x1 : Int32) (x2 : Int32) : ex (d + 1) 51 2 [some (vr 4 n0 0), some (vi x1), some (vi x2)] [] O =
if x2 < (O 4 n0 0 1) then
(if ib x2 12 then
((ex d 109 0 [some (vi (O 4 n0 12 (Int32.toNatClampNeg x2))), some (vi x1)] [] O).bind fun r0 =>
if r0.1 = nI 0 then
(ex (d + 1) 51 2 [some (vr 4 n0 0), some (vi x1), some (vi (x2 + (nI 1)))] [] r0.2)
else
(if ib x2 12 then
(some ((r0.2 4 n0 12 (Int32.toNatClampNeg x2)), r0.2))
else none))
else none)
else
(some ((oI none), O)) := (ex_un d 51 300 2 [some (vr 4 n0 0), some (vi x1), some (vi x2)] [] O).trans rfl
set_option maxRecDepth 100000 in
theorem sX4_fitting_0 (d : Nat) (O : Mem_) (n0 : Nat) (x1 : Int32) (x2 : Int32) : ex (d + 1) 52 0 [some (vr 4 n0 0), some (vi x1), some (vi x2)] [] O =
(ex d 43 0 [some (vr 4 n0 0), some (vi x1)] [] O).bind fun r0 =>
if r0.1 = nI 0 then
(some ((nI 0), r0.2))
else
(if x2 = nI 0 then
((ex d 49 0 [some (vr 4 n0 0)] [] r0.2).bind fun r1 =>
if ib x1 8 then
(some ((r1.1 &&& ((r1.2 4 n0 6 (Int32.toNatClampNeg x1)) ^^^ (-1))), r1.2))
else none)
else
(if ib x1 8 then
(some ((r0.2 4 n0 6 (Int32.toNatClampNeg x1)), r0.2))
else none)) := (ex_un d 52 300 0 [some (vr 4 n0 0), some (vi x1), some (vi x2)] [] O).trans rfl
set_option maxRecDepth 100000 in
theorem sX4_targetThings_0 (d : Nat) (O : Mem_) (n0 : Nat) (x1 : Int32) : ex (d + 1) 53 0 [some (vr 4 n0 0), some (vi x1)] [] O =
(ex d 45 0 [some (vr 4 n0 0), some (vi x1)] [] O).bind fun r0 =>
if r0.1 = nI 0 then
(some ((nI 0), r0.2))
else
(if ib x1 4 then
((ex d 44 0 [some (vr 4 n0 0), some (vi (r0.2 4 n0 13 (Int32.toNatClampNeg x1)))] [] r0.2).bind fun r1 =>
if r1.1 = nI 0 then
(some ((nI 0), r1.2))
else
(if ib x1 4 then
(if ib (r1.2 4 n0 13 (Int32.toNatClampNeg x1)) 12 then
(some ((r1.2 4 n0 10 (Int32.toNatClampNeg (r1.2 4 n0 13 (Int32.toNatClampNeg x1)))), r1.2))
else none)
else none))
else none) := (ex_un d 53 300 0 [some (vr 4 n0 0), some (vi x1)] [] O).trans rfl
set_option maxRecDepth 100000 in
theorem sX4_likeTarget_0 (d : Nat) (O : Mem_) (n0 : Nat) (x1 : Int32) : ex (d + 1) 54 0 [some (vr 4 n0 0), some (vi x1)] [] O =
(ex d 45 0 [some (vr 4 n0 0), some (vi x1)] [] O).bind fun r0 =>
if r0.1 = nI 0 then
(some ((nI 0), r0.2))
else
(if ib x1 4 then
((ex d 44 0 [some (vr 4 n0 0), some (vi (r0.2 4 n0 13 (Int32.toNatClampNeg x1)))] [] r0.2).bind fun r1 =>
if r1.1 = nI 0 then
(some ((nI 0), r1.2))
else
(if ib x1 4 then
(if ib (r1.2 4 n0 13 (Int32.toNatClampNeg x1)) 12 then
(some ((r1.2 4 n0 11 (Int32.toNatClampNeg (r1.2 4 n0 13 (Int32.toNatClampNeg x1)))), r1.2))
else none)
else none))
else none) := (ex_un d 54 300 0 [some (vr 4 n0 0), some (vi x1)] [] O).trans rfl
set_option maxRecDepth 100000 in
theorem sX4_isTarget_0 (d : Nat) (O : Mem_) (n0 : Nat) (x1 : Int32) (x2 : Int32) : ex (d + 1) 55 0 [some (vr 4 n0 0), some (vi x1), some (vi x2)] [] O =
(ex d 53 0 [some (vr 4 n0 0), some (vi x1)] [] O).bind fun r0 =>
(ex d 109 0 [some (vi x2), some (vi r0.1)] [] r0.2).bind fun r1 =>
if r1.1 = nI 0 ∨ r1.1 = nI 1 then some (r1.1, r1.2) else none := (ex_un d 55 300 0 [some (vr 4 n0 0), some (vi x1), some (vi x2)] [] O).trans rfl
set_option maxRecDepth 100000 in
theorem sX4_kindsThatCan_0 (d : Nat) (O : Mem_) (n0 : Nat) (x1 : Int32) : ex (d + 1) 56 0 [some (vr 4 n0 0), some (vi x1)] [] O =
ex (d + 1) 56 4 [some (vr 4 n0 0), some (vi x1), some (vi (nI 0)), some (vi (nI 0))] [] O := (ex_un d 56 300 0 [some (vr 4 n0 0), some (vi x1)] [] O).trans rfl
set_option maxRecDepth 100000 in
theorem sX4_kindsThatCan_4 (d : Nat) (O : Mem_) (n0 : Nat) (x1 : Int32) (x2 : Int32) (x3 : Int32) : ex (d + 1) 56 4 [some (vr 4 n0 0), some (vi x1), some (vi x2), some (vi x3)] [] O =
if x3 < (O 4 n0 0 3) then
(if ib x3 6 then
((ex d 109 0 [some (vi x1), some (vi (O 4 n0 19 (Int32.toNatClampNeg x3)))] [] O).bind fun r0 =>
if r0.1 = nI 0 then
(ex (d + 1) 56 4 [some (vr 4 n0 0), some (vi x1), some (vi x2), some (vi (x3 + (nI 1)))] [] r0.2)
else
(ex (d + 1) 56 4 [some (vr 4 n0 0), some (vi x1), some (vi (x2 ||| ((nI 1) <<< (x3 &&& (31:Int32))))), some (vi (x3 + (nI 1)))] [] r0.2))
else none)
else
(some (x2, O)) := (ex_un d 56 300 4 [some (vr 4 n0 0), some (vi x1), some (vi x2), some (vi x3)] [] O).trans rfl
set_option maxRecDepth 100000 in
theorem sX4_chances_0 (d : Nat) (O : Mem_) (n0 : Nat) (x1 : Int32) : ex (d + 1) 58 0 [some (vr 4 n0 0), some (vi x1)] [] O =
ex (d + 1) 58 4 [some (vr 4 n0 0), some (vi x1), some (vi (nI 0)), some (vi (nI 0))] [] O := (ex_un d 58 300 0 [some (vr 4 n0 0), some (vi x1)] [] O).trans rfl
set_option maxRecDepth 100000 in
theorem sX4_chances_4 (d : Nat) (O : Mem_) (n0 : Nat) (x1 : Int32) (x2 : Int32) (x3 : Int32) : ex (d + 1) 58 4 [some (vr 4 n0 0), some (vi x1), some (vi x2), some (vi x3)] [] O =
if x3 < (O 4 n0 0 3) then
((ex d 109 0 [some (vi x3), some (vi x1)] [] O).bind fun r0 =>
if r0.1 = nI 0 then
(ex (d + 1) 58 4 [some (vr 4 n0 0), some (vi x1), some (vi x2), some (vi (x3 + (nI 1)))] [] r0.2)
else
(if ib x3 6 then
(ex (d + 1) 58 4 [some (vr 4 n0 0), some (vi x1), some (vi (x2 + (r0.2 4 n0 18 (Int32.toNatClampNeg x3)))), some (vi (x3 + (nI 1)))] [] r0.2)
else none))
else
(some (x2, O)) := (ex_un d 58 300 4 [some (vr 4 n0 0), some (vi x1), some (vi x2), some (vi x3)] [] O).trans rfl
set_option maxRecDepth 100000 in
theorem sJ6_bitCount_0f7a4_0 (d : Nat) (O : Mem_) (x0 : Int32) : ex (d + 1) 217 0 [some (vi x0)] [] O =
some (((((((((x0 - (((Int32.toUInt32 x0 >>> (Int32.toUInt32 (nI 1) &&& Int32.toUInt32 31)).toInt32) &&& (nI 1431655765))) &&& (nI 858993459)) + (((Int32.toUInt32 (x0 - (((Int32.toUInt32 x0 >>> (Int32.toUInt32 (nI 1) &&& Int32.toUInt32 31)).toInt32) &&& (nI 1431655765))) >>> (Int32.toUInt32 (nI 2) &&& Int32.toUInt32 31)).toInt32) &&& (nI 858993459))) + ((Int32.toUInt32 (((x0 - (((Int32.toUInt32 x0 >>> (Int32.toUInt32 (nI 1) &&& Int32.toUInt32 31)).toInt32) &&& (nI 1431655765))) &&& (nI 858993459)) + (((Int32.toUInt32 (x0 - (((Int32.toUInt32 x0 >>> (Int32.toUInt32 (nI 1) &&& Int32.toUInt32 31)).toInt32) &&& (nI 1431655765))) >>> (Int32.toUInt32 (nI 2) &&& Int32.toUInt32 31)).toInt32) &&& (nI 858993459))) >>> (Int32.toUInt32 (nI 4) &&& Int32.toUInt32 31)).toInt32)) &&& (nI 252645135)) + ((Int32.toUInt32 (((((x0 - (((Int32.toUInt32 x0 >>> (Int32.toUInt32 (nI 1) &&& Int32.toUInt32 31)).toInt32) &&& (nI 1431655765))) &&& (nI 858993459)) + (((Int32.toUInt32 (x0 - (((Int32.toUInt32 x0 >>> (Int32.toUInt32 (nI 1) &&& Int32.toUInt32 31)).toInt32) &&& (nI 1431655765))) >>> (Int32.toUInt32 (nI 2) &&& Int32.toUInt32 31)).toInt32) &&& (nI 858993459))) + ((Int32.toUInt32 (((x0 - (((Int32.toUInt32 x0 >>> (Int32.toUInt32 (nI 1) &&& Int32.toUInt32 31)).toInt32) &&& (nI 1431655765))) &&& (nI 858993459)) + (((Int32.toUInt32 (x0 - (((Int32.toUInt32 x0 >>> (Int32.toUInt32 (nI 1) &&& Int32.toUInt32 31)).toInt32) &&& (nI 1431655765))) >>> (Int32.toUInt32 (nI 2) &&& Int32.toUInt32 31)).toInt32) &&& (nI 858993459))) >>> (Int32.toUInt32 (nI 4) &&& Int32.toUInt32 31)).toInt32)) &&& (nI 252645135)) >>> (Int32.toUInt32 (nI 8) &&& Int32.toUInt32 31)).toInt32)) + ((Int32.toUInt32 ((((((x0 - (((Int32.toUInt32 x0 >>> (Int32.toUInt32 (nI 1) &&& Int32.toUInt32 31)).toInt32) &&& (nI 1431655765))) &&& (nI 858993459)) + (((Int32.toUInt32 (x0 - (((Int32.toUInt32 x0 >>> (Int32.toUInt32 (nI 1) &&& Int32.toUInt32 31)).toInt32) &&& (nI 1431655765))) >>> (Int32.toUInt32 (nI 2) &&& Int32.toUInt32 31)).toInt32) &&& (nI 858993459))) + ((Int32.toUInt32 (((x0 - (((Int32.toUInt32 x0 >>> (Int32.toUInt32 (nI 1) &&& Int32.toUInt32 31)).toInt32) &&& (nI 1431655765))) &&& (nI 858993459)) + (((Int32.toUInt32 (x0 - (((Int32.toUInt32 x0 >>> (Int32.toUInt32 (nI 1) &&& Int32.toUInt32 31)).toInt32) &&& (nI 1431655765))) >>> (Int32.toUInt32 (nI 2) &&& Int32.toUInt32 31)).toInt32) &&& (nI 858993459))) >>> (Int32.toUInt32 (nI 4) &&& Int32.toUInt32 31)).toInt32)) &&& (nI 252645135)) + ((Int32.toUInt32 (((((x0 - (((Int32.toUInt32 x0 >>> (Int32.toUInt32 (nI 1) &&& Int32.toUInt32 31)).toInt32) &&& (nI 1431655765))) &&& (nI 858993459)) + (((Int32.toUInt32 (x0 - (((Int32.toUInt32 x0 >>> (Int32.toUInt32 (nI 1) &&& Int32.toUInt32 31)).toInt32) &&& (nI 1431655765))) >>> (Int32.toUInt32 (nI 2) &&& Int32.toUInt32 31)).toInt32) &&& (nI 858993459))) + ((Int32.toUInt32 (((x0 - (((Int32.toUInt32 x0 >>> (Int32.toUInt32 (nI 1) &&& Int32.toUInt32 31)).toInt32) &&& (nI 1431655765))) &&& (nI 858993459)) + (((Int32.toUInt32 (x0 - (((Int32.toUInt32 x0 >>> (Int32.toUInt32 (nI 1) &&& Int32.toUInt32 31)).toInt32) &&& (nI 1431655765))) >>> (Int32.toUInt32 (nI 2) &&& Int32.toUInt32 31)).toInt32) &&& (nI 858993459))) >>> (Int32.toUInt32 (nI 4) &&& Int32.toUInt32 31)).toInt32)) &&& (nI 252645135)) >>> (Int32.toUInt32 (nI 8) &&& Int32.toUInt32 31)).toInt32)) >>> (Int32.toUInt32 (nI 16) &&& Int32.toUInt32 31)).toInt32)) &&& (nI 63)), O) := (ex_un d 217 300 0 [some (vi x0)] [] O).trans rfl
