set_option maxRecDepth 100000 in
theorem sL_law_48 (d : Nat) (O : Mem_) (y0 : Int32) : ex (d + 1) 218 48 [some (vr 8 0 0), some (vr 6 0 0), some (vr 7 0 1), some (vr 7 0 2), some (vr 7 0 3), some (vr 7 0 4), some (vr 7 0 5)] [vi y0] O =
if y0 = nI 0 then
(some ((nI 0), O))
else
(ex (d + 1) 218 56 [some (vr 8 0 0), some (vr 6 0 0), some (vr 7 0 1), some (vr 7 0 2), some (vr 7 0 3), some (vr 7 0 4), some (vr 7 0 5), some (vi (nI 0))] [] O) := (ex_un d 218 300 48 [some (vr 8 0 0), some (vr 6 0 0), some (vr 7 0 1), some (vr 7 0 2), some (vr 7 0 3), some (vr 7 0 4), some (vr 7 0 5)] [vi y0] O).trans rfl
set_option maxRecDepth 100000 in
theorem sL_law_56 (d : Nat) (O : Mem_) (x7 : Int32) : ex (d + 1) 218 56 [some (vr 8 0 0), some (vr 6 0 0), some (vr 7 0 1), some (vr 7 0 2), some (vr 7 0 3), some (vr 7 0 4), some (vr 7 0 5), some (vi x7)] [] O =
if ib (nI 0) 4 then
(if x7 < (O 7 0 5 (Int32.toNatClampNeg (nI 0))) then
((ex d 71 0 [some (vr 6 0 0), some (vi x7)] [] O).bind fun r0 =>
if ib x7 8 then
(if r0.1 = (r0.2 7 0 1 (Int32.toNatClampNeg x7)) then
(ex (d + 1) 218 56 [some (vr 8 0 0), some (vr 6 0 0), some (vr 7 0 1), some (vr 7 0 2), some (vr 7 0 3), some (vr 7 0 4), some (vr 7 0 5), some (vi (x7 + (nI 1)))] [] r0.2)
else
(some ((nI 0), r0.2)))
else none)
else
(ex (d + 1) 218 89 [some (vr 8 0 0), some (vr 6 0 0), some (vr 7 0 1), some (vr 7 0 2), some (vr 7 0 3), some (vr 7 0 4), some (vr 7 0 5), some (vi (nI 0))] [] O))
else none := (ex_un d 218 300 56 [some (vr 8 0 0), some (vr 6 0 0), some (vr 7 0 1), some (vr 7 0 2), some (vr 7 0 3), some (vr 7 0 4), some (vr 7 0 5), some (vi x7)] [] O).trans rfl
set_option maxRecDepth 100000 in
theorem sL_law_89 (d : Nat) (O : Mem_) (x7 : Int32) : ex (d + 1) 218 89 [some (vr 8 0 0), some (vr 6 0 0), some (vr 7 0 1), some (vr 7 0 2), some (vr 7 0 3), some (vr 7 0 4), some (vr 7 0 5), some (vi x7)] [] O =
if ib (nI 1) 4 then
(if x7 < (O 7 0 5 (Int32.toNatClampNeg (nI 1))) then
(ex (d + 1) 218 104 [some (vr 8 0 0), some (vr 6 0 0), some (vr 7 0 1), some (vr 7 0 2), some (vr 7 0 3), some (vr 7 0 4), some (vr 7 0 5), some (vi x7), some (vi (nI 0)), some (vi (nI 0))] [] O)
else
(ex (d + 1) 218 248 [some (vr 8 0 0), some (vr 6 0 0), some (vr 7 0 1), some (vr 7 0 2), some (vr 7 0 3), some (vr 7 0 4), some (vr 7 0 5), some (vi (nI 0))] [] O))
else none := (ex_un d 218 300 89 [some (vr 8 0 0), some (vr 6 0 0), some (vr 7 0 1), some (vr 7 0 2), some (vr 7 0 3), some (vr 7 0 4), some (vr 7 0 5), some (vi x7)] [] O).trans rfl
set_option maxRecDepth 100000 in
theorem sL_law_104 (d : Nat) (O : Mem_) (x7 : Int32) (x8 : Int32) (x9 : Int32) : ex (d + 1) 218 104 [some (vr 8 0 0), some (vr 6 0 0), some (vr 7 0 1), some (vr 7 0 2), some (vr 7 0 3), some (vr 7 0 4), some (vr 7 0 5), some (vi x7), some (vi x8), some (vi x9)] [] O =
if ib (nI 3) 4 then
(if x9 < (O 7 0 5 (Int32.toNatClampNeg (nI 3))) then
(if ib (((nI 6) * x9) + (nI 5)) 24 then
(ex (d + 1) 218 104 [some (vr 8 0 0), some (vr 6 0 0), some (vr 7 0 1), some (vr 7 0 2), some (vr 7 0 3), some (vr 7 0 4), some (vr 7 0 5), some (vi x7), some (vi (x8 ||| ((((O 7 0 4 (Int32.toNatClampNeg (((nI 6) * x9) + (nI 5)))) >>> (x7 &&& (31:Int32))) &&& (nI 1)) <<< (x9 &&& (31:Int32))))), some (vi (x9 + (nI 1)))] [] O)
else none)
else
((ex d 72 0 [some (vr 6 0 0), some (vi x7), some (vi (nI 0))] [] O).bind fun r0 =>
if ib ((nI 3) * x7) 24 then
(if r0.1 = (r0.2 7 0 2 (Int32.toNatClampNeg ((nI 3) * x7))) then
((ex d 72 0 [some (vr 6 0 0), some (vi x7), some (vi (nI 1))] [] r0.2).bind fun r1 =>
if ib (((nI 3) * x7) + (nI 1)) 24 then
(if r1.1 = (r1.2 7 0 2 (Int32.toNatClampNeg (((nI 3) * x7) + (nI 1)))) then
((ex d 72 0 [some (vr 6 0 0), some (vi x7), some (vi (nI 2))] [] r1.2).bind fun r2 =>
if ib ((nI 3) * x7) 24 then
((ex d 127 0 [some (vi (r2.2 7 0 2 (Int32.toNatClampNeg ((nI 3) * x7))))] [] r2.2).bind fun r3 =>
if ib (((nI 3) * x7) + (nI 1)) 24 then
((ex d 127 0 [some (vi (r3.2 7 0 2 (Int32.toNatClampNeg (((nI 3) * x7) + (nI 1)))))] [] r3.2).bind fun r4 =>
if r2.1 = (r3.1 + r4.1) then
((ex d 72 0 [some (vr 6 0 0), some (vi x7), some (vi (nI 3))] [] r4.2).bind fun r5 =>
if ib (((nI 3) * x7) + (nI 2)) 24 then
(if r5.1 = (r5.2 7 0 2 (Int32.toNatClampNeg (((nI 3) * x7) + (nI 2)))) then
((ex d 72 0 [some (vr 6 0 0), some (vi x7), some (vi (nI 4))] [] r5.2).bind fun r6 =>
if r6.1 = x8 then
(ex (d + 1) 218 89 [some (vr 8 0 0), some (vr 6 0 0), some (vr 7 0 1), some (vr 7 0 2), some (vr 7 0 3), some (vr 7 0 4), some (vr 7 0 5), some (vi (x7 + (nI 1)))] [] r6.2)
else
(some ((nI 0), r6.2)))
else
(some ((nI 0), r5.2)))
else none)
else
(some ((nI 0), r4.2)))
else none)
else none)
else
(some ((nI 0), r1.2)))
else none)
else
(some ((nI 0), r0.2)))
else none))
else none := (ex_un d 218 300 104 [some (vr 8 0 0), some (vr 6 0 0), some (vr 7 0 1), some (vr 7 0 2), some (vr 7 0 3), some (vr 7 0 4), some (vr 7 0 5), some (vi x7), some (vi x8), some (vi x9)] [] O).trans rfl
set_option maxRecDepth 100000 in
theorem sL_law_248 (d : Nat) (O : Mem_) (x7 : Int32) : ex (d + 1) 218 248 [some (vr 8 0 0), some (vr 6 0 0), some (vr 7 0 1), some (vr 7 0 2), some (vr 7 0 3), some (vr 7 0 4), some (vr 7 0 5), some (vi x7)] [] O =
if ib (nI 3) 4 then
(if x7 < (O 7 0 5 (Int32.toNatClampNeg (nI 3))) then
(ex (d + 1) 218 260 [some (vr 8 0 0), some (vr 6 0 0), some (vr 7 0 1), some (vr 7 0 2), some (vr 7 0 3), some (vr 7 0 4), some (vr 7 0 5), some (vi x7), some (vi (nI 0))] [] O)
else
(ex (d + 1) 218 303 [some (vr 8 0 0), some (vr 6 0 0), some (vr 7 0 1), some (vr 7 0 2), some (vr 7 0 3), some (vr 7 0 4), some (vr 7 0 5)] [] O))
else none := (ex_un d 218 300 248 [some (vr 8 0 0), some (vr 6 0 0), some (vr 7 0 1), some (vr 7 0 2), some (vr 7 0 3), some (vr 7 0 4), some (vr 7 0 5), some (vi x7)] [] O).trans rfl
set_option maxRecDepth 100000 in
theorem sL_law_260 (d : Nat) (O : Mem_) (x7 : Int32) (x8 : Int32) : ex (d + 1) 218 260 [some (vr 8 0 0), some (vr 6 0 0), some (vr 7 0 1), some (vr 7 0 2), some (vr 7 0 3), some (vr 7 0 4), some (vr 7 0 5), some (vi x7), some (vi x8)] [] O =
if x8 < (nI 6) then
((ex d 74 0 [some (vr 6 0 0), some (vi x7), some (vi x8)] [] O).bind fun r0 =>
if ib (((nI 6) * x7) + x8) 24 then
(if r0.1 = (r0.2 7 0 4 (Int32.toNatClampNeg (((nI 6) * x7) + x8))) then
(ex (d + 1) 218 260 [some (vr 8 0 0), some (vr 6 0 0), some (vr 7 0 1), some (vr 7 0 2), some (vr 7 0 3), some (vr 7 0 4), some (vr 7 0 5), some (vi x7), some (vi (x8 + (nI 1)))] [] r0.2)
else
(some ((nI 0), r0.2)))
else none)
else
(ex (d + 1) 218 248 [some (vr 8 0 0), some (vr 6 0 0), some (vr 7 0 1), some (vr 7 0 2), some (vr 7 0 3), some (vr 7 0 4), some (vr 7 0 5), some (vi (x7 + (nI 1)))] [] O) := (ex_un d 218 300 260 [some (vr 8 0 0), some (vr 6 0 0), some (vr 7 0 1), some (vr 7 0 2), some (vr 7 0 3), some (vr 7 0 4), some (vr 7 0 5), some (vi x7), some (vi x8)] [] O).trans rfl
set_option maxRecDepth 100000 in
theorem sL_law_303 (d : Nat) (O : Mem_)  : ex (d + 1) 218 303 [some (vr 8 0 0), some (vr 6 0 0), some (vr 7 0 1), some (vr 7 0 2), some (vr 7 0 3), some (vr 7 0 4), some (vr 7 0 5)] [] O =
if (nI 60) = nI 60 then some (nI 7, O) else none := (ex_un d 218 300 303 [some (vr 8 0 0), some (vr 6 0 0), some (vr 7 0 1), some (vr 7 0 2), some (vr 7 0 3), some (vr 7 0 4), some (vr 7 0 5)] [] O).trans rfl
set_option maxRecDepth 100000 in
theorem sL_law_321 (d : Nat) (O : Mem_)  : ex (d + 1) 218 321 [some (vr 8 0 0), some (vr 6 0 0), some (vr 7 0 1), some (vr 7 0 2), some (vr 7 0 3), some (vr 7 0 4), some (vr 7 0 5), some (vr 7 0 7), some (vr 7 0 8), some (vr 7 0 9)] [] O =
ex (d + 1) 218 330 [some (vr 8 0 0), some (vr 6 0 0), none, some (vr 7 0 2), some (vr 7 0 3), some (vr 7 0 4), some (vr 7 0 5), some (vr 7 0 7), some (vr 7 0 8), some (vr 7 0 9), some (vi (nI 0)), some (vi (-1)), some (vi (nI 0))] [] O := (ex_un d 218 300 321 [some (vr 8 0 0), some (vr 6 0 0), some (vr 7 0 1), some (vr 7 0 2), some (vr 7 0 3), some (vr 7 0 4), some (vr 7 0 5), some (vr 7 0 7), some (vr 7 0 8), some (vr 7 0 9)] [] O).trans rfl
set_option maxRecDepth 100000 in
theorem sL_law_330 (d : Nat) (O : Mem_) (x10 : Int32) (x11 : Int32) (x12 : Int32) : ex (d + 1) 218 330 [some (vr 8 0 0), some (vr 6 0 0), none, some (vr 7 0 2), some (vr 7 0 3), some (vr 7 0 4), some (vr 7 0 5), some (vr 7 0 7), some (vr 7 0 8), some (vr 7 0 9), some (vi x10), some (vi x11), some (vi x12)] [] O =
if x12 < (nI 26) then
((ex d 121 0 [some (vr 8 0 0), some (vi ((nI 14) + x12))] [] O).bind fun r0 =>
if ib (nI 2) 4 then
((ex d 122 0 [some (vi (r0.1 >>> ((nI 4) &&& (31:Int32)))), some (vi (r0.2 7 0 5 (Int32.toNatClampNeg (nI 2))))] [] r0.2).bind fun r1 =>
if ib (nI 0) 4 then
((ex d 122 0 [some (vi (r0.1 >>> ((nI 6) &&& (31:Int32)))), some (vi (r1.2 7 0 5 (Int32.toNatClampNeg (nI 0))))] [] r1.2).bind fun r2 =>
if (r0.1 &&& (nI 15)) < (nI 11) then
(if x10 < (nI 20) then
(if (r0.1 &&& (nI 15)) < (nI 7) then
(if ib r1.1 4 then
(if ib (((nI 3) * (r2.2 7 0 3 (Int32.toNatClampNeg r1.1))) + (nI 2)) 24 then
(ex (d + 1) 218 429 [some (vr 8 0 0), some (vr 6 0 0), none, some (vr 7 0 2), some (vr 7 0 3), some (vr 7 0 4), some (vr 7 0 5), some (vr 7 0 7), some (vr 7 0 8), some (vr 7 0 9), some (vi x10), some (vi x11), some (vi x12), some (vi r0.1), some (vi r1.1), some (vi r2.1), some (vi (r0.1 &&& (nI 15)))] [vi (((r2.2 7 0 2 (Int32.toNatClampNeg (((nI 3) * (r2.2 7 0 3 (Int32.toNatClampNeg r1.1))) + (nI 2)))) >>> (r2.1 &&& (31:Int32))) &&& (nI 1))] r2.2)
else none)
else none)
else
(ex (d + 1) 218 429 [some (vr 8 0 0), some (vr 6 0 0), none, some (vr 7 0 2), some (vr 7 0 3), some (vr 7 0 4), some (vr 7 0 5), some (vr 7 0 7), some (vr 7 0 8), some (vr 7 0 9), some (vi x10), some (vi x11), some (vi x12), some (vi r0.1), some (vi r1.1), some (vi r2.1), some (vi (r0.1 &&& (nI 15)))] [vi ((r0.1 >>> ((nI 9) &&& (31:Int32))) &&& (nI 1))] r2.2))
else
(ex (d + 1) 218 512 [some (vr 8 0 0), some (vr 6 0 0), none, some (vr 7 0 2), some (vr 7 0 3), some (vr 7 0 4), some (vr 7 0 5), some (vr 7 0 7), some (vr 7 0 8), some (vr 7 0 9), some (vi x10), some (vi x11), some (vi x12), some (vi r0.1), none, some (vi r2.1), some (vi (r0.1 &&& (nI 15)))] [] r2.2))
else
(ex (d + 1) 218 512 [some (vr 8 0 0), some (vr 6 0 0), none, some (vr 7 0 2), some (vr 7 0 3), some (vr 7 0 4), some (vr 7 0 5), some (vr 7 0 7), some (vr 7 0 8), some (vr 7 0 9), some (vi x10), some (vi x11), some (vi x12), some (vi r0.1), none, some (vi r2.1), some (vi (r0.1 &&& (nI 15)))] [] r2.2))
else none)
else none)
else
(if ib (nI 0) 4 then
((ex d 71 0 [some (vr 6 0 0), some (vi (O 7 0 5 (Int32.toNatClampNeg (nI 0))))] [] O).bind fun r3 =>
if r3.1 = (-1) then
(if ib (nI 1) 4 then
((ex d 72 0 [some (vr 6 0 0), some (vi (r3.2 7 0 5 (Int32.toNatClampNeg (nI 1)))), some (vi (nI 0))] [] r3.2).bind fun r4 =>
if r4.1 = (-1) then
((ex d 72 0 [some (vr 6 0 0), some (vi (nI 0)), some (vi (nI 5))] [] r4.2).bind fun r5 =>
if r5.1 = (-1) then
(if ib (nI 2) 4 then
((ex d 73 0 [some (vr 6 0 0), some (vi (r5.2 7 0 5 (Int32.toNatClampNeg (nI 2))))] [] r5.2).bind fun r6 =>
if r6.1 = (-1) then
(if ib (nI 3) 4 then
((ex d 74 0 [some (vr 6 0 0), some (vi (r6.2 7 0 5 (Int32.toNatClampNeg (nI 3)))), some (vi (nI 0))] [] r6.2).bind fun r7 =>
if r7.1 = (-1) then
((ex d 74 0 [some (vr 6 0 0), some (vi (nI 0)), some (vi (nI 6))] [] r7.2).bind fun r8 =>
if r8.1 = (-1) then
(if ib (nI 2) 4 then
((ex d 75 0 [some (vr 6 0 0), some (vi (r8.2 7 0 5 (Int32.toNatClampNeg (nI 2)))), some (vi (nI 0)), some (vi (nI 1))] [] r8.2).bind fun r9 =>
if r9.1 = (-1) then
(if ib (nI 0) 4 then
((ex d 76 0 [some (vr 6 0 0), some (vi (nI 0)), some (vi (r9.2 7 0 5 (Int32.toNatClampNeg (nI 0))))] [] r9.2).bind fun r10 =>
if r10.1 = (-1) then
((ex d 79 0 [some (vr 6 0 0), some (vi (nI 0)), some (vi (nI 3))] [] r10.2).bind fun r11 =>
if r11.1 = (-1) then
(if ib (nI 3) 4 then
((ex d 80 0 [some (vr 6 0 0), some (vi (r11.2 7 0 5 (Int32.toNatClampNeg (nI 3)))), some (vi (nI 0))] [] r11.2).bind fun r12 =>
if r12.1 = (-1) then
(if ib (nI 2) 4 then
((ex d 81 0 [some (vr 6 0 0), some (vi (nI 0)), some (vi (r12.2 7 0 5 (Int32.toNatClampNeg (nI 2))))] [] r12.2).bind fun r13 =>
if r13.1 = (-1) then
((ex d 82 0 [some (vr 6 0 0), some (vi (-1)), some (vi (nI 0))] [] r13.2).bind fun r14 =>
if r14.1 = (-1) then
(if ib (nI 3) 4 then
((ex d 83 0 [some (vr 6 0 0), some (vi (r14.2 7 0 5 (Int32.toNatClampNeg (nI 3))))] [] r14.2).bind fun r15 =>
if r15.1 = (-1) then
((ex d 84 0 [some (vr 6 0 0), some (vi (nI 0)), some (vi (-1))] [] r15.2).bind fun r16 =>
if r16.1 = (-1) then
(if ib (nI 3) 4 then
((ex d 85 0 [some (vr 6 0 0), some (vi ((nI 1) <<< ((r16.2 7 0 5 (Int32.toNatClampNeg (nI 3))) &&& (31:Int32))))] [] r16.2).bind fun r17 =>
if r17.1 = (-1) then
((ex d 96 0 [some (vr 6 0 0), some (vi (nI 0)), some (vi (nI 2))] [] r17.2).bind fun r18 =>
if r18.1 = (-1) then
(if ib (nI 0) 4 then
((ex d 91 0 [some (vr 6 0 0), some (vi (nI 0)), some (vi (nI 0)), some (vi (r18.2 7 0 5 (Int32.toNatClampNeg (nI 0))))] [] r18.2).bind fun r19 =>
if r19.1 = (-1) then
((ex d 102 0 [some (vr 6 0 0), some (vi (nI 2))] [] r19.2).bind fun r20 =>
if r20.1 = (-1) then
((ex d 103 0 [some (vr 6 0 0), some (vi (nI 0))] [] r20.2).bind fun r21 =>
if r21.1 = (-2) then
(some ((nI 1), r21.2))
else
(some ((nI 0), r21.2)))
else
(some ((nI 0), r20.2)))
else
(some ((nI 0), r19.2)))
else none)
else
(some ((nI 0), r18.2)))
else
(some ((nI 0), r17.2)))
else none)
else
(some ((nI 0), r16.2)))
else
(some ((nI 0), r15.2)))
else none)
else
(some ((nI 0), r14.2)))
else
(some ((nI 0), r13.2)))
else none)
else
(some ((nI 0), r12.2)))
else none)
else
(some ((nI 0), r11.2)))
else
(some ((nI 0), r10.2)))
else none)
else
(some ((nI 0), r9.2)))
else none)
else
(some ((nI 0), r8.2)))
else
(some ((nI 0), r7.2)))
else none)
else
(some ((nI 0), r6.2)))
else none)
else
(some ((nI 0), r5.2)))
else
(some ((nI 0), r4.2)))
else none)
else
(some ((nI 0), r3.2)))
else none) := (ex_un d 218 300 330 [some (vr 8 0 0), some (vr 6 0 0), none, some (vr 7 0 2), some (vr 7 0 3), some (vr 7 0 4), some (vr 7 0 5), some (vr 7 0 7), some (vr 7 0 8), some (vr 7 0 9), some (vi x10), some (vi x11), some (vi x12)] [] O).trans rfl
set_option maxRecDepth 100000 in
theorem sL_law_429 (d : Nat) (O : Mem_) (x10 : Int32) (x11 : Int32) (x12 : Int32) (x13 : Int32) (x14 : Int32) (x15 : Int32) (x16 : Int32) (y0 : Int32) : ex (d + 1) 218 429 [some (vr 8 0 0), some (vr 6 0 0), none, some (vr 7 0 2), some (vr 7 0 3), some (vr 7 0 4), some (vr 7 0 5), some (vr 7 0 7), some (vr 7 0 8), some (vr 7 0 9), some (vi x10), some (vi x11), some (vi x12), some (vi x13), some (vi x14), some (vi x15), some (vi x16)] [vi y0] O =
if ib ((nI 3) * x10) 60 then
(if ib (((nI 3) * x10) + (nI 1)) 60 then
(if ib (((nI 3) * x10) + (nI 2)) 60 then
(if x16 < (nI 7) then
((ex d 76 0 [some (vr 6 0 0), some (vi x14), some (vi x15)] [] (up (up (up O 7 0 7 (Int32.toNatClampNeg ((nI 3) * x10)) x14) 7 0 7 (Int32.toNatClampNeg (((nI 3) * x10) + (nI 1))) x15) 7 0 7 (Int32.toNatClampNeg (((nI 3) * x10) + (nI 2))) y0)).bind fun r0 =>
ex (d + 1) 218 502 [some (vr 8 0 0), some (vr 6 0 0), none, some (vr 7 0 2), some (vr 7 0 3), some (vr 7 0 4), some (vr 7 0 5), some (vr 7 0 7), some (vr 7 0 8), some (vr 7 0 9), some (vi (x10 + (nI 1))), some (vi x11), some (vi x12), some (vi x13), none, some (vi x15)] [vi r0.1] r0.2)
else
(if y0 = (nI 1) then
(ex (d + 1) 218 499 [some (vr 8 0 0), some (vr 6 0 0), none, some (vr 7 0 2), some (vr 7 0 3), some (vr 7 0 4), some (vr 7 0 5), some (vr 7 0 7), some (vr 7 0 8), some (vr 7 0 9), some (vi (x10 + (nI 1))), some (vi x11), some (vi x12), some (vi x13), none, some (vi x15)] [vi (nI 1), vi x15, vi x14, vr 6 0 0] (up (up (up O 7 0 7 (Int32.toNatClampNeg ((nI 3) * x10)) x14) 7 0 7 (Int32.toNatClampNeg (((nI 3) * x10) + (nI 1))) x15) 7 0 7 (Int32.toNatClampNeg (((nI 3) * x10) + (nI 2))) y0))
else
(ex (d + 1) 218 499 [some (vr 8 0 0), some (vr 6 0 0), none, some (vr 7 0 2), some (vr 7 0 3), some (vr 7 0 4), some (vr 7 0 5), some (vr 7 0 7), some (vr 7 0 8), some (vr 7 0 9), some (vi (x10 + (nI 1))), some (vi x11), some (vi x12), some (vi x13), none, some (vi x15)] [vi (nI 0), vi x15, vi x14, vr 6 0 0] (up (up (up O 7 0 7 (Int32.toNatClampNeg ((nI 3) * x10)) x14) 7 0 7 (Int32.toNatClampNeg (((nI 3) * x10) + (nI 1))) x15) 7 0 7 (Int32.toNatClampNeg (((nI 3) * x10) + (nI 2))) y0))))
else none)
else none)
else none := (ex_un d 218 300 429 [some (vr 8 0 0), some (vr 6 0 0), none, some (vr 7 0 2), some (vr 7 0 3), some (vr 7 0 4), some (vr 7 0 5), some (vr 7 0 7), some (vr 7 0 8), some (vr 7 0 9), some (vi x10), some (vi x11), some (vi x12), some (vi x13), some (vi x14), some (vi x15), some (vi x16)] [vi y0] O).trans rfl
set_option maxRecDepth 100000 in
theorem sL_law_499 (d : Nat) (O : Mem_) (x10 : Int32) (x11 : Int32) (x12 : Int32) (x13 : Int32) (x15 : Int32) (y0 : Int32) (y1 : Int32) (y2 : Int32) : ex (d + 1) 218 499 [some (vr 8 0 0), some (vr 6 0 0), none, some (vr 7 0 2), some (vr 7 0 3), some (vr 7 0 4), some (vr 7 0 5), some (vr 7 0 7), some (vr 7 0 8), some (vr 7 0 9), some (vi x10), some (vi x11), some (vi x12), some (vi x13), none, some (vi x15)] [vi y0, vi y1, vi y2, vr 6 0 0] O =
(ex d 75 0 [some (vr 6 0 0), some (vi y2), some (vi y1), some (vi y0)] [] O).bind fun r0 =>
ex (d + 1) 218 502 [some (vr 8 0 0), some (vr 6 0 0), none, some (vr 7 0 2), some (vr 7 0 3), some (vr 7 0 4), some (vr 7 0 5), some (vr 7 0 7), some (vr 7 0 8), some (vr 7 0 9), some (vi x10), some (vi x11), some (vi x12), some (vi x13), none, some (vi x15)] [vi r0.1] r0.2 := (ex_un d 218 300 499 [some (vr 8 0 0), some (vr 6 0 0), none, some (vr 7 0 2), some (vr 7 0 3), some (vr 7 0 4), some (vr 7 0 5), some (vr 7 0 7), some (vr 7 0 8), some (vr 7 0 9), some (vi x10), some (vi x11), some (vi x12), some (vi x13), none, some (vi x15)] [vi y0, vi y1, vi y2, vr 6 0 0] O).trans rfl
set_option maxRecDepth 100000 in
theorem sL_law_502 (d : Nat) (O : Mem_) (x10 : Int32) (x11 : Int32) (x12 : Int32) (x13 : Int32) (x15 : Int32) (y0 : Int32) : ex (d + 1) 218 502 [some (vr 8 0 0), some (vr 6 0 0), none, some (vr 7 0 2), some (vr 7 0 3), some (vr 7 0 4), some (vr 7 0 5), some (vr 7 0 7), some (vr 7 0 8), some (vr 7 0 9), some (vi x10), some (vi x11), some (vi x12), some (vi x13), none, some (vi x15)] [vi y0] O =
if y0 = x10 then
(ex (d + 1) 218 721 [some (vr 8 0 0), some (vr 6 0 0), none, some (vr 7 0 2), some (vr 7 0 3), some (vr 7 0 4), some (vr 7 0 5), some (vr 7 0 7), some (vr 7 0 8), some (vr 7 0 9), some (vi x10), some (vi x11), some (vi x12), some (vi x13), none, some (vi x15)] [] O)
else
(some ((nI 0), O)) := (ex_un d 218 300 502 [some (vr 8 0 0), some (vr 6 0 0), none, some (vr 7 0 2), some (vr 7 0 3), some (vr 7 0 4), some (vr 7 0 5), some (vr 7 0 7), some (vr 7 0 8), some (vr 7 0 9), some (vi x10), some (vi x11), some (vi x12), some (vi x13), none, some (vi x15)] [vi y0] O).trans rfl
set_option maxRecDepth 100000 in
theorem sL_law_512 (d : Nat) (O : Mem_) (x10 : Int32) (x11 : Int32) (x12 : Int32) (x13 : Int32) (x15 : Int32) (x16 : Int32) : ex (d + 1) 218 512 [some (vr 8 0 0), some (vr 6 0 0), none, some (vr 7 0 2), some (vr 7 0 3), some (vr 7 0 4), some (vr 7 0 5), some (vr 7 0 7), some (vr 7 0 8), some (vr 7 0 9), some (vi x10), some (vi x11), some (vi x12), some (vi x13), none, some (vi x15), some (vi x16)] [] O =
if x16 < (nI 13) then
((ex d 77 0 [some (vr 6 0 0)] [] O).bind fun r0 =>
if x10 = nI 0 then
(ex (d + 1) 218 537 [some (vr 8 0 0), some (vr 6 0 0), none, some (vr 7 0 2), some (vr 7 0 3), some (vr 7 0 4), some (vr 7 0 5), some (vr 7 0 7), some (vr 7 0 8), some (vr 7 0 9), some (vi x10), some (vi x11), some (vi x12), some (vi x13), none, some (vi x15)] [vi (oI none), vi r0.1] r0.2)
else
(ex (d + 1) 218 537 [some (vr 8 0 0), some (vr 6 0 0), none, some (vr 7 0 2), some (vr 7 0 3), some (vr 7 0 4), some (vr 7 0 5), some (vr 7 0 7), some (vr 7 0 8), some (vr 7 0 9), some (vi x10), some (vi x11), some (vi x12), some (vi x13), none, some (vi x15)] [vi (x10 - (nI 1)), vi r0.1] r0.2))
else
(if x16 = (nI 13) then
((ex d 102 0 [some (vr 6 0 0), some (vi (nI 1))] [] O).bind fun r1 =>
if x11 < nI 0 then
(ex (d + 1) 218 582 [some (vr 8 0 0), some (vr 6 0 0), none, some (vr 7 0 2), some (vr 7 0 3), some (vr 7 0 4), some (vr 7 0 5), some (vr 7 0 7), some (vr 7 0 8), some (vr 7 0 9), some (vi x10), none, some (vi x12), some (vi x13), none, some (vi x15)] [vi (nI 0), vi r1.1] r1.2)
else
(ex (d + 1) 218 582 [some (vr 8 0 0), some (vr 6 0 0), none, some (vr 7 0 2), some (vr 7 0 3), some (vr 7 0 4), some (vr 7 0 5), some (vr 7 0 7), some (vr 7 0 8), some (vr 7 0 9), some (vi x10), none, some (vi x12), some (vi x13), none, some (vi x15)] [vi (nI 1), vi r1.1] r1.2))
else
(if x16 = (nI 14) then
((ex d 103 0 [some (vr 6 0 0), some (vi (nI 1))] [] O).bind fun r2 =>
if x11 < nI 0 then
(ex (d + 1) 218 644 [some (vr 8 0 0), some (vr 6 0 0), none, some (vr 7 0 2), some (vr 7 0 3), some (vr 7 0 4), some (vr 7 0 5), some (vr 7 0 7), some (vr 7 0 8), some (vr 7 0 9), some (vi x10), some (vi x11), some (vi x12), some (vi x13), none, some (vi x15)] [vi (-2), vi r2.1] r2.2)
else
(ex (d + 1) 218 644 [some (vr 8 0 0), some (vr 6 0 0), none, some (vr 7 0 2), some (vr 7 0 3), some (vr 7 0 4), some (vr 7 0 5), some (vr 7 0 7), some (vr 7 0 8), some (vr 7 0 9), some (vi x10), some (vi x11), some (vi x12), some (vi x13), none, some (vi x15)] [vi x11, vi r2.1] r2.2))
else
(if ((x13 >>> ((nI 9) &&& (31:Int32))) &&& (nI 3)) = nI 0 then
((ex d 78 0 [some (vr 6 0 0)] [] O).bind fun r3 =>
if r3.1 = x10 then
(ex (d + 1) 218 721 [some (vr 8 0 0), some (vr 6 0 0), none, some (vr 7 0 2), some (vr 7 0 3), some (vr 7 0 4), some (vr 7 0 5), some (vr 7 0 7), some (vr 7 0 8), some (vr 7 0 9), some (vi (nI 0)), some (vi x11), some (vi x12), some (vi x13), none, some (vi x15)] [] r3.2)
else
(some ((nI 0), r3.2)))
else
(ex (d + 1) 218 721 [some (vr 8 0 0), some (vr 6 0 0), none, some (vr 7 0 2), some (vr 7 0 3), some (vr 7 0 4), some (vr 7 0 5), some (vr 7 0 7), some (vr 7 0 8), some (vr 7 0 9), some (vi x10), some (vi x11), some (vi x12), some (vi x13), none, some (vi x15)] [] O)))) := (ex_un d 218 300 512 [some (vr 8 0 0), some (vr 6 0 0), none, some (vr 7 0 2), some (vr 7 0 3), some (vr 7 0 4), some (vr 7 0 5), some (vr 7 0 7), some (vr 7 0 8), some (vr 7 0 9), some (vi x10), some (vi x11), some (vi x12), some (vi x13), none, some (vi x15), some (vi x16)] [] O).trans rfl
set_option maxRecDepth 100000 in
theorem sL_law_537 (d : Nat) (O : Mem_) (x10 : Int32) (x11 : Int32) (x12 : Int32) (x13 : Int32) (x15 : Int32) (y0 : Int32) (y1 : Int32) : ex (d + 1) 218 537 [some (vr 8 0 0), some (vr 6 0 0), none, some (vr 7 0 2), some (vr 7 0 3), some (vr 7 0 4), some (vr 7 0 5), some (vr 7 0 7), some (vr 7 0 8), some (vr 7 0 9), some (vi x10), some (vi x11), some (vi x12), some (vi x13), none, some (vi x15)] [vi y0, vi y1] O =
if y1 = y0 then
(if x10 = nI 0 then
(ex (d + 1) 218 721 [some (vr 8 0 0), some (vr 6 0 0), none, some (vr 7 0 2), some (vr 7 0 3), some (vr 7 0 4), some (vr 7 0 5), some (vr 7 0 7), some (vr 7 0 8), some (vr 7 0 9), some (vi (x10 - (nI 0))), some (vi x11), some (vi x12), some (vi x13), none, some (vi x15)] [] O)
else
(ex (d + 1) 218 721 [some (vr 8 0 0), some (vr 6 0 0), none, some (vr 7 0 2), some (vr 7 0 3), some (vr 7 0 4), some (vr 7 0 5), some (vr 7 0 7), some (vr 7 0 8), some (vr 7 0 9), some (vi (x10 - (nI 1))), some (vi x11), some (vi x12), some (vi x13), none, some (vi x15)] [] O))
else
(some ((nI 0), O)) := (ex_un d 218 300 537 [some (vr 8 0 0), some (vr 6 0 0), none, some (vr 7 0 2), some (vr 7 0 3), some (vr 7 0 4), some (vr 7 0 5), some (vr 7 0 7), some (vr 7 0 8), some (vr 7 0 9), some (vi x10), some (vi x11), some (vi x12), some (vi x13), none, some (vi x15)] [vi y0, vi y1] O).trans rfl
set_option maxRecDepth 100000 in
theorem sL_law_582 (d : Nat) (O : Mem_) (x10 : Int32) (x12 : Int32) (x13 : Int32) (x15 : Int32) (y0 : Int32) (y1 : Int32) : ex (d + 1) 218 582 [some (vr 8 0 0), some (vr 6 0 0), none, some (vr 7 0 2), some (vr 7 0 3), some (vr 7 0 4), some (vr 7 0 5), some (vr 7 0 7), some (vr 7 0 8), some (vr 7 0 9), some (vi x10), none, some (vi x12), some (vi x13), none, some (vi x15)] [vi y0, vi y1] O =
if y1 = y0 then
(ex (d + 1) 218 594 [some (vr 8 0 0), some (vr 6 0 0), none, some (vr 7 0 2), some (vr 7 0 3), some (vr 7 0 4), some (vr 7 0 5), some (vr 7 0 7), some (vr 7 0 8), some (vr 7 0 9), some (vi x10), some (vi x10), some (vi x12), some (vi x13), none, some (vi x15), none, some (vi (nI 0))] [] O)
else
(some ((nI 0), O)) := (ex_un d 218 300 582 [some (vr 8 0 0), some (vr 6 0 0), none, some (vr 7 0 2), some (vr 7 0 3), some (vr 7 0 4), some (vr 7 0 5), some (vr 7 0 7), some (vr 7 0 8), some (vr 7 0 9), some (vi x10), none, some (vi x12), some (vi x13), none, some (vi x15)] [vi y0, vi y1] O).trans rfl
set_option maxRecDepth 100000 in
theorem sL_law_594 (d : Nat) (O : Mem_) (x10 : Int32) (x11 : Int32) (x12 : Int32) (x13 : Int32) (x15 : Int32) (x17 : Int32) : ex (d + 1) 218 594 [some (vr 8 0 0), some (vr 6 0 0), none, some (vr 7 0 2), some (vr 7 0 3), some (vr 7 0 4), some (vr 7 0 5), some (vr 7 0 7), some (vr 7 0 8), some (vr 7 0 9), some (vi x10), some (vi x11), some (vi x12), some (vi x13), none, some (vi x15), none, some (vi x17)] [] O =
if x17 < (nI 60) then
(if ib x17 60 then
(if ib x17 60 then
(ex (d + 1) 218 594 [some (vr 8 0 0), some (vr 6 0 0), none, some (vr 7 0 2), some (vr 7 0 3), some (vr 7 0 4), some (vr 7 0 5), some (vr 7 0 7), some (vr 7 0 8), some (vr 7 0 9), some (vi x10), some (vi x11), some (vi x12), some (vi x13), none, some (vi x15), none, some (vi (x17 + (nI 1)))] [] (up O 7 0 9 (Int32.toNatClampNeg x17) (O 7 0 7 (Int32.toNatClampNeg x17))))
else none)
else none)
else
(ex (d + 1) 218 721 [some (vr 8 0 0), some (vr 6 0 0), none, some (vr 7 0 2), some (vr 7 0 3), some (vr 7 0 4), some (vr 7 0 5), some (vr 7 0 7), some (vr 7 0 8), some (vr 7 0 9), some (vi x10), some (vi x11), some (vi x12), some (vi x13), none, some (vi x15)] [] O) := (ex_un d 218 300 594 [some (vr 8 0 0), some (vr 6 0 0), none, some (vr 7 0 2), some (vr 7 0 3), some (vr 7 0 4), some (vr 7 0 5), some (vr 7 0 7), some (vr 7 0 8), some (vr 7 0 9), some (vi x10), some (vi x11), some (vi x12), some (vi x13), none, some (vi x15), none, some (vi x17)] [] O).trans rfl
set_option maxRecDepth 100000 in
theorem sL_law_644 (d : Nat) (O : Mem_) (x10 : Int32) (x11 : Int32) (x12 : Int32) (x13 : Int32) (x15 : Int32) (y0 : Int32) (y1 : Int32) : ex (d + 1) 218 644 [some (vr 8 0 0), some (vr 6 0 0), none, some (vr 7 0 2), some (vr 7 0 3), some (vr 7 0 4), some (vr 7 0 5), some (vr 7 0 7), some (vr 7 0 8), some (vr 7 0 9), some (vi x10), some (vi x11), some (vi x12), some (vi x13), none, some (vi x15)] [vi y0, vi y1] O =
if y1 = y0 then
(ex (d + 1) 218 652 [some (vr 8 0 0), some (vr 6 0 0), none, some (vr 7 0 2), some (vr 7 0 3), some (vr 7 0 4), some (vr 7 0 5), some (vr 7 0 7), some (vr 7 0 8), some (vr 7 0 9), some (vi x10), some (vi x11), some (vi x12), some (vi x13), none, some (vi x15), none, some (vi (nI 0))] [] O)
else
(some ((nI 0), O)) := (ex_un d 218 300 644 [some (vr 8 0 0), some (vr 6 0 0), none, some (vr 7 0 2), some (vr 7 0 3), some (vr 7 0 4), some (vr 7 0 5), some (vr 7 0 7), some (vr 7 0 8), some (vr 7 0 9), some (vi x10), some (vi x11), some (vi x12), some (vi x13), none, some (vi x15)] [vi y0, vi y1] O).trans rfl
set_option maxRecDepth 100000 in
theorem sL_law_652 (d : Nat) (O : Mem_) (x10 : Int32) (x11 : Int32) (x12 : Int32) (x13 : Int32) (x15 : Int32) (x17 : Int32) : ex (d + 1) 218 652 [some (vr 8 0 0), some (vr 6 0 0), none, some (vr 7 0 2), some (vr 7 0 3), some (vr 7 0 4), some (vr 7 0 5), some (vr 7 0 7), some (vr 7 0 8), some (vr 7 0 9), some (vi x10), some (vi x11), some (vi x12), some (vi x13), none, some (vi x15), none, some (vi x17)] [] O =
if x17 < (nI 60) then
(if x11 < nI 0 then
(ex (d + 1) 218 680 [some (vr 8 0 0), some (vr 6 0 0), none, some (vr 7 0 2), some (vr 7 0 3), some (vr 7 0 4), some (vr 7 0 5), some (vr 7 0 7), some (vr 7 0 8), some (vr 7 0 9), some (vi x10), some (vi x11), some (vi x12), some (vi x13), none, some (vi x15)] [] O)
else
(if ib x17 60 then
(if ib x17 60 then
(ex (d + 1) 218 652 [some (vr 8 0 0), some (vr 6 0 0), none, some (vr 7 0 2), some (vr 7 0 3), some (vr 7 0 4), some (vr 7 0 5), some (vr 7 0 7), some (vr 7 0 8), some (vr 7 0 9), some (vi x10), some (vi x11), some (vi x12), some (vi x13), none, some (vi x15), none, some (vi (x17 + (nI 1)))] [] (up O 7 0 7 (Int32.toNatClampNeg x17) (O 7 0 9 (Int32.toNatClampNeg x17))))
else none)
else none))
else
(ex (d + 1) 218 680 [some (vr 8 0 0), some (vr 6 0 0), none, some (vr 7 0 2), some (vr 7 0 3), some (vr 7 0 4), some (vr 7 0 5), some (vr 7 0 7), some (vr 7 0 8), some (vr 7 0 9), some (vi x10), some (vi x11), some (vi x12), some (vi x13), none, some (vi x15)] [] O) := (ex_un d 218 300 652 [some (vr 8 0 0), some (vr 6 0 0), none, some (vr 7 0 2), some (vr 7 0 3), some (vr 7 0 4), some (vr 7 0 5), some (vr 7 0 7), some (vr 7 0 8), some (vr 7 0 9), some (vi x10), some (vi x11), some (vi x12), some (vi x13), none, some (vi x15), none, some (vi x17)] [] O).trans rfl
set_option maxRecDepth 100000 in
theorem sL_law_680 (d : Nat) (O : Mem_) (x10 : Int32) (x11 : Int32) (x12 : Int32) (x13 : Int32) (x15 : Int32) : ex (d + 1) 218 680 [some (vr 8 0 0), some (vr 6 0 0), none, some (vr 7 0 2), some (vr 7 0 3), some (vr 7 0 4), some (vr 7 0 5), some (vr 7 0 7), some (vr 7 0 8), some (vr 7 0 9), some (vi x10), some (vi x11), some (vi x12), some (vi x13), none, some (vi x15)] [] O =
if x11 < nI 0 then
(ex (d + 1) 218 721 [some (vr 8 0 0), some (vr 6 0 0), none, some (vr 7 0 2), some (vr 7 0 3), some (vr 7 0 4), some (vr 7 0 5), some (vr 7 0 7), some (vr 7 0 8), some (vr 7 0 9), some (vi x10), some (vi x11), some (vi x12), some (vi x13), none, some (vi x15)] [] O)
else
(ex (d + 1) 218 721 [some (vr 8 0 0), some (vr 6 0 0), none, some (vr 7 0 2), some (vr 7 0 3), some (vr 7 0 4), some (vr 7 0 5), some (vr 7 0 7), some (vr 7 0 8), some (vr 7 0 9), some (vi x11), some (vi x11), some (vi x12), some (vi x13), none, some (vi x15)] [] O) := (ex_un d 218 300 680 [some (vr 8 0 0), some (vr 6 0 0), none, some (vr 7 0 2), some (vr 7 0 3), some (vr 7 0 4), some (vr 7 0 5), some (vr 7 0 7), some (vr 7 0 8), some (vr 7 0 9), some (vi x10), some (vi x11), some (vi x12), some (vi x13), none, some (vi x15)] [] O).trans rfl
set_option maxRecDepth 100000 in
theorem sL_law_721 (d : Nat) (O : Mem_) (x10 : Int32) (x11 : Int32) (x12 : Int32) (x13 : Int32) (x15 : Int32) : ex (d + 1) 218 721 [some (vr 8 0 0), some (vr 6 0 0), none, some (vr 7 0 2), some (vr 7 0 3), some (vr 7 0 4), some (vr 7 0 5), some (vr 7 0 7), some (vr 7 0 8), some (vr 7 0 9), some (vi x10), some (vi x11), some (vi x12), some (vi x13), none, some (vi x15)] [] O =
(ex d 135 0 [some (vr 7 0 8), some (vr 7 0 7), some (vi x10), some (vr 7 0 2), some (vr 7 0 4), some (vr 7 0 5)] [] O).bind fun r0 =>
(ex d 108 0 [some (vr 6 0 0), some (vi (nI 4))] [] r0.2).bind fun r1 =>
if r1.1 = x10 then
(if nI 0 < x10 then
((ex d 79 0 [some (vr 6 0 0), some (vi (x10 - (nI 1))), some (vi (nI 0))] [] r1.2).bind fun r2 =>
if ib (((nI 3) * x10) - (nI 3)) 60 then
(if r2.1 = (r2.2 7 0 7 (Int32.toNatClampNeg (((nI 3) * x10) - (nI 3)))) then
((ex d 79 0 [some (vr 6 0 0), some (vi (x10 - (nI 1))), some (vi (nI 1))] [] r2.2).bind fun r3 =>
if ib (((nI 3) * x10) - (nI 2)) 60 then
(if r3.1 = (r3.2 7 0 7 (Int32.toNatClampNeg (((nI 3) * x10) - (nI 2)))) then
((ex d 79 0 [some (vr 6 0 0), some (vi (x10 - (nI 1))), some (vi (nI 2))] [] r3.2).bind fun r4 =>
if ib (((nI 3) * x10) - (nI 1)) 60 then
(if r4.1 = (r4.2 7 0 7 (Int32.toNatClampNeg (((nI 3) * x10) - (nI 1)))) then
(ex (d + 1) 218 813 [some (vr 8 0 0), some (vr 6 0 0), none, some (vr 7 0 2), some (vr 7 0 3), some (vr 7 0 4), some (vr 7 0 5), some (vr 7 0 7), some (vr 7 0 8), some (vr 7 0 9), some (vi x10), some (vi x11), some (vi x12), some (vi x13), none, some (vi x15)] [] r4.2)
else
(some ((nI 0), r4.2)))
else none)
else
(some ((nI 0), r3.2)))
else none)
else
(some ((nI 0), r2.2)))
else none)
else
(ex (d + 1) 218 813 [some (vr 8 0 0), some (vr 6 0 0), none, some (vr 7 0 2), some (vr 7 0 3), some (vr 7 0 4), some (vr 7 0 5), some (vr 7 0 7), some (vr 7 0 8), some (vr 7 0 9), some (vi x10), some (vi x11), some (vi x12), some (vi x13), none, some (vi x15)] [] r1.2))
else
(some ((nI 0), r1.2)) := (ex_un d 218 300 721 [some (vr 8 0 0), some (vr 6 0 0), none, some (vr 7 0 2), some (vr 7 0 3), some (vr 7 0 4), some (vr 7 0 5), some (vr 7 0 7), some (vr 7 0 8), some (vr 7 0 9), some (vi x10), some (vi x11), some (vi x12), some (vi x13), none, some (vi x15)] [] O).trans rfl
set_option maxRecDepth 100000 in
theorem sL_law_813 (d : Nat) (O : Mem_) (x10 : Int32) (x11 : Int32) (x12 : Int32) (x13 : Int32) (x15 : Int32) : ex (d + 1) 218 813 [some (vr 8 0 0), some (vr 6 0 0), none, some (vr 7 0 2), some (vr 7 0 3), some (vr 7 0 4), some (vr 7 0 5), some (vr 7 0 7), some (vr 7 0 8), some (vr 7 0 9), some (vi x10), some (vi x11), some (vi x12), some (vi x13), none, some (vi x15)] [] O =
(ex d 79 0 [some (vr 6 0 0), some (vi x10), some (vi (nI 0))] [] O).bind fun r0 =>
if r0.1 = (-1) then
(if ib (nI 3) 4 then
((ex d 122 0 [some (vi (x13 >>> ((nI 10) &&& (31:Int32)))), some (vi ((nI 1) <<< ((r0.2 7 0 5 (Int32.toNatClampNeg (nI 3))) &&& (31:Int32))))] [] r0.2).bind fun r1 =>
ex (d + 1) 218 848 [some (vr 8 0 0), some (vr 6 0 0), none, some (vr 7 0 2), some (vr 7 0 3), some (vr 7 0 4), some (vr 7 0 5), some (vr 7 0 7), some (vr 7 0 8), some (vr 7 0 9), some (vi x10), some (vi x11), some (vi x12), none, none, some (vi x15), none, some (vi r1.1), some (vi (nI 0)), some (vi (nI 0))] [] r1.2)
else none)
else
(some ((nI 0), r0.2)) := (ex_un d 218 300 813 [some (vr 8 0 0), some (vr 6 0 0), none, some (vr 7 0 2), some (vr 7 0 3), some (vr 7 0 4), some (vr 7 0 5), some (vr 7 0 7), some (vr 7 0 8), some (vr 7 0 9), some (vi x10), some (vi x11), some (vi x12), some (vi x13), none, some (vi x15)] [] O).trans rfl
set_option maxRecDepth 100000 in
theorem sL_law_848 (d : Nat) (O : Mem_) (x10 : Int32) (x11 : Int32) (x12 : Int32) (x15 : Int32) (x17 : Int32) (x18 : Int32) (x19 : Int32) : ex (d + 1) 218 848 [some (vr 8 0 0), some (vr 6 0 0), none, some (vr 7 0 2), some (vr 7 0 3), some (vr 7 0 4), some (vr 7 0 5), some (vr 7 0 7), some (vr 7 0 8), some (vr 7 0 9), some (vi x10), some (vi x11), some (vi x12), none, none, some (vi x15), none, some (vi x17), some (vi x18), some (vi x19)] [] O =
if ib (nI 2) 4 then
(if x19 < (O 7 0 5 (Int32.toNatClampNeg (nI 2))) then
((ex d 133 0 [some (vr 7 0 7), some (vi x10), some (vr 7 0 2), some (vr 7 0 5), some (vi x19)] [] O).bind fun r0 =>
ex (d + 1) 218 883 [some (vr 8 0 0), some (vr 6 0 0), none, some (vr 7 0 2), some (vr 7 0 3), some (vr 7 0 4), some (vr 7 0 5), some (vr 7 0 7), some (vr 7 0 8), some (vr 7 0 9), some (vi x10), some (vi x11), some (vi x12), none, none, some (vi x15), none, some (vi x17), some (vi x18), some (vi x19), some (vi r0.1), some (vi (nI 1)), some (vi (nI 0)), some (vi (nI 0)), some (vi (nI 0))] [] r0.2)
else
((ex d 85 0 [some (vr 6 0 0), some (vi x17)] [] O).bind fun r1 =>
if r1.1 = x18 then
(ex (d + 1) 218 330 [some (vr 8 0 0), some (vr 6 0 0), none, some (vr 7 0 2), some (vr 7 0 3), some (vr 7 0 4), some (vr 7 0 5), some (vr 7 0 7), some (vr 7 0 8), some (vr 7 0 9), some (vi x10), some (vi x11), some (vi (x12 + (nI 1)))] [] r1.2)
else
(some ((nI 0), r1.2))))
else none := (ex_un d 218 300 848 [some (vr 8 0 0), some (vr 6 0 0), none, some (vr 7 0 2), some (vr 7 0 3), some (vr 7 0 4), some (vr 7 0 5), some (vr 7 0 7), some (vr 7 0 8), some (vr 7 0 9), some (vi x10), some (vi x11), some (vi x12), none, none, some (vi x15), none, some (vi x17), some (vi x18), some (vi x19)] [] O).trans rfl
set_option maxRecDepth 100000 in
theorem sL_law_883 (d : Nat) (O : Mem_) (x10 : Int32) (x11 : Int32) (x12 : Int32) (x15 : Int32) (x17 : Int32) (x18 : Int32) (x19 : Int32) (x20 : Int32) (x21 : Int32) (x22 : Int32) (x23 : Int32) (x24 : Int32) : ex (d + 1) 218 883 [some (vr 8 0 0), some (vr 6 0 0), none, some (vr 7 0 2), some (vr 7 0 3), some (vr 7 0 4), some (vr 7 0 5), some (vr 7 0 7), some (vr 7 0 8), some (vr 7 0 9), some (vi x10), some (vi x11), some (vi x12), none, none, some (vi x15), none, some (vi x17), some (vi x18), some (vi x19), some (vi x20), some (vi x21), some (vi x22), some (vi x23), some (vi x24)] [] O =
if ib (nI 3) 4 then
(if x24 < (O 7 0 5 (Int32.toNatClampNeg (nI 3))) then
((ex d 134 0 [some (vr 7 0 8), some (vr 7 0 2), some (vr 7 0 3), some (vi x24), some (vi x19)] [] O).bind fun r0 =>
if x21 = nI 0 then
(ex (d + 1) 218 931 [some (vr 8 0 0), some (vr 6 0 0), none, some (vr 7 0 2), some (vr 7 0 3), some (vr 7 0 4), some (vr 7 0 5), some (vr 7 0 7), some (vr 7 0 8), some (vr 7 0 9), some (vi x10), some (vi x11), some (vi x12), none, none, some (vi x15), none, some (vi x17), some (vi x18), some (vi x19), some (vi x20), none, some (vi x22), some (vi x23), some (vi x24), some (vi r0.1)] [vi (nI 0)] r0.2)
else
(if ((x17 >>> (x24 &&& (31:Int32))) &&& (nI 1)) = nI 0 then
(ex (d + 1) 218 931 [some (vr 8 0 0), some (vr 6 0 0), none, some (vr 7 0 2), some (vr 7 0 3), some (vr 7 0 4), some (vr 7 0 5), some (vr 7 0 7), some (vr 7 0 8), some (vr 7 0 9), some (vi x10), some (vi x11), some (vi x12), none, none, some (vi x15), none, some (vi x17), some (vi x18), some (vi x19), some (vi x20), none, some (vi x22), some (vi x23), some (vi x24), some (vi r0.1)] [vi (nI 1)] r0.2)
else
(if r0.1 = nI 0 then
(ex (d + 1) 218 931 [some (vr 8 0 0), some (vr 6 0 0), none, some (vr 7 0 2), some (vr 7 0 3), some (vr 7 0 4), some (vr 7 0 5), some (vr 7 0 7), some (vr 7 0 8), some (vr 7 0 9), some (vi x10), some (vi x11), some (vi x12), none, none, some (vi x15), none, some (vi x17), some (vi x18), some (vi x19), some (vi x20), none, some (vi x22), some (vi x23), some (vi x24), some (vi r0.1)] [vi (nI 0)] r0.2)
else
(ex (d + 1) 218 931 [some (vr 8 0 0), some (vr 6 0 0), none, some (vr 7 0 2), some (vr 7 0 3), some (vr 7 0 4), some (vr 7 0 5), some (vr 7 0 7), some (vr 7 0 8), some (vr 7 0 9), some (vi x10), some (vi x11), some (vi x12), none, none, some (vi x15), none, some (vi x17), some (vi x18), some (vi x19), some (vi x20), none, some (vi x22), some (vi x23), some (vi x24), some (vi r0.1)] [vi (nI 1)] r0.2))))
else
(if x21 = nI 0 then
(ex (d + 1) 218 1191 [some (vr 8 0 0), some (vr 6 0 0), none, some (vr 7 0 2), some (vr 7 0 3), some (vr 7 0 4), some (vr 7 0 5), some (vr 7 0 7), some (vr 7 0 8), some (vr 7 0 9), some (vi x10), some (vi x11), some (vi x12), none, none, some (vi x15), none, some (vi x17), none, some (vi x19), none, none, some (vi x22), some (vi x23)] [vi (nI 0), vi x18] O)
else
(ex (d + 1) 218 1191 [some (vr 8 0 0), some (vr 6 0 0), none, some (vr 7 0 2), some (vr 7 0 3), some (vr 7 0 4), some (vr 7 0 5), some (vr 7 0 7), some (vr 7 0 8), some (vr 7 0 9), some (vi x10), some (vi x11), some (vi x12), none, none, some (vi x15), none, some (vi x17), none, some (vi x19), none, none, some (vi x22), some (vi x23)] [vi ((nI 1) <<< (x19 &&& (31:Int32))), vi x18] O)))
else none := (ex_un d 218 300 883 [some (vr 8 0 0), some (vr 6 0 0), none, some (vr 7 0 2), some (vr 7 0 3), some (vr 7 0 4), some (vr 7 0 5), some (vr 7 0 7), some (vr 7 0 8), some (vr 7 0 9), some (vi x10), some (vi x11), some (vi x12), none, none, some (vi x15), none, some (vi x17), some (vi x18), some (vi x19), some (vi x20), some (vi x21), some (vi x22), some (vi x23), some (vi x24)] [] O).trans rfl
set_option maxRecDepth 100000 in
theorem sL_law_931 (d : Nat) (O : Mem_) (x10 : Int32) (x11 : Int32) (x12 : Int32) (x15 : Int32) (x17 : Int32) (x18 : Int32) (x19 : Int32) (x20 : Int32) (x22 : Int32) (x23 : Int32) (x24 : Int32) (x25 : Int32) (y0 : Int32) : ex (d + 1) 218 931 [some (vr 8 0 0), some (vr 6 0 0), none, some (vr 7 0 2), some (vr 7 0 3), some (vr 7 0 4), some (vr 7 0 5), some (vr 7 0 7), some (vr 7 0 8), some (vr 7 0 9), some (vi x10), some (vi x11), some (vi x12), none, none, some (vi x15), none, some (vi x17), some (vi x18), some (vi x19), some (vi x20), none, some (vi x22), some (vi x23), some (vi x24), some (vi x25)] [vi y0] O =
if x25 = nI 0 then
(ex (d + 1) 218 954 [some (vr 8 0 0), some (vr 6 0 0), none, some (vr 7 0 2), some (vr 7 0 3), some (vr 7 0 4), some (vr 7 0 5), some (vr 7 0 7), some (vr 7 0 8), some (vr 7 0 9), some (vi x10), some (vi x11), some (vi x12), none, none, some (vi x15), none, some (vi x17), some (vi x18), some (vi x19), some (vi x20), some (vi y0), none, some (vi x23), some (vi x24), some (vi x25)] [vi (nI 0), vi x22] O)
else
(if ib (((nI 6) * x24) + (nI 4)) 24 then
(ex (d + 1) 218 954 [some (vr 8 0 0), some (vr 6 0 0), none, some (vr 7 0 2), some (vr 7 0 3), some (vr 7 0 4), some (vr 7 0 5), some (vr 7 0 7), some (vr 7 0 8), some (vr 7 0 9), some (vi x10), some (vi x11), some (vi x12), none, none, some (vi x15), none, some (vi x17), some (vi x18), some (vi x19), some (vi x20), some (vi y0), none, some (vi x23), some (vi x24), some (vi x25)] [vi (O 7 0 4 (Int32.toNatClampNeg (((nI 6) * x24) + (nI 4)))), vi x22] O)
else none) := (ex_un d 218 300 931 [some (vr 8 0 0), some (vr 6 0 0), none, some (vr 7 0 2), some (vr 7 0 3), some (vr 7 0 4), some (vr 7 0 5), some (vr 7 0 7), some (vr 7 0 8), some (vr 7 0 9), some (vi x10), some (vi x11), some (vi x12), none, none, some (vi x15), none, some (vi x17), some (vi x18), some (vi x19), some (vi x20), none, some (vi x22), some (vi x23), some (vi x24), some (vi x25)] [vi y0] O).trans rfl
set_option maxRecDepth 100000 in
theorem sL_law_954 (d : Nat) (O : Mem_) (x10 : Int32) (x11 : Int32) (x12 : Int32) (x15 : Int32) (x17 : Int32) (x18 : Int32) (x19 : Int32) (x20 : Int32) (x21 : Int32) (x23 : Int32) (x24 : Int32) (x25 : Int32) (y0 : Int32) (y1 : Int32) : ex (d + 1) 218 954 [some (vr 8 0 0), some (vr 6 0 0), none, some (vr 7 0 2), some (vr 7 0 3), some (vr 7 0 4), some (vr 7 0 5), some (vr 7 0 7), some (vr 7 0 8), some (vr 7 0 9), some (vi x10), some (vi x11), some (vi x12), none, none, some (vi x15), none, some (vi x17), some (vi x18), some (vi x19), some (vi x20), some (vi x21), none, some (vi x23), some (vi x24), some (vi x25)] [vi y0, vi y1] O =
if ib (((nI 6) * x24) + (nI 4)) 24 then
(if ib (((nI 10) * x24) + x19) 40 then
(if (O 7 0 8 (Int32.toNatClampNeg (((nI 10) * x24) + x19))) < nI 0 then
(ex (d + 1) 218 1008 [some (vr 8 0 0), some (vr 6 0 0), none, some (vr 7 0 2), some (vr 7 0 3), some (vr 7 0 4), some (vr 7 0 5), some (vr 7 0 7), some (vr 7 0 8), some (vr 7 0 9), some (vi x10), some (vi x11), some (vi x12), none, none, some (vi x15), none, some (vi x17), some (vi x18), some (vi x19), some (vi x20), some (vi x21), some (vi (y1 + y0)), some (vi (x23 + (O 7 0 4 (Int32.toNatClampNeg (((nI 6) * x24) + (nI 4)))))), some (vi x24), some (vi x25), some (vi (O 7 0 8 (Int32.toNatClampNeg (((nI 10) * x24) + x19))))] [vi (oI none)] O)
else
(if ib (((nI 3) * (O 7 0 8 (Int32.toNatClampNeg (((nI 10) * x24) + x19)))) + (nI 2)) 24 then
(ex (d + 1) 218 1008 [some (vr 8 0 0), some (vr 6 0 0), none, some (vr 7 0 2), some (vr 7 0 3), some (vr 7 0 4), some (vr 7 0 5), some (vr 7 0 7), some (vr 7 0 8), some (vr 7 0 9), some (vi x10), some (vi x11), some (vi x12), none, none, some (vi x15), none, some (vi x17), some (vi x18), some (vi x19), some (vi x20), some (vi x21), some (vi (y1 + y0)), some (vi (x23 + (O 7 0 4 (Int32.toNatClampNeg (((nI 6) * x24) + (nI 4)))))), some (vi x24), some (vi x25), some (vi (O 7 0 8 (Int32.toNatClampNeg (((nI 10) * x24) + x19))))] [vi (((O 7 0 2 (Int32.toNatClampNeg (((nI 3) * (O 7 0 8 (Int32.toNatClampNeg (((nI 10) * x24) + x19)))) + (nI 2)))) >>> (x15 &&& (31:Int32))) &&& (nI 1))] O)
else none))
else none)
else none := (ex_un d 218 300 954 [some (vr 8 0 0), some (vr 6 0 0), none, some (vr 7 0 2), some (vr 7 0 3), some (vr 7 0 4), some (vr 7 0 5), some (vr 7 0 7), some (vr 7 0 8), some (vr 7 0 9), some (vi x10), some (vi x11), some (vi x12), none, none, some (vi x15), none, some (vi x17), some (vi x18), some (vi x19), some (vi x20), some (vi x21), none, some (vi x23), some (vi x24), some (vi x25)] [vi y0, vi y1] O).trans rfl
set_option maxRecDepth 100000 in
theorem sL_law_1008 (d : Nat) (O : Mem_) (x10 : Int32) (x11 : Int32) (x12 : Int32) (x15 : Int32) (x17 : Int32) (x18 : Int32) (x19 : Int32) (x20 : Int32) (x21 : Int32) (x22 : Int32) (x23 : Int32) (x24 : Int32) (x25 : Int32) (x26 : Int32) (y0 : Int32) : ex (d + 1) 218 1008 [some (vr 8 0 0), some (vr 6 0 0), none, some (vr 7 0 2), some (vr 7 0 3), some (vr 7 0 4), some (vr 7 0 5), some (vr 7 0 7), some (vr 7 0 8), some (vr 7 0 9), some (vi x10), some (vi x11), some (vi x12), none, none, some (vi x15), none, some (vi x17), some (vi x18), some (vi x19), some (vi x20), some (vi x21), some (vi x22), some (vi x23), some (vi x24), some (vi x25), some (vi x26)] [vi y0] O =
(ex d 80 0 [some (vr 6 0 0), some (vi x24), some (vi x19)] [] O).bind fun r0 =>
if r0.1 = x26 then
((ex d 84 0 [some (vr 6 0 0), some (vi x24), some (vi x19)] [] r0.2).bind fun r1 =>
if ib ((((nI 10) * x24) + (nI 4)) + x19) 40 then
(if r1.1 = (r1.2 7 0 8 (Int32.toNatClampNeg ((((nI 10) * x24) + (nI 4)) + x19))) then
((ex d 82 0 [some (vr 6 0 0), some (vi x24), some (vi x19)] [] r1.2).bind fun r2 =>
if x25 = nI 0 then
(ex (d + 1) 218 1065 [some (vr 8 0 0), some (vr 6 0 0), none, some (vr 7 0 2), some (vr 7 0 3), some (vr 7 0 4), some (vr 7 0 5), some (vr 7 0 7), some (vr 7 0 8), some (vr 7 0 9), some (vi x10), some (vi x11), some (vi x12), none, none, some (vi x15), none, some (vi x17), some (vi x18), some (vi x19), some (vi x20), some (vi x21), some (vi x22), some (vi x23), some (vi x24), none, some (vi x26), some (vi y0)] [vi (nI 0), vi r2.1] r2.2)
else
(ex (d + 1) 218 1065 [some (vr 8 0 0), some (vr 6 0 0), none, some (vr 7 0 2), some (vr 7 0 3), some (vr 7 0 4), some (vr 7 0 5), some (vr 7 0 7), some (vr 7 0 8), some (vr 7 0 9), some (vi x10), some (vi x11), some (vi x12), none, none, some (vi x15), none, some (vi x17), some (vi x18), some (vi x19), some (vi x20), some (vi x21), some (vi x22), some (vi x23), some (vi x24), none, some (vi x26), some (vi y0)] [vi (nI 1), vi r2.1] r2.2))
else
(some ((nI 0), r1.2)))
else none)
else
(some ((nI 0), r0.2)) := (ex_un d 218 300 1008 [some (vr 8 0 0), some (vr 6 0 0), none, some (vr 7 0 2), some (vr 7 0 3), some (vr 7 0 4), some (vr 7 0 5), some (vr 7 0 7), some (vr 7 0 8), some (vr 7 0 9), some (vi x10), some (vi x11), some (vi x12), none, none, some (vi x15), none, some (vi x17), some (vi x18), some (vi x19), some (vi x20), some (vi x21), some (vi x22), some (vi x23), some (vi x24), some (vi x25), some (vi x26)] [vi y0] O).trans rfl
set_option maxRecDepth 100000 in
theorem sL_law_1065 (d : Nat) (O : Mem_) (x10 : Int32) (x11 : Int32) (x12 : Int32) (x15 : Int32) (x17 : Int32) (x18 : Int32) (x19 : Int32) (x20 : Int32) (x21 : Int32) (x22 : Int32) (x23 : Int32) (x24 : Int32) (x26 : Int32) (x27 : Int32) (y0 : Int32) (y1 : Int32) : ex (d + 1) 218 1065 [some (vr 8 0 0), some (vr 6 0 0), none, some (vr 7 0 2), some (vr 7 0 3), some (vr 7 0 4), some (vr 7 0 5), some (vr 7 0 7), some (vr 7 0 8), some (vr 7 0 9), some (vi x10), some (vi x11), some (vi x12), none, none, some (vi x15), none, some (vi x17), some (vi x18), some (vi x19), some (vi x20), some (vi x21), some (vi x22), some (vi x23), some (vi x24), none, some (vi x26), some (vi x27)] [vi y0, vi y1] O =
if y1 = y0 then
((ex d 81 0 [some (vr 6 0 0), some (vi x24), some (vi x19)] [] O).bind fun r0 =>
if ib (((nI 6) * x24) + (nI 5)) 24 then
(if r0.1 = (x20 &&& (r0.2 7 0 4 (Int32.toNatClampNeg (((nI 6) * x24) + (nI 5))))) then
((ex d 83 0 [some (vr 6 0 0), some (vi x24)] [] r0.2).bind fun r1 =>
if ib (((nI 10) * x24) + (nI 9)) 40 then
(if r1.1 = (r1.2 7 0 8 (Int32.toNatClampNeg (((nI 10) * x24) + (nI 9)))) then
((ex d 91 0 [some (vr 6 0 0), some (vi x24), some (vi x19), some (vi x15)] [] r1.2).bind fun r2 =>
if r2.1 = x27 then
(if ib ((nI 6) * x24) 24 then
(if (r2.2 7 0 4 (Int32.toNatClampNeg ((nI 6) * x24))) = (nI 3) then
(ex (d + 1) 218 883 [some (vr 8 0 0), some (vr 6 0 0), none, some (vr 7 0 2), some (vr 7 0 3), some (vr 7 0 4), some (vr 7 0 5), some (vr 7 0 7), some (vr 7 0 8), some (vr 7 0 9), some (vi x10), some (vi x11), some (vi x12), none, none, some (vi x15), none, some (vi x17), some (vi x18), some (vi x19), some (vi x20), some (vi x21), some (vi x22), some (vi x23), some (vi (x24 + (nI 1)))] [] r2.2)
else
(if x26 < nI 0 then
(ex (d + 1) 218 883 [some (vr 8 0 0), some (vr 6 0 0), none, some (vr 7 0 2), some (vr 7 0 3), some (vr 7 0 4), some (vr 7 0 5), some (vr 7 0 7), some (vr 7 0 8), some (vr 7 0 9), some (vi x10), some (vi x11), some (vi x12), none, none, some (vi x15), none, some (vi x17), some (vi x18), some (vi x19), some (vi x20), some (vi x21), some (vi x22), some (vi x23), some (vi (x24 + (nI 1)))] [] r2.2)
else
(if ib (((nI 10) * x24) + (nI 9)) 40 then
(if (r2.2 7 0 8 (Int32.toNatClampNeg (((nI 10) * x24) + (nI 9)))) < nI 0 then
(if ((x20 >>> (x26 &&& (31:Int32))) &&& (nI 1)) = nI 0 then
(some ((nI 0), r2.2))
else
(ex (d + 1) 218 883 [some (vr 8 0 0), some (vr 6 0 0), none, some (vr 7 0 2), some (vr 7 0 3), some (vr 7 0 4), some (vr 7 0 5), some (vr 7 0 7), some (vr 7 0 8), some (vr 7 0 9), some (vi x10), some (vi x11), some (vi x12), none, none, some (vi x15), none, some (vi x17), some (vi x18), some (vi x19), some (vi x20), some (vi x21), some (vi x22), some (vi x23), some (vi (x24 + (nI 1)))] [] r2.2))
else
(ex (d + 1) 218 883 [some (vr 8 0 0), some (vr 6 0 0), none, some (vr 7 0 2), some (vr 7 0 3), some (vr 7 0 4), some (vr 7 0 5), some (vr 7 0 7), some (vr 7 0 8), some (vr 7 0 9), some (vi x10), some (vi x11), some (vi x12), none, none, some (vi x15), none, some (vi x17), some (vi x18), some (vi x19), some (vi x20), some (vi x21), some (vi x22), some (vi x23), some (vi (x24 + (nI 1)))] [] r2.2))
else none)))
else none)
else
(some ((nI 0), r2.2)))
else
(some ((nI 0), r1.2)))
else none)
else
(some ((nI 0), r0.2)))
else none)
else
(some ((nI 0), O)) := (ex_un d 218 300 1065 [some (vr 8 0 0), some (vr 6 0 0), none, some (vr 7 0 2), some (vr 7 0 3), some (vr 7 0 4), some (vr 7 0 5), some (vr 7 0 7), some (vr 7 0 8), some (vr 7 0 9), some (vi x10), some (vi x11), some (vi x12), none, none, some (vi x15), none, some (vi x17), some (vi x18), some (vi x19), some (vi x20), some (vi x21), some (vi x22), some (vi x23), some (vi x24), none, some (vi x26), some (vi x27)] [vi y0, vi y1] O).trans rfl
set_option maxRecDepth 100000 in
theorem sL_law_1191 (d : Nat) (O : Mem_) (x10 : Int32) (x11 : Int32) (x12 : Int32) (x15 : Int32) (x17 : Int32) (x19 : Int32) (x22 : Int32) (x23 : Int32) (y0 : Int32) (y1 : Int32) : ex (d + 1) 218 1191 [some (vr 8 0 0), some (vr 6 0 0), none, some (vr 7 0 2), some (vr 7 0 3), some (vr 7 0 4), some (vr 7 0 5), some (vr 7 0 7), some (vr 7 0 8), some (vr 7 0 9), some (vi x10), some (vi x11), some (vi x12), none, none, some (vi x15), none, some (vi x17), none, some (vi x19), none, none, some (vi x22), some (vi x23)] [vi y0, vi y1] O =
(ex d 96 0 [some (vr 6 0 0), some (vi x19), some (vi (nI 0))] [] O).bind fun r0 =>
(ex d 96 0 [some (vr 6 0 0), some (vi x19), some (vi (nI 1))] [] r0.2).bind fun r1 =>
if x23 = nI 0 then
(if r0.1 = (oI none) then
(if r1.1 = (oI none) then
(ex (d + 1) 218 848 [some (vr 8 0 0), some (vr 6 0 0), none, some (vr 7 0 2), some (vr 7 0 3), some (vr 7 0 4), some (vr 7 0 5), some (vr 7 0 7), some (vr 7 0 8), some (vr 7 0 9), some (vi x10), some (vi x11), some (vi x12), none, none, some (vi x15), none, some (vi x17), some (vi (y1 ||| y0)), some (vi (x19 + (nI 1)))] [] r1.2)
else
(some ((nI 0), r1.2)))
else
(some ((nI 0), r1.2)))
else
(if r1.1 < (nI 1) then
(some ((nI 0), r1.2))
else
(if (r0.1 * x23) = (x22 * r1.1) then
(if r0.1 = nI 0 then
(if r1.1 = (nI 1) then
(ex (d + 1) 218 1264 [some (vr 8 0 0), some (vr 6 0 0), none, some (vr 7 0 2), some (vr 7 0 3), some (vr 7 0 4), some (vr 7 0 5), some (vr 7 0 7), some (vr 7 0 8), some (vr 7 0 9), some (vi x10), some (vi x11), some (vi x12), none, none, some (vi x15), none, some (vi x17), some (vi (y1 ||| y0)), some (vi x19), none, none, some (vi x22), some (vi x23), some (vi r0.1), some (vi r1.1)] [] r1.2)
else
(some ((nI 0), r1.2)))
else
(ex (d + 1) 218 1264 [some (vr 8 0 0), some (vr 6 0 0), none, some (vr 7 0 2), some (vr 7 0 3), some (vr 7 0 4), some (vr 7 0 5), some (vr 7 0 7), some (vr 7 0 8), some (vr 7 0 9), some (vi x10), some (vi x11), some (vi x12), none, none, some (vi x15), none, some (vi x17), some (vi (y1 ||| y0)), some (vi x19), none, none, some (vi x22), some (vi x23), some (vi r0.1), some (vi r1.1)] [] r1.2))
else
(some ((nI 0), r1.2)))) := (ex_un d 218 300 1191 [some (vr 8 0 0), some (vr 6 0 0), none, some (vr 7 0 2), some (vr 7 0 3), some (vr 7 0 4), some (vr 7 0 5), some (vr 7 0 7), some (vr 7 0 8), some (vr 7 0 9), some (vi x10), some (vi x11), some (vi x12), none, none, some (vi x15), none, some (vi x17), none, some (vi x19), none, none, some (vi x22), some (vi x23)] [vi y0, vi y1] O).trans rfl
set_option maxRecDepth 100000 in
theorem sL_law_1264 (d : Nat) (O : Mem_) (x10 : Int32) (x11 : Int32) (x12 : Int32) (x15 : Int32) (x17 : Int32) (x18 : Int32) (x19 : Int32) (x22 : Int32) (x23 : Int32) (x24 : Int32) (x25 : Int32) : ex (d + 1) 218 1264 [some (vr 8 0 0), some (vr 6 0 0), none, some (vr 7 0 2), some (vr 7 0 3), some (vr 7 0 4), some (vr 7 0 5), some (vr 7 0 7), some (vr 7 0 8), some (vr 7 0 9), some (vi x10), some (vi x11), some (vi x12), none, none, some (vi x15), none, some (vi x17), some (vi x18), some (vi x19), none, none, some (vi x22), some (vi x23), some (vi x24), some (vi x25)] [] O =
if x22 < x24 then
(some ((nI 0), O))
else
(if x23 < x25 then
(some ((nI 0), O))
else
(ex (d + 1) 218 848 [some (vr 8 0 0), some (vr 6 0 0), none, some (vr 7 0 2), some (vr 7 0 3), some (vr 7 0 4), some (vr 7 0 5), some (vr 7 0 7), some (vr 7 0 8), some (vr 7 0 9), some (vi x10), some (vi x11), some (vi x12), none, none, some (vi x15), none, some (vi x17), some (vi x18), some (vi (x19 + (nI 1)))] [] O)) := (ex_un d 218 300 1264 [some (vr 8 0 0), some (vr 6 0 0), none, some (vr 7 0 2), some (vr 7 0 3), some (vr 7 0 4), some (vr 7 0 5), some (vr 7 0 7), some (vr 7 0 8), some (vr 7 0 9), some (vi x10), some (vi x11), some (vi x12), none, none, some (vi x15), none, some (vi x17), some (vi x18), some (vi x19), none, none, some (vi x22), some (vi x23), some (vi x24), some (vi x25)] [] O).trans rfl
