set_option maxRecDepth 100000 in
theorem sL_cell_0 (d : Nat) (O : Mem_) (x1 : Int32) : ex (d + 1) 121 0 [some (vr 8 0 0), some (vi x1)] [] O =
if x1 < (O 8 0 1 0) then
(if ib x1 (O 8 0 1 0).toNatClampNeg then
(some ((O 8 0 0 (Int32.toNatClampNeg x1)), O))
else none)
else
(some ((((nI 15485863) * x1) + (nI 32452843)), O)) := (ex_un d 121 300 0 [some (vr 8 0 0), some (vi x1)] [] O).trans rfl
set_option maxRecDepth 100000 in
theorem sL_low_0 (d : Nat) (O : Mem_) (x0 : Int32) (x1 : Int32) : ex (d + 1) 122 0 [some (vi x0), some (vi x1)] [] O =
if x1 = nI 0 then none else some (((x0 &&& (nI 2147483647)) - (x0 &&& (nI 2147483647)) / x1 * x1), O) := (ex_un d 122 300 0 [some (vi x0), some (vi x1)] [] O).trans rfl
set_option maxRecDepth 100000 in
theorem sL_put_0 (d : Nat) (O : Mem_) (x2 : Int32) : ex (d + 1) 123 0 [some (vr 6 0 0), some (vr 7 0 6), some (vi x2)] [] O =
if ib (nI 0) 3 then
(if ib (nI 0) 3 then
(if ib (nI 1) 3 then
(if ib (nI 1) 3 then
(if ib (nI 1) 3 then
(if (8) = 0 then none else if (lg_cmp ((rdL (upL (upL O 7 0 6 (Int32.toNatClampNeg (nI 0)) (((rdL O 7 0 6 (Int32.toNatClampNeg (nI 0))) <<< (Int32.toInt64 (nI 8) &&& 63)) ||| (Int32.toInt64 x2))) 7 0 6 (Int32.toNatClampNeg (nI 1)) ((rdL (upL O 7 0 6 (Int32.toNatClampNeg (nI 0)) (((rdL O 7 0 6 (Int32.toNatClampNeg (nI 0))) <<< (Int32.toInt64 (nI 8) &&& 63)) ||| (Int32.toInt64 x2))) 7 0 6 (Int32.toNatClampNeg (nI 1))) + 1)) 7 0 6 (Int32.toNatClampNeg (nI 1))) - (rdL (upL (upL O 7 0 6 (Int32.toNatClampNeg (nI 0)) (((rdL O 7 0 6 (Int32.toNatClampNeg (nI 0))) <<< (Int32.toInt64 (nI 8) &&& 63)) ||| (Int32.toInt64 x2))) 7 0 6 (Int32.toNatClampNeg (nI 1)) ((rdL (upL O 7 0 6 (Int32.toNatClampNeg (nI 0)) (((rdL O 7 0 6 (Int32.toNatClampNeg (nI 0))) <<< (Int32.toInt64 (nI 8) &&& 63)) ||| (Int32.toInt64 x2))) 7 0 6 (Int32.toNatClampNeg (nI 1))) + 1)) 7 0 6 (Int32.toNatClampNeg (nI 1))) / (8) * (8)) 0) = nI 0 then
(if ib (nI 2) 3 then
(if ib (nI 0) 3 then
((ex d 67 0 [some (vr 6 0 0), some (vl (rdL (upL (upL O 7 0 6 (Int32.toNatClampNeg (nI 0)) (((rdL O 7 0 6 (Int32.toNatClampNeg (nI 0))) <<< (Int32.toInt64 (nI 8) &&& 63)) ||| (Int32.toInt64 x2))) 7 0 6 (Int32.toNatClampNeg (nI 1)) ((rdL (upL O 7 0 6 (Int32.toNatClampNeg (nI 0)) (((rdL O 7 0 6 (Int32.toNatClampNeg (nI 0))) <<< (Int32.toInt64 (nI 8) &&& 63)) ||| (Int32.toInt64 x2))) 7 0 6 (Int32.toNatClampNeg (nI 1))) + 1)) 7 0 6 (Int32.toNatClampNeg (nI 0)))), none] [] (upL (upL O 7 0 6 (Int32.toNatClampNeg (nI 0)) (((rdL O 7 0 6 (Int32.toNatClampNeg (nI 0))) <<< (Int32.toInt64 (nI 8) &&& 63)) ||| (Int32.toInt64 x2))) 7 0 6 (Int32.toNatClampNeg (nI 1)) ((rdL (upL O 7 0 6 (Int32.toNatClampNeg (nI 0)) (((rdL O 7 0 6 (Int32.toNatClampNeg (nI 0))) <<< (Int32.toInt64 (nI 8) &&& 63)) ||| (Int32.toInt64 x2))) 7 0 6 (Int32.toNatClampNeg (nI 1))) + 1))).bind fun r0 =>
if r0.1 < nI 0 then
(if ib (nI 2) 3 then
(if ib (nI 0) 3 then
(some (nI 0, (upL (upL r0.2 7 0 6 (Int32.toNatClampNeg (nI 2)) ((rdL (upL (upL O 7 0 6 (Int32.toNatClampNeg (nI 0)) (((rdL O 7 0 6 (Int32.toNatClampNeg (nI 0))) <<< (Int32.toInt64 (nI 8) &&& 63)) ||| (Int32.toInt64 x2))) 7 0 6 (Int32.toNatClampNeg (nI 1)) ((rdL (upL O 7 0 6 (Int32.toNatClampNeg (nI 0)) (((rdL O 7 0 6 (Int32.toNatClampNeg (nI 0))) <<< (Int32.toInt64 (nI 8) &&& 63)) ||| (Int32.toInt64 x2))) 7 0 6 (Int32.toNatClampNeg (nI 1))) + 1)) 7 0 6 (Int32.toNatClampNeg (nI 2))) + 1)) 7 0 6 (Int32.toNatClampNeg (nI 0)) 0)))
else none)
else none)
else
(if ib (nI 2) 3 then
(if ib (nI 0) 3 then
(some (nI 0, (upL (upL r0.2 7 0 6 (Int32.toNatClampNeg (nI 2)) ((rdL (upL (upL O 7 0 6 (Int32.toNatClampNeg (nI 0)) (((rdL O 7 0 6 (Int32.toNatClampNeg (nI 0))) <<< (Int32.toInt64 (nI 8) &&& 63)) ||| (Int32.toInt64 x2))) 7 0 6 (Int32.toNatClampNeg (nI 1)) ((rdL (upL O 7 0 6 (Int32.toNatClampNeg (nI 0)) (((rdL O 7 0 6 (Int32.toNatClampNeg (nI 0))) <<< (Int32.toInt64 (nI 8) &&& 63)) ||| (Int32.toInt64 x2))) 7 0 6 (Int32.toNatClampNeg (nI 1))) + 1)) 7 0 6 (Int32.toNatClampNeg (nI 2))) + 0)) 7 0 6 (Int32.toNatClampNeg (nI 0)) 0)))
else none)
else none))
else none)
else none)
else
(some (nI 0, (upL (upL O 7 0 6 (Int32.toNatClampNeg (nI 0)) (((rdL O 7 0 6 (Int32.toNatClampNeg (nI 0))) <<< (Int32.toInt64 (nI 8) &&& 63)) ||| (Int32.toInt64 x2))) 7 0 6 (Int32.toNatClampNeg (nI 1)) ((rdL (upL O 7 0 6 (Int32.toNatClampNeg (nI 0)) (((rdL O 7 0 6 (Int32.toNatClampNeg (nI 0))) <<< (Int32.toInt64 (nI 8) &&& 63)) ||| (Int32.toInt64 x2))) 7 0 6 (Int32.toNatClampNeg (nI 1))) + 1)))))
else none)
else none)
else none)
else none)
else none := (ex_un d 123 300 0 [some (vr 6 0 0), some (vr 7 0 6), some (vi x2)] [] O).trans rfl
set_option maxRecDepth 100000 in
theorem sL_word_0 (d : Nat) (O : Mem_) (x2 : Int64) : ex (d + 1) 124 0 [some (vr 6 0 0), some (vr 7 0 6), some (vl x2), none] [] O =
ex (d + 1) 124 4 [some (vr 6 0 0), some (vr 7 0 6), some (vl x2), none, some (vi (nI 56))] [] O := (ex_un d 124 300 0 [some (vr 6 0 0), some (vr 7 0 6), some (vl x2), none] [] O).trans rfl
set_option maxRecDepth 100000 in
theorem sL_word_4 (d : Nat) (O : Mem_) (x2 : Int64) (x4 : Int32) : ex (d + 1) 124 4 [some (vr 6 0 0), some (vr 7 0 6), some (vl x2), none, some (vi x4)] [] O =
if x4 < nI 0 then
(some (nI 0, O))
else
(if nI 0 < ((Int64.toInt32 (x2 >>> (Int32.toInt64 x4 &&& 63))) &&& (nI 255)) then
((ex d 123 0 [some (vr 6 0 0), some (vr 7 0 6), some (vi ((Int64.toInt32 (x2 >>> (Int32.toInt64 x4 &&& 63))) &&& (nI 255)))] [] O).bind fun r0 =>
ex (d + 1) 124 4 [some (vr 6 0 0), some (vr 7 0 6), some (vl x2), none, some (vi (x4 + (-8)))] [] r0.2)
else
(ex (d + 1) 124 4 [some (vr 6 0 0), some (vr 7 0 6), some (vl x2), none, some (vi (x4 + (-8)))] [] O)) := (ex_un d 124 300 4 [some (vr 6 0 0), some (vr 7 0 6), some (vl x2), none, some (vi x4)] [] O).trans rfl
set_option maxRecDepth 100000 in
theorem sL_ended_0 (d : Nat) (O : Mem_)  : ex (d + 1) 125 0 [some (vr 6 0 0), some (vr 7 0 6)] [] O =
if ib (nI 1) 3 then
(ex (d + 1) 125 5 [some (vr 6 0 0), some (vr 7 0 6), some (vi (Int64.toInt32 (rdL O 7 0 6 (Int32.toNatClampNeg (nI 1)))))] [] O)
else none := (ex_un d 125 300 0 [some (vr 6 0 0), some (vr 7 0 6)] [] O).trans rfl
set_option maxRecDepth 100000 in
theorem sL_ended_5 (d : Nat) (O : Mem_) (x2 : Int32) : ex (d + 1) 125 5 [some (vr 6 0 0), some (vr 7 0 6), some (vi x2)] [] O =
if ib (nI 1) 3 then
(if (8) = 0 then none else if (lg_cmp ((rdL O 7 0 6 (Int32.toNatClampNeg (nI 1))) - (rdL O 7 0 6 (Int32.toNatClampNeg (nI 1))) / (8) * (8)) 0) = nI 0 then
(if ib (nI 1) 3 then
(if ib (nI 2) 3 then
(if (lg_cmp (rdL (upL O 7 0 6 (Int32.toNatClampNeg (nI 1)) 0) 7 0 6 (Int32.toNatClampNeg (nI 2))) 0) = nI 0 then
((ex d 68 0 [some (vr 6 0 0), some (vi x2)] [] (upL O 7 0 6 (Int32.toNatClampNeg (nI 1)) 0)).bind fun r0 =>
if r0.1 < x2 then
(some ((nI 0), r0.2))
else
(some ((nI 1), r0.2)))
else
(some ((nI 0), (upL O 7 0 6 (Int32.toNatClampNeg (nI 1)) 0))))
else none)
else none)
else
((ex d 123 0 [some (vr 6 0 0), some (vr 7 0 6), some (vi (nI 32))] [] O).bind fun r1 =>
ex (d + 1) 125 5 [some (vr 6 0 0), some (vr 7 0 6), some (vi x2)] [] r1.2))
else none := (ex_un d 125 300 5 [some (vr 6 0 0), some (vr 7 0 6), some (vi x2)] [] O).trans rfl
set_option maxRecDepth 100000 in
theorem sL_number_0 (d : Nat) (O : Mem_) (x2 : Int32) : ex (d + 1) 126 0 [some (vr 6 0 0), some (vr 7 0 6), some (vi x2)] [] O =
(ex d 123 0 [some (vr 6 0 0), some (vr 7 0 6), some (vi (nI 32))] [] O).bind fun r0 =>
if x2 < nI 0 then
((ex d 123 0 [some (vr 6 0 0), some (vr 7 0 6), some (vi (nI 45))] [] r0.2).bind fun r1 =>
ex (d + 1) 126 18 [some (vr 6 0 0), some (vr 7 0 6), some (vi x2)] [] r1.2)
else
(ex (d + 1) 126 18 [some (vr 6 0 0), some (vr 7 0 6), some (vi x2)] [] r0.2) := (ex_un d 126 300 0 [some (vr 6 0 0), some (vr 7 0 6), some (vi x2)] [] O).trans rfl
set_option maxRecDepth 100000 in
theorem sL_number_18 (d : Nat) (O : Mem_) (x2 : Int32) : ex (d + 1) 126 18 [some (vr 6 0 0), some (vr 7 0 6), some (vi x2)] [] O =
if x2 < nI 0 then
(ex (d + 1) 126 34 [some (vr 6 0 0), some (vr 7 0 6), none, some (vi (-x2)), some (vi (nI 1000))] [] O)
else
(ex (d + 1) 126 34 [some (vr 6 0 0), some (vr 7 0 6), none, some (vi x2), some (vi (nI 1000))] [] O) := (ex_un d 126 300 18 [some (vr 6 0 0), some (vr 7 0 6), some (vi x2)] [] O).trans rfl
set_option maxRecDepth 100000 in
theorem sL_number_34 (d : Nat) (O : Mem_) (x3 : Int32) (x4 : Int32) : ex (d + 1) 126 34 [some (vr 6 0 0), some (vr 7 0 6), none, some (vi x3), some (vi x4)] [] O =
if nI 0 < x4 then
(if x3 < x4 then
(if x4 = (nI 1) then
(ex (d + 1) 126 51 [some (vr 6 0 0), some (vr 7 0 6), none, some (vi x3), some (vi x4)] [] O)
else
(if (nI 10) = nI 0 then none else ex (d + 1) 126 34 [some (vr 6 0 0), some (vr 7 0 6), none, some (vi x3), some (vi (x4 / (nI 10)))] [] O))
else
(ex (d + 1) 126 51 [some (vr 6 0 0), some (vr 7 0 6), none, some (vi x3), some (vi x4)] [] O))
else
(some (nI 0, O)) := (ex_un d 126 300 34 [some (vr 6 0 0), some (vr 7 0 6), none, some (vi x3), some (vi x4)] [] O).trans rfl
set_option maxRecDepth 100000 in
theorem sL_number_51 (d : Nat) (O : Mem_) (x3 : Int32) (x4 : Int32) : ex (d + 1) 126 51 [some (vr 6 0 0), some (vr 7 0 6), none, some (vi x3), some (vi x4)] [] O =
if x4 = nI 0 then none else if (nI 10) = nI 0 then none else (ex d 123 0 [some (vr 6 0 0), some (vr 7 0 6), some (vi ((nI 48) + ((x3 / x4) - (x3 / x4) / (nI 10) * (nI 10))))] [] O).bind fun r0 =>
if (nI 10) = nI 0 then none else ex (d + 1) 126 34 [some (vr 6 0 0), some (vr 7 0 6), none, some (vi x3), some (vi (x4 / (nI 10)))] [] r0.2 := (ex_un d 126 300 51 [some (vr 6 0 0), some (vr 7 0 6), none, some (vi x3), some (vi x4)] [] O).trans rfl
set_option maxRecDepth 100000 in
theorem sL_ones_0 (d : Nat) (O : Mem_) (x0 : Int32) : ex (d + 1) 127 0 [some (vi x0)] [] O =
ex (d + 1) 127 4 [some (vi x0), some (vi (nI 0)), some (vi (nI 0))] [] O := (ex_un d 127 300 0 [some (vi x0)] [] O).trans rfl
set_option maxRecDepth 100000 in
theorem sL_ones_4 (d : Nat) (O : Mem_) (x0 : Int32) (x1 : Int32) (x2 : Int32) : ex (d + 1) 127 4 [some (vi x0), some (vi x1), some (vi x2)] [] O =
if x2 < (nI 12) then
(ex (d + 1) 127 4 [some (vi x0), some (vi (x1 + ((x0 >>> (x2 &&& (31:Int32))) &&& (nI 1)))), some (vi (x2 + (nI 1)))] [] O)
else
(some (x1, O)) := (ex_un d 127 300 4 [some (vi x0), some (vi x1), some (vi x2)] [] O).trans rfl
set_option maxRecDepth 100000 in
theorem sL_letters_0 (d : Nat) (O : Mem_) (x2 : Int32) : ex (d + 1) 128 0 [some (vr 6 0 0), some (vr 7 0 6), some (vi x2)] [] O =
(ex d 123 0 [some (vr 6 0 0), some (vr 7 0 6), some (vi (nI 32))] [] O).bind fun r0 =>
if x2 = nI 0 then
((ex d 123 0 [some (vr 6 0 0), some (vr 7 0 6), some (vi (nI 45))] [] r0.2).bind fun r1 =>
ex (d + 1) 128 20 [some (vr 6 0 0), some (vr 7 0 6), some (vi x2), some (vi (nI 0))] [] r1.2)
else
(ex (d + 1) 128 20 [some (vr 6 0 0), some (vr 7 0 6), some (vi x2), some (vi (nI 0))] [] r0.2) := (ex_un d 128 300 0 [some (vr 6 0 0), some (vr 7 0 6), some (vi x2)] [] O).trans rfl
set_option maxRecDepth 100000 in
theorem sL_letters_20 (d : Nat) (O : Mem_) (x2 : Int32) (x3 : Int32) : ex (d + 1) 128 20 [some (vr 6 0 0), some (vr 7 0 6), some (vi x2), some (vi x3)] [] O =
if x3 < (nI 8) then
(if ((x2 >>> (x3 &&& (31:Int32))) &&& (nI 1)) = (nI 1) then
((ex d 123 0 [some (vr 6 0 0), some (vr 7 0 6), some (vi ((nI 97) + x3))] [] O).bind fun r0 =>
ex (d + 1) 128 20 [some (vr 6 0 0), some (vr 7 0 6), some (vi x2), some (vi (x3 + (nI 1)))] [] r0.2)
else
(ex (d + 1) 128 20 [some (vr 6 0 0), some (vr 7 0 6), some (vi x2), some (vi (x3 + (nI 1)))] [] O))
else
(some (nI 0, O)) := (ex_un d 128 300 20 [some (vr 6 0 0), some (vr 7 0 6), some (vi x2), some (vi x3)] [] O).trans rfl
set_option maxRecDepth 100000 in
theorem sL_told_5 (d : Nat) (O : Mem_) (x2 : Int32) : ex (d + 1) 129 5 [some (vr 6 0 0), some (vr 8 0 0), some (vi x2), some (vr 7 0 1), some (vr 7 0 2), some (vr 7 0 3), some (vr 7 0 4), some (vr 7 0 5), some (vr 7 0 6)] [] O =
(ex d 121 0 [some (vr 8 0 0), some (vi x2)] [] O).bind fun r0 =>
(ex d 122 0 [some (vi r0.1), some (vi (nI 3))] [] r0.2).bind fun r1 =>
(ex d 122 0 [some (vi (r0.1 >>> ((nI 2) &&& (31:Int32)))), some (vi (nI 4))] [] r1.2).bind fun r2 =>
if ib (nI 0) 4 then
((ex d 122 0 [some (vi (r0.1 >>> ((nI 4) &&& (31:Int32)))), some (vi (nI 5))] [] (up r2.2 7 0 5 (Int32.toNatClampNeg (nI 0)) ((nI 2) + r2.1))).bind fun r3 =>
if ib (nI 1) 4 then
((ex d 122 0 [some (vi (r0.1 >>> ((nI 7) &&& (31:Int32)))), some (vi (nI 3))] [] (up r3.2 7 0 5 (Int32.toNatClampNeg (nI 1)) ((nI 2) + r3.1))).bind fun r4 =>
if ib (nI 2) 4 then
((ex d 122 0 [some (vi (r0.1 >>> ((nI 9) &&& (31:Int32)))), some (vi (nI 4))] [] (up r4.2 7 0 5 (Int32.toNatClampNeg (nI 2)) ((nI 1) + r4.1))).bind fun r5 =>
if ib (nI 3) 4 then
(ex (d + 1) 129 91 [some (vr 6 0 0), some (vr 8 0 0), some (vi x2), some (vr 7 0 1), some (vr 7 0 2), some (vr 7 0 3), some (vr 7 0 4), some (vr 7 0 5), some (vr 7 0 6), none, none, some (vi (((nI 1) <<< (((nI 2) + r1.1) &&& (31:Int32))) - (nI 1))), some (vi (nI 0))] [] (up r5.2 7 0 5 (Int32.toNatClampNeg (nI 3)) ((nI 1) + r5.1)))
else none)
else none)
else none)
else none := (ex_un d 129 300 5 [some (vr 6 0 0), some (vr 8 0 0), some (vi x2), some (vr 7 0 1), some (vr 7 0 2), some (vr 7 0 3), some (vr 7 0 4), some (vr 7 0 5), some (vr 7 0 6)] [] O).trans rfl
set_option maxRecDepth 100000 in
theorem sL_told_91 (d : Nat) (O : Mem_) (x2 : Int32) (x11 : Int32) (x12 : Int32) : ex (d + 1) 129 91 [some (vr 6 0 0), some (vr 8 0 0), some (vi x2), some (vr 7 0 1), some (vr 7 0 2), some (vr 7 0 3), some (vr 7 0 4), some (vr 7 0 5), some (vr 7 0 6), none, none, some (vi x11), some (vi x12)] [] O =
if ib (nI 0) 4 then
(if x12 < (O 7 0 5 (Int32.toNatClampNeg (nI 0))) then
((ex d 121 0 [some (vr 8 0 0), some (vi (x2 + (nI 1)))] [] O).bind fun r0 =>
(ex d 122 0 [some (vi (r0.1 >>> (((nI 5) * x12) &&& (31:Int32)))), some (vi (x11 + (nI 1)))] [] r0.2).bind fun r1 =>
if ib x12 8 then
((ex d 124 0 [some (vr 6 0 0), some (vr 7 0 6), some (vl (499967946343)), none] [] (up r1.2 7 0 1 (Int32.toNatClampNeg x12) r1.1)).bind fun r2 =>
if ib x12 8 then
((ex d 128 0 [some (vr 6 0 0), some (vr 7 0 6), some (vi (r2.2 7 0 1 (Int32.toNatClampNeg x12)))] [] r2.2).bind fun r3 =>
(ex d 123 0 [some (vr 6 0 0), some (vr 7 0 6), some (vi (nI 59))] [] r3.2).bind fun r4 =>
ex (d + 1) 129 91 [some (vr 6 0 0), some (vr 8 0 0), some (vi x2), some (vr 7 0 1), some (vr 7 0 2), some (vr 7 0 3), some (vr 7 0 4), some (vr 7 0 5), some (vr 7 0 6), none, none, some (vi x11), some (vi (x12 + (nI 1)))] [] r4.2)
else none)
else none)
else
(ex (d + 1) 129 159 [some (vr 6 0 0), some (vr 8 0 0), some (vi x2), some (vr 7 0 1), some (vr 7 0 2), some (vr 7 0 3), some (vr 7 0 4), some (vr 7 0 5), some (vr 7 0 6), none, none, some (vi x11), some (vi (nI 0))] [] O))
else none := (ex_un d 129 300 91 [some (vr 6 0 0), some (vr 8 0 0), some (vi x2), some (vr 7 0 1), some (vr 7 0 2), some (vr 7 0 3), some (vr 7 0 4), some (vr 7 0 5), some (vr 7 0 6), none, none, some (vi x11), some (vi x12)] [] O).trans rfl
set_option maxRecDepth 100000 in
theorem sL_told_159 (d : Nat) (O : Mem_) (x2 : Int32) (x11 : Int32) (x12 : Int32) : ex (d + 1) 129 159 [some (vr 6 0 0), some (vr 8 0 0), some (vi x2), some (vr 7 0 1), some (vr 7 0 2), some (vr 7 0 3), some (vr 7 0 4), some (vr 7 0 5), some (vr 7 0 6), none, none, some (vi x11), some (vi x12)] [] O =
if ib (nI 1) 4 then
(if x12 < (O 7 0 5 (Int32.toNatClampNeg (nI 1))) then
((ex d 121 0 [some (vr 8 0 0), some (vi ((x2 + (nI 2)) + x12))] [] O).bind fun r0 =>
(ex d 122 0 [some (vi r0.1), some (vi (x11 + (nI 1)))] [] r0.2).bind fun r1 =>
(ex d 122 0 [some (vi (r0.1 >>> ((nI 5) &&& (31:Int32)))), some (vi (x11 + (nI 1)))] [] r1.2).bind fun r2 =>
if ib ((nI 3) * x12) 24 then
(if ((r0.1 >>> ((nI 10) &&& (31:Int32))) &&& (nI 1)) = nI 0 then
(ex (d + 1) 129 265 [some (vr 6 0 0), some (vr 8 0 0), some (vi x2), some (vr 7 0 1), some (vr 7 0 2), some (vr 7 0 3), some (vr 7 0 4), some (vr 7 0 5), some (vr 7 0 6), none, none, some (vi x11), some (vi x12)] [vi (nI 0), vi (((nI 3) * x12) + (nI 1)), vr 7 0 2] (up r2.2 7 0 2 (Int32.toNatClampNeg ((nI 3) * x12)) (r1.1 &&& r2.1)))
else
((ex d 122 0 [some (vi (r0.1 >>> ((nI 11) &&& (31:Int32)))), some (vi (x11 + (nI 1)))] [] (up r2.2 7 0 2 (Int32.toNatClampNeg ((nI 3) * x12)) (r1.1 &&& r2.1))).bind fun r3 =>
(ex d 122 0 [some (vi (r0.1 >>> ((nI 16) &&& (31:Int32)))), some (vi (x11 + (nI 1)))] [] r3.2).bind fun r4 =>
if ib ((nI 3) * x12) 24 then
(ex (d + 1) 129 265 [some (vr 6 0 0), some (vr 8 0 0), some (vi x2), some (vr 7 0 1), some (vr 7 0 2), some (vr 7 0 3), some (vr 7 0 4), some (vr 7 0 5), some (vr 7 0 6), none, none, some (vi x11), some (vi x12)] [vi ((r3.1 &&& r4.1) &&& ((r4.2 7 0 2 (Int32.toNatClampNeg ((nI 3) * x12))) ^^^ (-1))), vi (((nI 3) * x12) + (nI 1)), vr 7 0 2] r4.2)
else none))
else none)
else
(ex (d + 1) 129 435 [some (vr 6 0 0), some (vr 8 0 0), some (vi x2), none, some (vr 7 0 2), some (vr 7 0 3), some (vr 7 0 4), some (vr 7 0 5), some (vr 7 0 6), none, none, some (vi x11), some (vi (nI 0))] [] O))
else none := (ex_un d 129 300 159 [some (vr 6 0 0), some (vr 8 0 0), some (vi x2), some (vr 7 0 1), some (vr 7 0 2), some (vr 7 0 3), some (vr 7 0 4), some (vr 7 0 5), some (vr 7 0 6), none, none, some (vi x11), some (vi x12)] [] O).trans rfl
set_option maxRecDepth 100000 in
theorem sL_told_265 (d : Nat) (O : Mem_) (x2 : Int32) (x11 : Int32) (x12 : Int32) (y0 : Int32) (y1 : Int32) : ex (d + 1) 129 265 [some (vr 6 0 0), some (vr 8 0 0), some (vi x2), some (vr 7 0 1), some (vr 7 0 2), some (vr 7 0 3), some (vr 7 0 4), some (vr 7 0 5), some (vr 7 0 6), none, none, some (vi x11), some (vi x12)] [vi y0, vi y1, vr 7 0 2] O =
if ib y1 24 then
(if ib (((nI 3) * x12) + (nI 2)) 24 then
(ex (d + 1) 129 279 [some (vr 6 0 0), some (vr 8 0 0), some (vi x2), some (vr 7 0 1), some (vr 7 0 2), some (vr 7 0 3), some (vr 7 0 4), some (vr 7 0 5), some (vr 7 0 6), none, none, some (vi x11), some (vi x12), none, some (vi (nI 0))] [] (up (up O 7 0 2 (Int32.toNatClampNeg y1) y0) 7 0 2 (Int32.toNatClampNeg (((nI 3) * x12) + (nI 2))) (nI 0)))
else none)
else none := (ex_un d 129 300 265 [some (vr 6 0 0), some (vr 8 0 0), some (vi x2), some (vr 7 0 1), some (vr 7 0 2), some (vr 7 0 3), some (vr 7 0 4), some (vr 7 0 5), some (vr 7 0 6), none, none, some (vi x11), some (vi x12)] [vi y0, vi y1, vr 7 0 2] O).trans rfl
set_option maxRecDepth 100000 in
theorem sL_told_279 (d : Nat) (O : Mem_) (x2 : Int32) (x11 : Int32) (x12 : Int32) (x14 : Int32) : ex (d + 1) 129 279 [some (vr 6 0 0), some (vr 8 0 0), some (vi x2), some (vr 7 0 1), some (vr 7 0 2), some (vr 7 0 3), some (vr 7 0 4), some (vr 7 0 5), some (vr 7 0 6), none, none, some (vi x11), some (vi x12), none, some (vi x14)] [] O =
if ib (nI 0) 4 then
(if x14 < (O 7 0 5 (Int32.toNatClampNeg (nI 0))) then
(if ib ((nI 3) * x12) 24 then
(if ib x14 8 then
(if ((O 7 0 2 (Int32.toNatClampNeg ((nI 3) * x12))) &&& ((O 7 0 1 (Int32.toNatClampNeg x14)) ^^^ (-1))) = nI 0 then
(if ib (((nI 3) * x12) + (nI 1)) 24 then
(if ib x14 8 then
(if ((O 7 0 2 (Int32.toNatClampNeg (((nI 3) * x12) + (nI 1)))) &&& (O 7 0 1 (Int32.toNatClampNeg x14))) = nI 0 then
(ex (d + 1) 129 327 [some (vr 6 0 0), some (vr 8 0 0), some (vi x2), some (vr 7 0 1), some (vr 7 0 2), some (vr 7 0 3), some (vr 7 0 4), some (vr 7 0 5), some (vr 7 0 6), none, none, some (vi x11), some (vi x12), none, some (vi x14)] [vi (nI 1)] O)
else
(ex (d + 1) 129 327 [some (vr 6 0 0), some (vr 8 0 0), some (vi x2), some (vr 7 0 1), some (vr 7 0 2), some (vr 7 0 3), some (vr 7 0 4), some (vr 7 0 5), some (vr 7 0 6), none, none, some (vi x11), some (vi x12), none, some (vi x14)] [vi (nI 0)] O))
else none)
else none)
else
(ex (d + 1) 129 327 [some (vr 6 0 0), some (vr 8 0 0), some (vi x2), some (vr 7 0 1), some (vr 7 0 2), some (vr 7 0 3), some (vr 7 0 4), some (vr 7 0 5), some (vr 7 0 6), none, none, some (vi x11), some (vi x12), none, some (vi x14)] [vi (nI 0)] O))
else none)
else none)
else
((ex d 124 0 [some (vr 6 0 0), some (vr 7 0 6), some (vl (469852319347)), none] [] O).bind fun r0 =>
if ib ((nI 3) * x12) 24 then
((ex d 128 0 [some (vr 6 0 0), some (vr 7 0 6), some (vi (r0.2 7 0 2 (Int32.toNatClampNeg ((nI 3) * x12))))] [] r0.2).bind fun r1 =>
if ib (((nI 3) * x12) + (nI 1)) 24 then
(if nI 0 < (r1.2 7 0 2 (Int32.toNatClampNeg (((nI 3) * x12) + (nI 1)))) then
((ex d 124 0 [some (vr 6 0 0), some (vr 7 0 6), some (vl (544108404)), none] [] r1.2).bind fun r2 =>
if ib (((nI 3) * x12) + (nI 1)) 24 then
((ex d 128 0 [some (vr 6 0 0), some (vr 7 0 6), some (vi (r2.2 7 0 2 (Int32.toNatClampNeg (((nI 3) * x12) + (nI 1)))))] [] r2.2).bind fun r3 =>
ex (d + 1) 129 418 [some (vr 6 0 0), some (vr 8 0 0), some (vi x2), some (vr 7 0 1), some (vr 7 0 2), some (vr 7 0 3), some (vr 7 0 4), some (vr 7 0 5), some (vr 7 0 6), none, none, some (vi x11), some (vi x12)] [] r3.2)
else none)
else
(ex (d + 1) 129 418 [some (vr 6 0 0), some (vr 8 0 0), some (vi x2), some (vr 7 0 1), some (vr 7 0 2), some (vr 7 0 3), some (vr 7 0 4), some (vr 7 0 5), some (vr 7 0 6), none, none, some (vi x11), some (vi x12)] [] r1.2))
else none)
else none))
else none := (ex_un d 129 300 279 [some (vr 6 0 0), some (vr 8 0 0), some (vi x2), some (vr 7 0 1), some (vr 7 0 2), some (vr 7 0 3), some (vr 7 0 4), some (vr 7 0 5), some (vr 7 0 6), none, none, some (vi x11), some (vi x12), none, some (vi x14)] [] O).trans rfl
set_option maxRecDepth 100000 in
theorem sL_told_327 (d : Nat) (O : Mem_) (x2 : Int32) (x11 : Int32) (x12 : Int32) (x14 : Int32) (y0 : Int32) : ex (d + 1) 129 327 [some (vr 6 0 0), some (vr 8 0 0), some (vi x2), some (vr 7 0 1), some (vr 7 0 2), some (vr 7 0 3), some (vr 7 0 4), some (vr 7 0 5), some (vr 7 0 6), none, none, some (vi x11), some (vi x12), none, some (vi x14)] [vi y0] O =
if ib (((nI 3) * x12) + (nI 2)) 24 then
(if y0 = nI 0 then
(if ib (((nI 3) * x12) + (nI 2)) 24 then
(ex (d + 1) 129 279 [some (vr 6 0 0), some (vr 8 0 0), some (vi x2), some (vr 7 0 1), some (vr 7 0 2), some (vr 7 0 3), some (vr 7 0 4), some (vr 7 0 5), some (vr 7 0 6), none, none, some (vi x11), some (vi x12), none, some (vi (x14 + (nI 1)))] [] (up O 7 0 2 (Int32.toNatClampNeg (((nI 3) * x12) + (nI 2))) ((O 7 0 2 (Int32.toNatClampNeg (((nI 3) * x12) + (nI 2)))) ||| (nI 0))))
else none)
else
(if ib (((nI 3) * x12) + (nI 2)) 24 then
(ex (d + 1) 129 279 [some (vr 6 0 0), some (vr 8 0 0), some (vi x2), some (vr 7 0 1), some (vr 7 0 2), some (vr 7 0 3), some (vr 7 0 4), some (vr 7 0 5), some (vr 7 0 6), none, none, some (vi x11), some (vi x12), none, some (vi (x14 + (nI 1)))] [] (up O 7 0 2 (Int32.toNatClampNeg (((nI 3) * x12) + (nI 2))) ((O 7 0 2 (Int32.toNatClampNeg (((nI 3) * x12) + (nI 2)))) ||| ((nI 1) <<< (x14 &&& (31:Int32))))))
else none))
else none := (ex_un d 129 300 327 [some (vr 6 0 0), some (vr 8 0 0), some (vi x2), some (vr 7 0 1), some (vr 7 0 2), some (vr 7 0 3), some (vr 7 0 4), some (vr 7 0 5), some (vr 7 0 6), none, none, some (vi x11), some (vi x12), none, some (vi x14)] [vi y0] O).trans rfl
set_option maxRecDepth 100000 in
theorem sL_told_418 (d : Nat) (O : Mem_) (x2 : Int32) (x11 : Int32) (x12 : Int32) : ex (d + 1) 129 418 [some (vr 6 0 0), some (vr 8 0 0), some (vi x2), some (vr 7 0 1), some (vr 7 0 2), some (vr 7 0 3), some (vr 7 0 4), some (vr 7 0 5), some (vr 7 0 6), none, none, some (vi x11), some (vi x12)] [] O =
(ex d 123 0 [some (vr 6 0 0), some (vr 7 0 6), some (vi (nI 59))] [] O).bind fun r0 =>
ex (d + 1) 129 159 [some (vr 6 0 0), some (vr 8 0 0), some (vi x2), some (vr 7 0 1), some (vr 7 0 2), some (vr 7 0 3), some (vr 7 0 4), some (vr 7 0 5), some (vr 7 0 6), none, none, some (vi x11), some (vi (x12 + (nI 1)))] [] r0.2 := (ex_un d 129 300 418 [some (vr 6 0 0), some (vr 8 0 0), some (vi x2), some (vr 7 0 1), some (vr 7 0 2), some (vr 7 0 3), some (vr 7 0 4), some (vr 7 0 5), some (vr 7 0 6), none, none, some (vi x11), some (vi x12)] [] O).trans rfl
set_option maxRecDepth 100000 in
theorem sL_told_435 (d : Nat) (O : Mem_) (x2 : Int32) (x11 : Int32) (x12 : Int32) : ex (d + 1) 129 435 [some (vr 6 0 0), some (vr 8 0 0), some (vi x2), none, some (vr 7 0 2), some (vr 7 0 3), some (vr 7 0 4), some (vr 7 0 5), some (vr 7 0 6), none, none, some (vi x11), some (vi x12)] [] O =
if ib (nI 2) 4 then
(if x12 < (O 7 0 5 (Int32.toNatClampNeg (nI 2))) then
((ex d 121 0 [some (vr 8 0 0), some (vi (x2 + (nI 8)))] [] O).bind fun r0 =>
if ib (nI 1) 4 then
((ex d 122 0 [some (vi (r0.1 >>> (((nI 6) * x12) &&& (31:Int32)))), some (vi (r0.2 7 0 5 (Int32.toNatClampNeg (nI 1))))] [] r0.2).bind fun r1 =>
if ib x12 4 then
((ex d 124 0 [some (vr 6 0 0), some (vr 7 0 6), some (vl (2003792484)), none] [] (up r1.2 7 0 3 (Int32.toNatClampNeg x12) r1.1)).bind fun r2 =>
if ib x12 4 then
((ex d 126 0 [some (vr 6 0 0), some (vr 7 0 6), some (vi (r2.2 7 0 3 (Int32.toNatClampNeg x12)))] [] r2.2).bind fun r3 =>
(ex d 123 0 [some (vr 6 0 0), some (vr 7 0 6), some (vi (nI 59))] [] r3.2).bind fun r4 =>
ex (d + 1) 129 435 [some (vr 6 0 0), some (vr 8 0 0), some (vi x2), none, some (vr 7 0 2), some (vr 7 0 3), some (vr 7 0 4), some (vr 7 0 5), some (vr 7 0 6), none, none, some (vi x11), some (vi (x12 + (nI 1)))] [] r4.2)
else none)
else none)
else none)
else
(ex (d + 1) 129 507 [some (vr 6 0 0), some (vr 8 0 0), some (vi x2), none, some (vr 7 0 2), none, some (vr 7 0 4), some (vr 7 0 5), some (vr 7 0 6), none, none, some (vi x11), some (vi (nI 0))] [] O))
else none := (ex_un d 129 300 435 [some (vr 6 0 0), some (vr 8 0 0), some (vi x2), none, some (vr 7 0 2), some (vr 7 0 3), some (vr 7 0 4), some (vr 7 0 5), some (vr 7 0 6), none, none, some (vi x11), some (vi x12)] [] O).trans rfl
set_option maxRecDepth 100000 in
theorem sL_told_507 (d : Nat) (O : Mem_) (x2 : Int32) (x11 : Int32) (x12 : Int32) : ex (d + 1) 129 507 [some (vr 6 0 0), some (vr 8 0 0), some (vi x2), none, some (vr 7 0 2), none, some (vr 7 0 4), some (vr 7 0 5), some (vr 7 0 6), none, none, some (vi x11), some (vi x12)] [] O =
if ib (nI 3) 4 then
(if x12 < (O 7 0 5 (Int32.toNatClampNeg (nI 3))) then
((ex d 121 0 [some (vr 8 0 0), some (vi ((x2 + (nI 9)) + x12))] [] O).bind fun r0 =>
(ex d 122 0 [some (vi r0.1), some (vi (nI 4))] [] r0.2).bind fun r1 =>
if ib ((nI 6) * x12) 24 then
(if ((r0.1 >>> ((nI 2) &&& (31:Int32))) &&& (nI 3)) = nI 0 then
((ex d 122 0 [some (vi (r0.1 >>> ((nI 4) &&& (31:Int32)))), some (vi (x11 + (nI 1)))] [] (up r1.2 7 0 4 (Int32.toNatClampNeg ((nI 6) * x12)) r1.1)).bind fun r2 =>
ex (d + 1) 129 579 [some (vr 6 0 0), some (vr 8 0 0), some (vi x2), none, some (vr 7 0 2), none, some (vr 7 0 4), some (vr 7 0 5), some (vr 7 0 6), none, none, some (vi x11), some (vi x12), some (vi r0.1), some (vi ((nI 6) * x12))] [vi r2.1, vi (((nI 6) * x12) + (nI 1)), vr 7 0 4] r2.2)
else
(ex (d + 1) 129 579 [some (vr 6 0 0), some (vr 8 0 0), some (vi x2), none, some (vr 7 0 2), none, some (vr 7 0 4), some (vr 7 0 5), some (vr 7 0 6), none, none, some (vi x11), some (vi x12), some (vi r0.1), some (vi ((nI 6) * x12))] [vi (nI 255), vi (((nI 6) * x12) + (nI 1)), vr 7 0 4] (up r1.2 7 0 4 (Int32.toNatClampNeg ((nI 6) * x12)) r1.1)))
else none)
else
((ex d 125 0 [some (vr 6 0 0), some (vr 7 0 6)] [] O).bind fun r3 =>
if r3.1 = nI 0 then
(some ((nI 0), r3.2))
else
((ex d 69 0 [some (vr 6 0 0)] [] r3.2).bind fun r4 =>
if ib (nI 0) 4 then
(if ib (nI 1) 4 then
(if ib (nI 2) 4 then
(if ib (nI 3) 4 then
(if r4.1 = ((((r4.2 7 0 5 (Int32.toNatClampNeg (nI 0))) + (r4.2 7 0 5 (Int32.toNatClampNeg (nI 1)))) + (r4.2 7 0 5 (Int32.toNatClampNeg (nI 2)))) + (r4.2 7 0 5 (Int32.toNatClampNeg (nI 3)))) then
(some ((nI 1), r4.2))
else
(some ((nI 0), r4.2)))
else none)
else none)
else none)
else none)))
else none := (ex_un d 129 300 507 [some (vr 6 0 0), some (vr 8 0 0), some (vi x2), none, some (vr 7 0 2), none, some (vr 7 0 4), some (vr 7 0 5), some (vr 7 0 6), none, none, some (vi x11), some (vi x12)] [] O).trans rfl
set_option maxRecDepth 100000 in
theorem sL_told_579 (d : Nat) (O : Mem_) (x2 : Int32) (x11 : Int32) (x12 : Int32) (x13 : Int32) (x14 : Int32) (y0 : Int32) (y1 : Int32) : ex (d + 1) 129 579 [some (vr 6 0 0), some (vr 8 0 0), some (vi x2), none, some (vr 7 0 2), none, some (vr 7 0 4), some (vr 7 0 5), some (vr 7 0 6), none, none, some (vi x11), some (vi x12), some (vi x13), some (vi x14)] [vi y0, vi y1, vr 7 0 4] O =
if ib y1 24 then
(if ((x13 >>> ((nI 9) &&& (31:Int32))) &&& (nI 7)) = nI 0 then
(if ib (nI 0) 4 then
((ex d 122 0 [some (vi (x13 >>> ((nI 12) &&& (31:Int32)))), some (vi ((up O 7 0 4 (Int32.toNatClampNeg y1) y0) 7 0 5 (Int32.toNatClampNeg (nI 0))))] [] (up O 7 0 4 (Int32.toNatClampNeg y1) y0)).bind fun r0 =>
ex (d + 1) 129 614 [some (vr 6 0 0), some (vr 8 0 0), some (vi x2), none, some (vr 7 0 2), none, some (vr 7 0 4), some (vr 7 0 5), some (vr 7 0 6), none, none, some (vi x11), some (vi x12), some (vi x13), some (vi x14)] [vi r0.1, vi (x14 + (nI 2)), vr 7 0 4] r0.2)
else none)
else
(ex (d + 1) 129 614 [some (vr 6 0 0), some (vr 8 0 0), some (vi x2), none, some (vr 7 0 2), none, some (vr 7 0 4), some (vr 7 0 5), some (vr 7 0 6), none, none, some (vi x11), some (vi x12), some (vi x13), some (vi x14)] [vi (oI none), vi (x14 + (nI 2)), vr 7 0 4] (up O 7 0 4 (Int32.toNatClampNeg y1) y0)))
else none := (ex_un d 129 300 579 [some (vr 6 0 0), some (vr 8 0 0), some (vi x2), none, some (vr 7 0 2), none, some (vr 7 0 4), some (vr 7 0 5), some (vr 7 0 6), none, none, some (vi x11), some (vi x12), some (vi x13), some (vi x14)] [vi y0, vi y1, vr 7 0 4] O).trans rfl
set_option maxRecDepth 100000 in
theorem sL_told_614 (d : Nat) (O : Mem_) (x2 : Int32) (x11 : Int32) (x12 : Int32) (x13 : Int32) (x14 : Int32) (y0 : Int32) (y1 : Int32) : ex (d + 1) 129 614 [some (vr 6 0 0), some (vr 8 0 0), some (vi x2), none, some (vr 7 0 2), none, some (vr 7 0 4), some (vr 7 0 5), some (vr 7 0 6), none, none, some (vi x11), some (vi x12), some (vi x13), some (vi x14)] [vi y0, vi y1, vr 7 0 4] O =
if ib y1 24 then
(if ((x13 >>> ((nI 15) &&& (31:Int32))) &&& (nI 3)) = nI 0 then
(ex (d + 1) 129 636 [some (vr 6 0 0), some (vr 8 0 0), some (vi x2), none, some (vr 7 0 2), none, some (vr 7 0 4), some (vr 7 0 5), some (vr 7 0 6), none, none, some (vi x11), some (vi x12), some (vi x13), some (vi x14)] [vi (nI 1), vi (x14 + (nI 3)), vr 7 0 4] (up O 7 0 4 (Int32.toNatClampNeg y1) y0))
else
(ex (d + 1) 129 636 [some (vr 6 0 0), some (vr 8 0 0), some (vi x2), none, some (vr 7 0 2), none, some (vr 7 0 4), some (vr 7 0 5), some (vr 7 0 6), none, none, some (vi x11), some (vi x12), some (vi x13), some (vi x14)] [vi (nI 0), vi (x14 + (nI 3)), vr 7 0 4] (up O 7 0 4 (Int32.toNatClampNeg y1) y0)))
else none := (ex_un d 129 300 614 [some (vr 6 0 0), some (vr 8 0 0), some (vi x2), none, some (vr 7 0 2), none, some (vr 7 0 4), some (vr 7 0 5), some (vr 7 0 6), none, none, some (vi x11), some (vi x12), some (vi x13), some (vi x14)] [vi y0, vi y1, vr 7 0 4] O).trans rfl
set_option maxRecDepth 100000 in
theorem sL_told_636 (d : Nat) (O : Mem_) (x2 : Int32) (x11 : Int32) (x12 : Int32) (x13 : Int32) (x14 : Int32) (y0 : Int32) (y1 : Int32) : ex (d + 1) 129 636 [some (vr 6 0 0), some (vr 8 0 0), some (vi x2), none, some (vr 7 0 2), none, some (vr 7 0 4), some (vr 7 0 5), some (vr 7 0 6), none, none, some (vi x11), some (vi x12), some (vi x13), some (vi x14)] [vi y0, vi y1, vr 7 0 4] O =
if ib y1 24 then
((ex d 122 0 [some (vi (x13 >>> ((nI 17) &&& (31:Int32)))), some (vi (nI 10))] [] (up O 7 0 4 (Int32.toNatClampNeg y1) y0)).bind fun r0 =>
if ib (x14 + (nI 4)) 24 then
(if ib (x14 + (nI 5)) 24 then
(ex (d + 1) 129 665 [some (vr 6 0 0), some (vr 8 0 0), some (vi x2), none, some (vr 7 0 2), none, some (vr 7 0 4), some (vr 7 0 5), some (vr 7 0 6), none, none, some (vi x11), some (vi x12), none, some (vi x14), some (vi (nI 0))] [] (up (up r0.2 7 0 4 (Int32.toNatClampNeg (x14 + (nI 4))) r0.1) 7 0 4 (Int32.toNatClampNeg (x14 + (nI 5))) (nI 0)))
else none)
else none)
else none := (ex_un d 129 300 636 [some (vr 6 0 0), some (vr 8 0 0), some (vi x2), none, some (vr 7 0 2), none, some (vr 7 0 4), some (vr 7 0 5), some (vr 7 0 6), none, none, some (vi x11), some (vi x12), some (vi x13), some (vi x14)] [vi y0, vi y1, vr 7 0 4] O).trans rfl
set_option maxRecDepth 100000 in
theorem sL_told_665 (d : Nat) (O : Mem_) (x2 : Int32) (x11 : Int32) (x12 : Int32) (x14 : Int32) (x15 : Int32) : ex (d + 1) 129 665 [some (vr 6 0 0), some (vr 8 0 0), some (vi x2), none, some (vr 7 0 2), none, some (vr 7 0 4), some (vr 7 0 5), some (vr 7 0 6), none, none, some (vi x11), some (vi x12), none, some (vi x14), some (vi x15)] [] O =
if ib (nI 1) 4 then
(if x15 < (O 7 0 5 (Int32.toNatClampNeg (nI 1))) then
(if ib (x14 + (nI 5)) 24 then
(if ib ((nI 3) * x15) 24 then
(if ib (((nI 3) * x15) + (nI 1)) 24 then
(if ib (x14 + (nI 1)) 24 then
(if (((O 7 0 2 (Int32.toNatClampNeg ((nI 3) * x15))) ||| (O 7 0 2 (Int32.toNatClampNeg (((nI 3) * x15) + (nI 1))))) &&& ((O 7 0 4 (Int32.toNatClampNeg (x14 + (nI 1)))) ^^^ (-1))) = nI 0 then
(if ib (x14 + (nI 5)) 24 then
(ex (d + 1) 129 665 [some (vr 6 0 0), some (vr 8 0 0), some (vi x2), none, some (vr 7 0 2), none, some (vr 7 0 4), some (vr 7 0 5), some (vr 7 0 6), none, none, some (vi x11), some (vi x12), none, some (vi x14), some (vi (x15 + (nI 1)))] [] (up O 7 0 4 (Int32.toNatClampNeg (x14 + (nI 5))) ((O 7 0 4 (Int32.toNatClampNeg (x14 + (nI 5)))) ||| ((nI 1) <<< (x15 &&& (31:Int32))))))
else none)
else
(if ib (x14 + (nI 5)) 24 then
(ex (d + 1) 129 665 [some (vr 6 0 0), some (vr 8 0 0), some (vi x2), none, some (vr 7 0 2), none, some (vr 7 0 4), some (vr 7 0 5), some (vr 7 0 6), none, none, some (vi x11), some (vi x12), none, some (vi x14), some (vi (x15 + (nI 1)))] [] (up O 7 0 4 (Int32.toNatClampNeg (x14 + (nI 5))) ((O 7 0 4 (Int32.toNatClampNeg (x14 + (nI 5)))) ||| (nI 0))))
else none))
else none)
else none)
else none)
else none)
else
(if ib x14 24 then
(if (O 7 0 4 (Int32.toNatClampNeg x14)) = nI 0 then
(ex (d + 1) 129 778 [some (vr 6 0 0), some (vr 8 0 0), some (vi x2), none, some (vr 7 0 2), none, some (vr 7 0 4), some (vr 7 0 5), some (vr 7 0 6), none, none, some (vi x11), some (vi x12), none, some (vi x14)] [vl (482854660462), vr 7 0 6, vr 6 0 0] O)
else
(if ib x14 24 then
(if (O 7 0 4 (Int32.toNatClampNeg x14)) = (nI 1) then
(ex (d + 1) 129 778 [some (vr 6 0 0), some (vr 8 0 0), some (vi x2), none, some (vr 7 0 2), none, some (vr 7 0 4), some (vr 7 0 5), some (vr 7 0 6), none, none, some (vi x11), some (vi x12), none, some (vi x14)] [vl (1818325876), vr 7 0 6, vr 6 0 0] O)
else
(if ib x14 24 then
(if (O 7 0 4 (Int32.toNatClampNeg x14)) = (nI 2) then
(ex (d + 1) 129 778 [some (vr 6 0 0), some (vr 8 0 0), some (vi x2), none, some (vr 7 0 2), none, some (vr 7 0 4), some (vr 7 0 5), some (vr 7 0 6), none, none, some (vi x11), some (vi x12), none, some (vi x14)] [vl (27973166649734508), vr 7 0 6, vr 6 0 0] O)
else
(ex (d + 1) 129 778 [some (vr 6 0 0), some (vr 8 0 0), some (vi x2), none, some (vr 7 0 2), none, some (vr 7 0 4), some (vr 7 0 5), some (vr 7 0 6), none, none, some (vi x11), some (vi x12), none, some (vi x14)] [vl (482956244324), vr 7 0 6, vr 6 0 0] O))
else none))
else none))
else none))
else none := (ex_un d 129 300 665 [some (vr 6 0 0), some (vr 8 0 0), some (vi x2), none, some (vr 7 0 2), none, some (vr 7 0 4), some (vr 7 0 5), some (vr 7 0 6), none, none, some (vi x11), some (vi x12), none, some (vi x14), some (vi x15)] [] O).trans rfl
set_option maxRecDepth 100000 in
theorem sL_told_778 (d : Nat) (O : Mem_) (x2 : Int32) (x11 : Int32) (x12 : Int32) (x14 : Int32) (y0 : Int64) : ex (d + 1) 129 778 [some (vr 6 0 0), some (vr 8 0 0), some (vi x2), none, some (vr 7 0 2), none, some (vr 7 0 4), some (vr 7 0 5), some (vr 7 0 6), none, none, some (vi x11), some (vi x12), none, some (vi x14)] [vl y0, vr 7 0 6, vr 6 0 0] O =
(ex d 124 0 [some (vr 6 0 0), some (vr 7 0 6), some (vl y0), none] [] O).bind fun r0 =>
(ex d 124 0 [some (vr 6 0 0), some (vr 7 0 6), some (vl (9116499217113957)), none] [] r0.2).bind fun r1 =>
if ib (x14 + (nI 4)) 24 then
((ex d 126 0 [some (vr 6 0 0), some (vr 7 0 6), some (vi (r1.2 7 0 4 (Int32.toNatClampNeg (x14 + (nI 4)))))] [] r1.2).bind fun r2 =>
if ib (x14 + (nI 3)) 24 then
(if (r2.2 7 0 4 (Int32.toNatClampNeg (x14 + (nI 3)))) = (nI 1) then
((ex d 124 0 [some (vr 6 0 0), some (vr 7 0 6), some (vl (9136316380441445)), none] [] r2.2).bind fun r3 =>
ex (d + 1) 129 823 [some (vr 6 0 0), some (vr 8 0 0), some (vi x2), none, some (vr 7 0 2), none, some (vr 7 0 4), some (vr 7 0 5), some (vr 7 0 6), none, none, some (vi x11), some (vi x12), none, some (vi x14)] [] r3.2)
else
(ex (d + 1) 129 823 [some (vr 6 0 0), some (vr 8 0 0), some (vi x2), none, some (vr 7 0 2), none, some (vr 7 0 4), some (vr 7 0 5), some (vr 7 0 6), none, none, some (vi x11), some (vi x12), none, some (vi x14)] [] r2.2))
else none)
else none := (ex_un d 129 300 778 [some (vr 6 0 0), some (vr 8 0 0), some (vi x2), none, some (vr 7 0 2), none, some (vr 7 0 4), some (vr 7 0 5), some (vr 7 0 6), none, none, some (vi x11), some (vi x12), none, some (vi x14)] [vl y0, vr 7 0 6, vr 6 0 0] O).trans rfl
set_option maxRecDepth 100000 in
theorem sL_told_823 (d : Nat) (O : Mem_) (x2 : Int32) (x11 : Int32) (x12 : Int32) (x14 : Int32) : ex (d + 1) 129 823 [some (vr 6 0 0), some (vr 8 0 0), some (vi x2), none, some (vr 7 0 2), none, some (vr 7 0 4), some (vr 7 0 5), some (vr 7 0 6), none, none, some (vi x11), some (vi x12), none, some (vi x14)] [] O =
if ib (x14 + (nI 2)) 24 then
(if (O 7 0 4 (Int32.toNatClampNeg (x14 + (nI 2)))) < nI 0 then
(ex (d + 1) 129 855 [some (vr 6 0 0), some (vr 8 0 0), some (vi x2), none, some (vr 7 0 2), none, some (vr 7 0 4), some (vr 7 0 5), some (vr 7 0 6), none, none, some (vi x11), some (vi x12), none, some (vi x14)] [] O)
else
((ex d 124 0 [some (vr 6 0 0), some (vr 7 0 6), some (vl (35624159638131)), none] [] O).bind fun r0 =>
if ib (x14 + (nI 2)) 24 then
((ex d 126 0 [some (vr 6 0 0), some (vr 7 0 6), some (vi (r0.2 7 0 4 (Int32.toNatClampNeg (x14 + (nI 2)))))] [] r0.2).bind fun r1 =>
ex (d + 1) 129 855 [some (vr 6 0 0), some (vr 8 0 0), some (vi x2), none, some (vr 7 0 2), none, some (vr 7 0 4), some (vr 7 0 5), some (vr 7 0 6), none, none, some (vi x11), some (vi x12), none, some (vi x14)] [] r1.2)
else none))
else none := (ex_un d 129 300 823 [some (vr 6 0 0), some (vr 8 0 0), some (vi x2), none, some (vr 7 0 2), none, some (vr 7 0 4), some (vr 7 0 5), some (vr 7 0 6), none, none, some (vi x11), some (vi x12), none, some (vi x14)] [] O).trans rfl
set_option maxRecDepth 100000 in
theorem sL_told_855 (d : Nat) (O : Mem_) (x2 : Int32) (x11 : Int32) (x12 : Int32) (x14 : Int32) : ex (d + 1) 129 855 [some (vr 6 0 0), some (vr 8 0 0), some (vi x2), none, some (vr 7 0 2), none, some (vr 7 0 4), some (vr 7 0 5), some (vr 7 0 6), none, none, some (vi x11), some (vi x12), none, some (vi x14)] [] O =
if ib (x14 + (nI 1)) 24 then
(if (O 7 0 4 (Int32.toNatClampNeg (x14 + (nI 1)))) = (nI 255) then
(ex (d + 1) 129 890 [some (vr 6 0 0), some (vr 8 0 0), some (vi x2), none, some (vr 7 0 2), none, some (vr 7 0 4), some (vr 7 0 5), some (vr 7 0 6), none, none, some (vi x11), some (vi x12)] [] O)
else
((ex d 124 0 [some (vr 6 0 0), some (vr 7 0 6), some (vl (139374978419)), none] [] O).bind fun r0 =>
if ib (x14 + (nI 1)) 24 then
((ex d 128 0 [some (vr 6 0 0), some (vr 7 0 6), some (vi (r0.2 7 0 4 (Int32.toNatClampNeg (x14 + (nI 1)))))] [] r0.2).bind fun r1 =>
ex (d + 1) 129 890 [some (vr 6 0 0), some (vr 8 0 0), some (vi x2), none, some (vr 7 0 2), none, some (vr 7 0 4), some (vr 7 0 5), some (vr 7 0 6), none, none, some (vi x11), some (vi x12)] [] r1.2)
else none))
else none := (ex_un d 129 300 855 [some (vr 6 0 0), some (vr 8 0 0), some (vi x2), none, some (vr 7 0 2), none, some (vr 7 0 4), some (vr 7 0 5), some (vr 7 0 6), none, none, some (vi x11), some (vi x12), none, some (vi x14)] [] O).trans rfl
set_option maxRecDepth 100000 in
theorem sL_told_890 (d : Nat) (O : Mem_) (x2 : Int32) (x11 : Int32) (x12 : Int32) : ex (d + 1) 129 890 [some (vr 6 0 0), some (vr 8 0 0), some (vi x2), none, some (vr 7 0 2), none, some (vr 7 0 4), some (vr 7 0 5), some (vr 7 0 6), none, none, some (vi x11), some (vi x12)] [] O =
(ex d 123 0 [some (vr 6 0 0), some (vr 7 0 6), some (vi (nI 59))] [] O).bind fun r0 =>
ex (d + 1) 129 507 [some (vr 6 0 0), some (vr 8 0 0), some (vi x2), none, some (vr 7 0 2), none, some (vr 7 0 4), some (vr 7 0 5), some (vr 7 0 6), none, none, some (vi x11), some (vi (x12 + (nI 1)))] [] r0.2 := (ex_un d 129 300 890 [some (vr 6 0 0), some (vr 8 0 0), some (vi x2), none, some (vr 7 0 2), none, some (vr 7 0 4), some (vr 7 0 5), some (vr 7 0 6), none, none, some (vi x11), some (vi x12)] [] O).trans rfl
set_option maxRecDepth 100000 in
theorem sL_fresh_0 (d : Nat) (O : Mem_)  : ex (d + 1) 130 0 [some (vr 7 0 8)] [] O =
ex (d + 1) 130 2 [some (vr 7 0 8), some (vi (nI 0))] [] O := (ex_un d 130 300 0 [some (vr 7 0 8)] [] O).trans rfl
set_option maxRecDepth 100000 in
theorem sL_fresh_2 (d : Nat) (O : Mem_) (x1 : Int32) : ex (d + 1) 130 2 [some (vr 7 0 8), some (vi x1)] [] O =
if x1 < (nI 40) then
(if (nI 10) = nI 0 then none else if (x1 - x1 / (nI 10) * (nI 10)) < (nI 4) then
(if ib x1 40 then
(ex (d + 1) 130 2 [some (vr 7 0 8), some (vi (x1 + (nI 1)))] [] (up O 7 0 8 (Int32.toNatClampNeg x1) (oI none)))
else none)
else
(if (nI 10) = nI 0 then none else if (nI 7) < (x1 - x1 / (nI 10) * (nI 10)) then
(if ib x1 40 then
(ex (d + 1) 130 2 [some (vr 7 0 8), some (vi (x1 + (nI 1)))] [] (up O 7 0 8 (Int32.toNatClampNeg x1) (oI none)))
else none)
else
(if ib x1 40 then
(ex (d + 1) 130 2 [some (vr 7 0 8), some (vi (x1 + (nI 1)))] [] (up O 7 0 8 (Int32.toNatClampNeg x1) (nI 0)))
else none)))
else
(some (nI 0, O)) := (ex_un d 130 300 2 [some (vr 7 0 8), some (vi x1)] [] O).trans rfl
set_option maxRecDepth 100000 in
theorem sL_plainest_0 (d : Nat) (O : Mem_) (x2 : Int32) : ex (d + 1) 131 0 [some (vr 7 0 2), some (vr 7 0 5), some (vi x2)] [] O =
ex (d + 1) 131 10 [some (vr 7 0 2), some (vr 7 0 5), some (vi x2), some (vi (oI none)), some (vi (nI 99)), some (vi (nI 0))] [] O := (ex_un d 131 300 0 [some (vr 7 0 2), some (vr 7 0 5), some (vi x2)] [] O).trans rfl
set_option maxRecDepth 100000 in
theorem sL_plainest_10 (d : Nat) (O : Mem_) (x2 : Int32) (x3 : Int32) (x4 : Int32) (x5 : Int32) : ex (d + 1) 131 10 [some (vr 7 0 2), some (vr 7 0 5), some (vi x2), some (vi x3), some (vi x4), some (vi x5)] [] O =
if ib (nI 1) 4 then
(if x5 < (O 7 0 5 (Int32.toNatClampNeg (nI 1))) then
(if ib ((nI 3) * x5) 24 then
((ex d 127 0 [some (vi (O 7 0 2 (Int32.toNatClampNeg ((nI 3) * x5))))] [] O).bind fun r0 =>
if ib (((nI 3) * x5) + (nI 1)) 24 then
((ex d 127 0 [some (vi (r0.2 7 0 2 (Int32.toNatClampNeg (((nI 3) * x5) + (nI 1)))))] [] r0.2).bind fun r1 =>
if ((x2 >>> (x5 &&& (31:Int32))) &&& (nI 1)) = (nI 1) then
(if (r0.1 + r1.1) < x4 then
(ex (d + 1) 131 10 [some (vr 7 0 2), some (vr 7 0 5), some (vi x2), some (vi x5), some (vi (r0.1 + r1.1)), some (vi (x5 + (nI 1)))] [] r1.2)
else
(ex (d + 1) 131 10 [some (vr 7 0 2), some (vr 7 0 5), some (vi x2), some (vi x3), some (vi x4), some (vi (x5 + (nI 1)))] [] r1.2))
else
(ex (d + 1) 131 10 [some (vr 7 0 2), some (vr 7 0 5), some (vi x2), some (vi x3), some (vi x4), some (vi (x5 + (nI 1)))] [] r1.2))
else none)
else none)
else
(some (x3, O)))
else none := (ex_un d 131 300 10 [some (vr 7 0 2), some (vr 7 0 5), some (vi x2), some (vi x3), some (vi x4), some (vi x5)] [] O).trans rfl
set_option maxRecDepth 100000 in
theorem sL_learns_0 (d : Nat) (O : Mem_) (x4 : Int32) (x5 : Int32) (x6 : Int32) (x7 : Int32) (x8 : Int32) (x9 : Int32) : ex (d + 1) 132 0 [some (vr 7 0 8), some (vr 7 0 2), some (vr 7 0 4), some (vr 7 0 5), some (vi x4), some (vi x5), some (vi x6), some (vi x7), some (vi x8), some (vi x9)] [] O =
if ib (((nI 10) * x4) + (nI 9)) 40 then
(if (O 7 0 8 (Int32.toNatClampNeg (((nI 10) * x4) + (nI 9)))) < nI 0 then
(if ib (((nI 6) * x4) + (nI 2)) 24 then
(if (O 7 0 4 (Int32.toNatClampNeg (((nI 6) * x4) + (nI 2)))) = x7 then
(ex (d + 1) 132 35 [some (vr 7 0 8), none, none, none, none, some (vi x5), none, none, none, none, some (vi ((nI 10) * x4)), some (vi (nI 0))] [] O)
else
(if ib (((nI 6) * x4) + (nI 5)) 24 then
(ex (d + 1) 132 94 [some (vr 7 0 8), some (vr 7 0 2), some (vr 7 0 4), some (vr 7 0 5), some (vi x4), none, some (vi x6), some (vi x7), some (vi x8), none, some (vi ((nI 10) * x4)), some (vi (x9 &&& (O 7 0 4 (Int32.toNatClampNeg (((nI 6) * x4) + (nI 5)))))), some (vi (nI 0))] [] O)
else none))
else none)
else
(some (nI 0, O)))
else none := (ex_un d 132 300 0 [some (vr 7 0 8), some (vr 7 0 2), some (vr 7 0 4), some (vr 7 0 5), some (vi x4), some (vi x5), some (vi x6), some (vi x7), some (vi x8), some (vi x9)] [] O).trans rfl
set_option maxRecDepth 100000 in
theorem sL_learns_35 (d : Nat) (O : Mem_) (x5 : Int32) (x10 : Int32) (x11 : Int32) : ex (d + 1) 132 35 [some (vr 7 0 8), none, none, none, none, some (vi x5), none, none, none, none, some (vi x10), some (vi x11)] [] O =
if x11 < (nI 8) then
(if x11 < (nI 4) then
(if ib (x10 + x11) 40 then
(ex (d + 1) 132 35 [some (vr 7 0 8), none, none, none, none, some (vi x5), none, none, none, none, some (vi x10), some (vi (x11 + (nI 1)))] [] (up O 7 0 8 (Int32.toNatClampNeg (x10 + x11)) (oI none)))
else none)
else
(if ib (x10 + x11) 40 then
(ex (d + 1) 132 35 [some (vr 7 0 8), none, none, none, none, some (vi x5), none, none, none, none, some (vi x10), some (vi (x11 + (nI 1)))] [] (up O 7 0 8 (Int32.toNatClampNeg (x10 + x11)) (nI 0)))
else none))
else
(if ib (x10 + (nI 9)) 40 then
(some (nI 0, (up O 7 0 8 (Int32.toNatClampNeg (x10 + (nI 9))) x5)))
else none) := (ex_un d 132 300 35 [some (vr 7 0 8), none, none, none, none, some (vi x5), none, none, none, none, some (vi x10), some (vi x11)] [] O).trans rfl
set_option maxRecDepth 100000 in
theorem sL_learns_94 (d : Nat) (O : Mem_) (x4 : Int32) (x6 : Int32) (x7 : Int32) (x8 : Int32) (x10 : Int32) (x11 : Int32) (x12 : Int32) : ex (d + 1) 132 94 [some (vr 7 0 8), some (vr 7 0 2), some (vr 7 0 4), some (vr 7 0 5), some (vi x4), none, some (vi x6), some (vi x7), some (vi x8), none, some (vi x10), some (vi x11), some (vi x12)] [] O =
if x12 < (nI 4) then
(if ib (((nI 6) * x4) + (nI 3)) 24 then
(if (O 7 0 4 (Int32.toNatClampNeg (((nI 6) * x4) + (nI 3)))) = (nI 1) then
(if x12 = x6 then
(ex (d + 1) 132 94 [some (vr 7 0 8), some (vr 7 0 2), some (vr 7 0 4), some (vr 7 0 5), some (vi x4), none, some (vi x6), some (vi x7), some (vi x8), none, some (vi x10), some (vi (x11 &&& (-1))), some (vi (x12 + (nI 1)))] [] O)
else
(if ib (x10 + x12) 40 then
(if (O 7 0 8 (Int32.toNatClampNeg (x10 + x12))) < nI 0 then
(ex (d + 1) 132 94 [some (vr 7 0 8), some (vr 7 0 2), some (vr 7 0 4), some (vr 7 0 5), some (vi x4), none, some (vi x6), some (vi x7), some (vi x8), none, some (vi x10), some (vi (x11 &&& (-1))), some (vi (x12 + (nI 1)))] [] O)
else
(if ib (x10 + x12) 40 then
(ex (d + 1) 132 94 [some (vr 7 0 8), some (vr 7 0 2), some (vr 7 0 4), some (vr 7 0 5), some (vi x4), none, some (vi x6), some (vi x7), some (vi x8), none, some (vi x10), some (vi (x11 &&& (((nI 1) <<< ((O 7 0 8 (Int32.toNatClampNeg (x10 + x12))) &&& (31:Int32))) ^^^ (-1)))), some (vi (x12 + (nI 1)))] [] O)
else none))
else none))
else
(ex (d + 1) 132 94 [some (vr 7 0 8), some (vr 7 0 2), some (vr 7 0 4), some (vr 7 0 5), some (vi x4), none, some (vi x6), some (vi x7), some (vi x8), none, some (vi x10), some (vi (x11 &&& (-1))), some (vi (x12 + (nI 1)))] [] O))
else none)
else
(if ib (x10 + x6) 40 then
((ex d 131 0 [some (vr 7 0 2), some (vr 7 0 5), some (vi x11)] [] O).bind fun r0 =>
if ib ((nI 6) * x4) 24 then
(if (r0.2 7 0 4 (Int32.toNatClampNeg ((nI 6) * x4))) = (nI 1) then
(if ib (x10 + (nI 8)) 40 then
(if (r0.2 7 0 8 (Int32.toNatClampNeg (x10 + (nI 8)))) < nI 0 then
(ex (d + 1) 132 225 [some (vr 7 0 8), some (vr 7 0 2), some (vr 7 0 4), some (vr 7 0 5), some (vi x4), none, some (vi x6), some (vi x7), some (vi x8), none, some (vi x10), some (vi x11), some (vi (O 7 0 8 (Int32.toNatClampNeg (x10 + x6)))), some (vi r0.1)] [] r0.2)
else
(if ib (x10 + (nI 8)) 40 then
(if ((x11 >>> ((r0.2 7 0 8 (Int32.toNatClampNeg (x10 + (nI 8)))) &&& (31:Int32))) &&& (nI 1)) = (nI 1) then
(if ib (x10 + (nI 8)) 40 then
(ex (d + 1) 132 225 [some (vr 7 0 8), some (vr 7 0 2), some (vr 7 0 4), some (vr 7 0 5), some (vi x4), none, some (vi x6), some (vi x7), some (vi x8), none, some (vi x10), some (vi x11), some (vi (O 7 0 8 (Int32.toNatClampNeg (x10 + x6)))), some (vi (r0.2 7 0 8 (Int32.toNatClampNeg (x10 + (nI 8)))))] [] r0.2)
else none)
else
(ex (d + 1) 132 225 [some (vr 7 0 8), some (vr 7 0 2), some (vr 7 0 4), some (vr 7 0 5), some (vi x4), none, some (vi x6), some (vi x7), some (vi x8), none, some (vi x10), some (vi x11), some (vi (O 7 0 8 (Int32.toNatClampNeg (x10 + x6)))), some (vi r0.1)] [] r0.2))
else none))
else none)
else
(ex (d + 1) 132 225 [some (vr 7 0 8), some (vr 7 0 2), some (vr 7 0 4), some (vr 7 0 5), some (vi x4), none, some (vi x6), some (vi x7), some (vi x8), none, some (vi x10), some (vi x11), some (vi (O 7 0 8 (Int32.toNatClampNeg (x10 + x6)))), some (vi r0.1)] [] r0.2))
else none)
else none) := (ex_un d 132 300 94 [some (vr 7 0 8), some (vr 7 0 2), some (vr 7 0 4), some (vr 7 0 5), some (vi x4), none, some (vi x6), some (vi x7), some (vi x8), none, some (vi x10), some (vi x11), some (vi x12)] [] O).trans rfl
set_option maxRecDepth 100000 in
theorem sL_learns_225 (d : Nat) (O : Mem_) (x4 : Int32) (x6 : Int32) (x7 : Int32) (x8 : Int32) (x10 : Int32) (x11 : Int32) (x12 : Int32) (x13 : Int32) : ex (d + 1) 132 225 [some (vr 7 0 8), some (vr 7 0 2), some (vr 7 0 4), some (vr 7 0 5), some (vi x4), none, some (vi x6), some (vi x7), some (vi x8), none, some (vi x10), some (vi x11), some (vi x12), some (vi x13)] [] O =
if ib ((nI 6) * x4) 24 then
(if (O 7 0 4 (Int32.toNatClampNeg ((nI 6) * x4))) = (nI 2) then
(ex (d + 1) 132 243 [some (vr 7 0 8), some (vr 7 0 2), some (vr 7 0 4), some (vr 7 0 5), some (vi x4), none, some (vi x6), some (vi x7), some (vi x8), none, some (vi x10), some (vi x11), some (vi x12), some (vi x13), some (vi x13), some (vi (nI 0))] [] O)
else
(ex (d + 1) 132 301 [some (vr 7 0 8), some (vr 7 0 2), some (vr 7 0 4), none, some (vi x4), none, some (vi x6), some (vi x7), some (vi x8), none, some (vi x10), none, some (vi x12), some (vi x13)] [] O))
else none := (ex_un d 132 300 225 [some (vr 7 0 8), some (vr 7 0 2), some (vr 7 0 4), some (vr 7 0 5), some (vi x4), none, some (vi x6), some (vi x7), some (vi x8), none, some (vi x10), some (vi x11), some (vi x12), some (vi x13)] [] O).trans rfl
set_option maxRecDepth 100000 in
theorem sL_learns_243 (d : Nat) (O : Mem_) (x4 : Int32) (x6 : Int32) (x7 : Int32) (x8 : Int32) (x10 : Int32) (x11 : Int32) (x12 : Int32) (x13 : Int32) (x14 : Int32) (x15 : Int32) : ex (d + 1) 132 243 [some (vr 7 0 8), some (vr 7 0 2), some (vr 7 0 4), some (vr 7 0 5), some (vi x4), none, some (vi x6), some (vi x7), some (vi x8), none, some (vi x10), some (vi x11), some (vi x12), some (vi x13), some (vi x14), some (vi x15)] [] O =
if ib (nI 1) 4 then
(if x15 < (O 7 0 5 (Int32.toNatClampNeg (nI 1))) then
(if x14 < nI 0 then
(ex (d + 1) 132 301 [some (vr 7 0 8), some (vr 7 0 2), some (vr 7 0 4), none, some (vi x4), none, some (vi x6), some (vi x7), some (vi x8), none, some (vi x10), none, some (vi x12), some (vi x13)] [] O)
else
(if ((x11 >>> (x15 &&& (31:Int32))) &&& (nI 1)) = (nI 1) then
(if ib (((nI 3) * x15) + (nI 2)) 24 then
(if ib (((nI 3) * x14) + (nI 2)) 24 then
(if (O 7 0 2 (Int32.toNatClampNeg (((nI 3) * x15) + (nI 2)))) = (O 7 0 2 (Int32.toNatClampNeg (((nI 3) * x14) + (nI 2)))) then
(ex (d + 1) 132 243 [some (vr 7 0 8), some (vr 7 0 2), some (vr 7 0 4), some (vr 7 0 5), some (vi x4), none, some (vi x6), some (vi x7), some (vi x8), none, some (vi x10), some (vi x11), some (vi x12), some (vi x13), some (vi x14), some (vi (x15 + (nI 1)))] [] O)
else
(ex (d + 1) 132 243 [some (vr 7 0 8), some (vr 7 0 2), some (vr 7 0 4), some (vr 7 0 5), some (vi x4), none, some (vi x6), some (vi x7), some (vi x8), none, some (vi x10), some (vi x11), some (vi x12), some (vi (oI none)), some (vi x14), some (vi (x15 + (nI 1)))] [] O))
else none)
else none)
else
(ex (d + 1) 132 243 [some (vr 7 0 8), some (vr 7 0 2), some (vr 7 0 4), some (vr 7 0 5), some (vi x4), none, some (vi x6), some (vi x7), some (vi x8), none, some (vi x10), some (vi x11), some (vi x12), some (vi x13), some (vi x14), some (vi (x15 + (nI 1)))] [] O)))
else
(ex (d + 1) 132 301 [some (vr 7 0 8), some (vr 7 0 2), some (vr 7 0 4), none, some (vi x4), none, some (vi x6), some (vi x7), some (vi x8), none, some (vi x10), none, some (vi x12), some (vi x13)] [] O))
else none := (ex_un d 132 300 243 [some (vr 7 0 8), some (vr 7 0 2), some (vr 7 0 4), some (vr 7 0 5), some (vi x4), none, some (vi x6), some (vi x7), some (vi x8), none, some (vi x10), some (vi x11), some (vi x12), some (vi x13), some (vi x14), some (vi x15)] [] O).trans rfl
set_option maxRecDepth 100000 in
theorem sL_learns_301 (d : Nat) (O : Mem_) (x4 : Int32) (x6 : Int32) (x7 : Int32) (x8 : Int32) (x10 : Int32) (x12 : Int32) (x13 : Int32) : ex (d + 1) 132 301 [some (vr 7 0 8), some (vr 7 0 2), some (vr 7 0 4), none, some (vi x4), none, some (vi x6), some (vi x7), some (vi x8), none, some (vi x10), none, some (vi x12), some (vi x13)] [] O =
if ib ((nI 6) * x4) 24 then
(if (O 7 0 4 (Int32.toNatClampNeg ((nI 6) * x4))) = (nI 3) then
(if x12 < nI 0 then
(ex (d + 1) 132 382 [some (vr 7 0 8), none, none, none, none, none, some (vi x6), none, none, none, some (vi x10), none, none, some (vi x13)] [] O)
else
(if ib ((x10 + (nI 4)) + x6) 40 then
(if ib (((nI 3) * x12) + (nI 2)) 24 then
(if (((O 7 0 2 (Int32.toNatClampNeg (((nI 3) * x12) + (nI 2)))) >>> (x7 &&& (31:Int32))) &&& (nI 1)) = x8 then
(ex (d + 1) 132 350 [some (vr 7 0 8), none, none, none, none, none, some (vi x6), none, none, none, some (vi x10), none, some (vi x12), some (vi x13)] [vi (nI 0), vi (O 7 0 8 (Int32.toNatClampNeg ((x10 + (nI 4)) + x6))), vi ((x10 + (nI 4)) + x6), vr 7 0 8] O)
else
(ex (d + 1) 132 350 [some (vr 7 0 8), none, none, none, none, none, some (vi x6), none, none, none, some (vi x10), none, some (vi x12), some (vi x13)] [vi (nI 1), vi (O 7 0 8 (Int32.toNatClampNeg ((x10 + (nI 4)) + x6))), vi ((x10 + (nI 4)) + x6), vr 7 0 8] O))
else none)
else none))
else
(ex (d + 1) 132 382 [some (vr 7 0 8), none, none, none, none, none, some (vi x6), none, none, none, some (vi x10), none, none, some (vi x13)] [] O))
else none := (ex_un d 132 300 301 [some (vr 7 0 8), some (vr 7 0 2), some (vr 7 0 4), none, some (vi x4), none, some (vi x6), some (vi x7), some (vi x8), none, some (vi x10), none, some (vi x12), some (vi x13)] [] O).trans rfl
set_option maxRecDepth 100000 in
theorem sL_learns_350 (d : Nat) (O : Mem_) (x6 : Int32) (x10 : Int32) (x12 : Int32) (x13 : Int32) (y0 : Int32) (y1 : Int32) (y2 : Int32) : ex (d + 1) 132 350 [some (vr 7 0 8), none, none, none, none, none, some (vi x6), none, none, none, some (vi x10), none, some (vi x12), some (vi x13)] [vi y0, vi y1, vi y2, vr 7 0 8] O =
if ib y2 40 then
(if ib ((x10 + (nI 4)) + x6) 40 then
(if ((up O 7 0 8 (Int32.toNatClampNeg y2) (y1 + y0)) 7 0 8 (Int32.toNatClampNeg ((x10 + (nI 4)) + x6))) < (nI 2) then
(ex (d + 1) 132 382 [some (vr 7 0 8), none, none, none, none, none, some (vi x6), none, none, none, some (vi x10), none, none, some (vi x12)] [] (up O 7 0 8 (Int32.toNatClampNeg y2) (y1 + y0)))
else
(if ib ((x10 + (nI 4)) + x6) 40 then
(ex (d + 1) 132 382 [some (vr 7 0 8), none, none, none, none, none, some (vi x6), none, none, none, some (vi x10), none, none, some (vi x13)] [] (up (up O 7 0 8 (Int32.toNatClampNeg y2) (y1 + y0)) 7 0 8 (Int32.toNatClampNeg ((x10 + (nI 4)) + x6)) (nI 0)))
else none))
else none)
else none := (ex_un d 132 300 350 [some (vr 7 0 8), none, none, none, none, none, some (vi x6), none, none, none, some (vi x10), none, some (vi x12), some (vi x13)] [vi y0, vi y1, vi y2, vr 7 0 8] O).trans rfl
set_option maxRecDepth 100000 in
theorem sL_learns_382 (d : Nat) (O : Mem_) (x6 : Int32) (x10 : Int32) (x13 : Int32) : ex (d + 1) 132 382 [some (vr 7 0 8), none, none, none, none, none, some (vi x6), none, none, none, some (vi x10), none, none, some (vi x13)] [] O =
if ib (x10 + x6) 40 then
(if x13 < nI 0 then
(if ib (x10 + (nI 8)) 40 then
(if ib (x10 + (nI 8)) 40 then
(some (nI 0, (up (up O 7 0 8 (Int32.toNatClampNeg (x10 + x6)) x13) 7 0 8 (Int32.toNatClampNeg (x10 + (nI 8))) ((up O 7 0 8 (Int32.toNatClampNeg (x10 + x6)) x13) 7 0 8 (Int32.toNatClampNeg (x10 + (nI 8)))))))
else none)
else none)
else
(if ib (x10 + (nI 8)) 40 then
(some (nI 0, (up (up O 7 0 8 (Int32.toNatClampNeg (x10 + x6)) x13) 7 0 8 (Int32.toNatClampNeg (x10 + (nI 8))) x13)))
else none))
else none := (ex_un d 132 300 382 [some (vr 7 0 8), none, none, none, none, none, some (vi x6), none, none, none, some (vi x10), none, none, some (vi x13)] [] O).trans rfl
set_option maxRecDepth 100000 in
theorem sL_fitting_0 (d : Nat) (O : Mem_) (x1 : Int32) (x4 : Int32) : ex (d + 1) 133 0 [some (vr 7 0 7), some (vi x1), some (vr 7 0 2), some (vr 7 0 5), some (vi x4)] [] O =
if ib (nI 1) 4 then
(ex (d + 1) 133 12 [some (vr 7 0 7), some (vi x1), some (vr 7 0 2), some (vr 7 0 5), some (vi x4), some (vi (((nI 1) <<< ((O 7 0 5 (Int32.toNatClampNeg (nI 1))) &&& (31:Int32))) - (nI 1))), some (vi (nI 0))] [] O)
else none := (ex_un d 133 300 0 [some (vr 7 0 7), some (vi x1), some (vr 7 0 2), some (vr 7 0 5), some (vi x4)] [] O).trans rfl
set_option maxRecDepth 100000 in
theorem sL_fitting_12 (d : Nat) (O : Mem_) (x1 : Int32) (x4 : Int32) (x5 : Int32) (x6 : Int32) : ex (d + 1) 133 12 [some (vr 7 0 7), some (vi x1), some (vr 7 0 2), some (vr 7 0 5), some (vi x4), some (vi x5), some (vi x6)] [] O =
if x6 < x1 then
(ex (d + 1) 133 21 [some (vr 7 0 7), some (vi x1), some (vr 7 0 2), some (vr 7 0 5), some (vi x4), some (vi x5), some (vi x6), some (vi (nI 0))] [] O)
else
(some (x5, O)) := (ex_un d 133 300 12 [some (vr 7 0 7), some (vi x1), some (vr 7 0 2), some (vr 7 0 5), some (vi x4), some (vi x5), some (vi x6)] [] O).trans rfl
set_option maxRecDepth 100000 in
theorem sL_fitting_21 (d : Nat) (O : Mem_) (x1 : Int32) (x4 : Int32) (x5 : Int32) (x6 : Int32) (x7 : Int32) : ex (d + 1) 133 21 [some (vr 7 0 7), some (vi x1), some (vr 7 0 2), some (vr 7 0 5), some (vi x4), some (vi x5), some (vi x6), some (vi x7)] [] O =
if ib (nI 1) 4 then
(if x7 < (O 7 0 5 (Int32.toNatClampNeg (nI 1))) then
(if ib ((nI 3) * x6) 60 then
(if (O 7 0 7 (Int32.toNatClampNeg ((nI 3) * x6))) = x4 then
(if ib (((nI 3) * x7) + (nI 2)) 24 then
(if ib (((nI 3) * x6) + (nI 1)) 60 then
(if ib (((nI 3) * x6) + (nI 2)) 60 then
(if (((O 7 0 2 (Int32.toNatClampNeg (((nI 3) * x7) + (nI 2)))) >>> ((O 7 0 7 (Int32.toNatClampNeg (((nI 3) * x6) + (nI 1)))) &&& (31:Int32))) &&& (nI 1)) = (O 7 0 7 (Int32.toNatClampNeg (((nI 3) * x6) + (nI 2)))) then
(ex (d + 1) 133 21 [some (vr 7 0 7), some (vi x1), some (vr 7 0 2), some (vr 7 0 5), some (vi x4), some (vi (x5 &&& (-1))), some (vi x6), some (vi (x7 + (nI 1)))] [] O)
else
(ex (d + 1) 133 21 [some (vr 7 0 7), some (vi x1), some (vr 7 0 2), some (vr 7 0 5), some (vi x4), some (vi (x5 &&& (((nI 1) <<< (x7 &&& (31:Int32))) ^^^ (-1)))), some (vi x6), some (vi (x7 + (nI 1)))] [] O))
else none)
else none)
else none)
else
(ex (d + 1) 133 21 [some (vr 7 0 7), some (vi x1), some (vr 7 0 2), some (vr 7 0 5), some (vi x4), some (vi (x5 &&& (-1))), some (vi x6), some (vi (x7 + (nI 1)))] [] O))
else none)
else
(ex (d + 1) 133 12 [some (vr 7 0 7), some (vi x1), some (vr 7 0 2), some (vr 7 0 5), some (vi x4), some (vi x5), some (vi (x6 + (nI 1)))] [] O))
else none := (ex_un d 133 300 21 [some (vr 7 0 7), some (vi x1), some (vr 7 0 2), some (vr 7 0 5), some (vi x4), some (vi x5), some (vi x6), some (vi x7)] [] O).trans rfl
set_option maxRecDepth 100000 in
theorem sL_isSame_0 (d : Nat) (O : Mem_) (x3 : Int32) (x4 : Int32) : ex (d + 1) 134 0 [some (vr 7 0 8), some (vr 7 0 2), some (vr 7 0 3), some (vi x3), some (vi x4)] [] O =
if ib (((nI 10) * x3) + x4) 40 then
(if (O 7 0 8 (Int32.toNatClampNeg (((nI 10) * x3) + x4))) < nI 0 then
(some ((nI 0), O))
else
(if ib (((nI 3) * (O 7 0 8 (Int32.toNatClampNeg (((nI 10) * x3) + x4)))) + (nI 2)) 24 then
(if ib x4 4 then
(if ib (((nI 3) * (O 7 0 3 (Int32.toNatClampNeg x4))) + (nI 2)) 24 then
(if (O 7 0 2 (Int32.toNatClampNeg (((nI 3) * (O 7 0 8 (Int32.toNatClampNeg (((nI 10) * x3) + x4)))) + (nI 2)))) = (O 7 0 2 (Int32.toNatClampNeg (((nI 3) * (O 7 0 3 (Int32.toNatClampNeg x4))) + (nI 2)))) then
(some ((nI 1), O))
else
(some ((nI 0), O)))
else none)
else none)
else none))
else none := (ex_un d 134 300 0 [some (vr 7 0 8), some (vr 7 0 2), some (vr 7 0 3), some (vi x3), some (vi x4)] [] O).trans rfl
set_option maxRecDepth 100000 in
theorem sL_all_0 (d : Nat) (O : Mem_) (x2 : Int32) : ex (d + 1) 135 0 [some (vr 7 0 8), some (vr 7 0 7), some (vi x2), some (vr 7 0 2), some (vr 7 0 4), some (vr 7 0 5)] [] O =
(ex d 130 0 [some (vr 7 0 8)] [] O).bind fun r0 =>
ex (d + 1) 135 7 [some (vr 7 0 8), some (vr 7 0 7), some (vi x2), some (vr 7 0 2), some (vr 7 0 4), some (vr 7 0 5), some (vi (nI 0))] [] r0.2 := (ex_un d 135 300 0 [some (vr 7 0 8), some (vr 7 0 7), some (vi x2), some (vr 7 0 2), some (vr 7 0 4), some (vr 7 0 5)] [] O).trans rfl
set_option maxRecDepth 100000 in
theorem sL_all_7 (d : Nat) (O : Mem_) (x2 : Int32) (x6 : Int32) : ex (d + 1) 135 7 [some (vr 7 0 8), some (vr 7 0 7), some (vi x2), some (vr 7 0 2), some (vr 7 0 4), some (vr 7 0 5), some (vi x6)] [] O =
if x6 < x2 then
(if ib ((nI 3) * x6) 60 then
((ex d 133 0 [some (vr 7 0 7), some (vi (x6 + (nI 1))), some (vr 7 0 2), some (vr 7 0 5), some (vi (O 7 0 7 (Int32.toNatClampNeg ((nI 3) * x6))))] [] O).bind fun r0 =>
ex (d + 1) 135 35 [some (vr 7 0 8), some (vr 7 0 7), some (vi x2), some (vr 7 0 2), some (vr 7 0 4), some (vr 7 0 5), some (vi x6), some (vi r0.1), some (vi (nI 0))] [] r0.2)
else none)
else
(some (nI 0, O)) := (ex_un d 135 300 7 [some (vr 7 0 8), some (vr 7 0 7), some (vi x2), some (vr 7 0 2), some (vr 7 0 4), some (vr 7 0 5), some (vi x6)] [] O).trans rfl
set_option maxRecDepth 100000 in
theorem sL_all_35 (d : Nat) (O : Mem_) (x2 : Int32) (x6 : Int32) (x7 : Int32) (x8 : Int32) : ex (d + 1) 135 35 [some (vr 7 0 8), some (vr 7 0 7), some (vi x2), some (vr 7 0 2), some (vr 7 0 4), some (vr 7 0 5), some (vi x6), some (vi x7), some (vi x8)] [] O =
if ib (nI 3) 4 then
(if x8 < (O 7 0 5 (Int32.toNatClampNeg (nI 3))) then
(if ib ((nI 3) * x6) 60 then
(if ib (((nI 3) * x6) + (nI 1)) 60 then
(if ib (((nI 3) * x6) + (nI 2)) 60 then
((ex d 132 0 [some (vr 7 0 8), some (vr 7 0 2), some (vr 7 0 4), some (vr 7 0 5), some (vi x8), some (vi x6), some (vi (O 7 0 7 (Int32.toNatClampNeg ((nI 3) * x6)))), some (vi (O 7 0 7 (Int32.toNatClampNeg (((nI 3) * x6) + (nI 1))))), some (vi (O 7 0 7 (Int32.toNatClampNeg (((nI 3) * x6) + (nI 2))))), some (vi x7)] [] O).bind fun r0 =>
ex (d + 1) 135 35 [some (vr 7 0 8), some (vr 7 0 7), some (vi x2), some (vr 7 0 2), some (vr 7 0 4), some (vr 7 0 5), some (vi x6), some (vi x7), some (vi (x8 + (nI 1)))] [] r0.2)
else none)
else none)
else none)
else
(ex (d + 1) 135 7 [some (vr 7 0 8), some (vr 7 0 7), some (vi x2), some (vr 7 0 2), some (vr 7 0 4), some (vr 7 0 5), some (vi (x6 + (nI 1)))] [] O))
else none := (ex_un d 135 300 35 [some (vr 7 0 8), some (vr 7 0 7), some (vi x2), some (vr 7 0 2), some (vr 7 0 4), some (vr 7 0 5), some (vi x6), some (vi x7), some (vi x8)] [] O).trans rfl
