set_option maxRecDepth 100000 in
theorem sX7_in_0 (d : Nat) (O : Mem_) (x0 : Int64) (x2 : Int64) (x4 : Int64) : ex (d + 1) 121 0 [some (vl x0), none, some (vl x2), none, some (vl x4), none] [] O =
if (lg_cmp x0 x2) < nI 0 then
(some ((nI 0), O))
else
(if nI 0 < (lg_cmp x0 x4) then
(some ((nI 0), O))
else
(some ((nI 1), O))) := (ex_un d 121 300 0 [some (vl x0), none, some (vl x2), none, some (vl x4), none] [] O).trans rfl
set_option maxRecDepth 100000 in
theorem sX7_flag_0 (d : Nat) (O : Mem_) (x0 : Int32) : ex (d + 1) 122 0 [some (vi x0)] [] O =
if x0 = nI 0 then
(some ((nI 0), O))
else
(some ((nI 1), O)) := (ex_un d 122 300 0 [some (vi x0)] [] O).trans rfl
set_option maxRecDepth 100000 in
theorem sX7_countOf_0 (d : Nat) (O : Mem_) (x0 : Int32) : ex (d + 1) 123 0 [some (vi x0)] [] O =
ex (d + 1) 123 4 [some (vi x0), some (vi (nI 0)), some (vi (nI 0))] [] O := (ex_un d 123 300 0 [some (vi x0)] [] O).trans rfl
set_option maxRecDepth 100000 in
theorem sX7_countOf_4 (d : Nat) (O : Mem_) (x0 : Int32) (x1 : Int32) (x2 : Int32) : ex (d + 1) 123 4 [some (vi x0), some (vi x1), some (vi x2)] [] O =
if x2 < (nI 16) then
(ex (d + 1) 123 4 [some (vi x0), some (vi (x1 + ((x0 >>> (x2 &&& (31:Int32))) &&& (nI 1)))), some (vi (x2 + (nI 1)))] [] O)
else
(some (x1, O)) := (ex_un d 123 300 4 [some (vi x0), some (vi x1), some (vi x2)] [] O).trans rfl
set_option maxRecDepth 100000 in
theorem sX7_firstDraft_0 (d : Nat) (O : Mem_)  : ex (d + 1) 124 0 [some (vr 7 0 0)] [] O =
some (nI 0, (up (up (up (up O 7 0 0 9 (nI 0)) 7 0 0 11 (nI 0)) 7 0 0 14 (nI 0)) 7 0 0 16 (nI 0))) := (ex_un d 124 300 0 [some (vr 7 0 0)] [] O).trans rfl
set_option maxRecDepth 100000 in
theorem sX7_keepDraft_0 (d : Nat) (O : Mem_)  : ex (d + 1) 125 0 [some (vr 7 0 0)] [] O =
ex (d + 1) 125 34 [some (vr 7 0 0), some (vi (nI 0))] [] (up (up (up (up O 7 0 0 0 (O 7 0 0 9)) 7 0 0 2 ((up O 7 0 0 0 (O 7 0 0 9)) 7 0 0 11)) 7 0 0 5 ((up (up O 7 0 0 0 (O 7 0 0 9)) 7 0 0 2 ((up O 7 0 0 0 (O 7 0 0 9)) 7 0 0 11)) 7 0 0 14)) 7 0 0 7 ((up (up (up O 7 0 0 0 (O 7 0 0 9)) 7 0 0 2 ((up O 7 0 0 0 (O 7 0 0 9)) 7 0 0 11)) 7 0 0 5 ((up (up O 7 0 0 0 (O 7 0 0 9)) 7 0 0 2 ((up O 7 0 0 0 (O 7 0 0 9)) 7 0 0 11)) 7 0 0 14)) 7 0 0 16)) := (ex_un d 125 300 0 [some (vr 7 0 0)] [] O).trans rfl
set_option maxRecDepth 100000 in
theorem sX7_keepDraft_34 (d : Nat) (O : Mem_) (x1 : Int32) : ex (d + 1) 125 34 [some (vr 7 0 0), some (vi x1)] [] O =
if x1 < (nI 8) then
(if ib x1 8 then
(if ib x1 8 then
(ex (d + 1) 125 34 [some (vr 7 0 0), some (vi (x1 + (nI 1)))] [] (up O 7 0 2 (Int32.toNatClampNeg x1) (O 7 0 11 (Int32.toNatClampNeg x1))))
else none)
else none)
else
(ex (d + 1) 125 60 [some (vr 7 0 0), some (vi (nI 0))] [] O) := (ex_un d 125 300 34 [some (vr 7 0 0), some (vi x1)] [] O).trans rfl
set_option maxRecDepth 100000 in
theorem sX7_keepDraft_60 (d : Nat) (O : Mem_) (x1 : Int32) : ex (d + 1) 125 60 [some (vr 7 0 0), some (vi x1)] [] O =
if x1 < (nI 12) then
(if ib x1 12 then
(if ib x1 12 then
(if ib x1 12 then
(if ib x1 12 then
(if ib x1 12 then
(ex (d + 1) 125 99 [some (vr 7 0 0), some (vi x1), some (vi (nI 0))] [] (up (up (up O 7 0 4 (Int32.toNatClampNeg x1) (O 7 0 13 (Int32.toNatClampNeg x1))) 7 0 5 (Int32.toNatClampNeg x1) ((up O 7 0 4 (Int32.toNatClampNeg x1) (O 7 0 13 (Int32.toNatClampNeg x1))) 7 0 14 (Int32.toNatClampNeg x1))) 7 0 19 (Int32.toNatClampNeg x1) (nI 0)))
else none)
else none)
else none)
else none)
else none)
else
(ex (d + 1) 125 175 [some (vr 7 0 0), some (vi (nI 0))] [] O) := (ex_un d 125 300 60 [some (vr 7 0 0), some (vi x1)] [] O).trans rfl
set_option maxRecDepth 100000 in
theorem sX7_keepDraft_99 (d : Nat) (O : Mem_) (x1 : Int32) (x2 : Int32) : ex (d + 1) 125 99 [some (vr 7 0 0), some (vi x1), some (vi x2)] [] O =
if x2 < (O 7 0 0 0) then
(if ib x1 12 then
(if ib x2 8 then
(if ib x1 12 then
(if ib x1 12 then
(if ((O 7 0 2 (Int32.toNatClampNeg x2)) &&& (O 7 0 4 (Int32.toNatClampNeg x1))) = (O 7 0 4 (Int32.toNatClampNeg x1)) then
(if ib x2 8 then
(if ib x1 12 then
(if ((O 7 0 2 (Int32.toNatClampNeg x2)) &&& (O 7 0 5 (Int32.toNatClampNeg x1))) = nI 0 then
(if ib x1 12 then
(ex (d + 1) 125 99 [some (vr 7 0 0), some (vi x1), some (vi (x2 + (nI 1)))] [] (up O 7 0 19 (Int32.toNatClampNeg x1) ((O 7 0 19 (Int32.toNatClampNeg x1)) ||| ((nI 1) <<< (x2 &&& (31:Int32))))))
else none)
else
(if ib x1 12 then
(ex (d + 1) 125 99 [some (vr 7 0 0), some (vi x1), some (vi (x2 + (nI 1)))] [] (up O 7 0 19 (Int32.toNatClampNeg x1) ((O 7 0 19 (Int32.toNatClampNeg x1)) ||| (nI 0))))
else none))
else none)
else none)
else
(if ib x1 12 then
(ex (d + 1) 125 99 [some (vr 7 0 0), some (vi x1), some (vi (x2 + (nI 1)))] [] (up O 7 0 19 (Int32.toNatClampNeg x1) ((O 7 0 19 (Int32.toNatClampNeg x1)) ||| (nI 0))))
else none))
else none)
else none)
else none)
else none)
else
(ex (d + 1) 125 60 [some (vr 7 0 0), some (vi (x1 + (nI 1)))] [] O) := (ex_un d 125 300 99 [some (vr 7 0 0), some (vi x1), some (vi x2)] [] O).trans rfl
set_option maxRecDepth 100000 in
theorem sX7_keepDraft_175 (d : Nat) (O : Mem_) (x1 : Int32) : ex (d + 1) 125 175 [some (vr 7 0 0), some (vi x1)] [] O =
if x1 < (nI 4) then
(if ib x1 4 then
(if ib x1 4 then
(ex (d + 1) 125 175 [some (vr 7 0 0), some (vi (x1 + (nI 1)))] [] (up O 7 0 7 (Int32.toNatClampNeg x1) (O 7 0 16 (Int32.toNatClampNeg x1))))
else none)
else none)
else
(ex (d + 1) 125 200 [some (vr 7 0 0), some (vi (nI 0))] [] O) := (ex_un d 125 300 175 [some (vr 7 0 0), some (vi x1)] [] O).trans rfl
set_option maxRecDepth 100000 in
theorem sX7_keepDraft_200 (d : Nat) (O : Mem_) (x1 : Int32) : ex (d + 1) 125 200 [some (vr 7 0 0), some (vi x1)] [] O =
if x1 < (nI 30) then
(if ib x1 30 then
(if ib x1 30 then
(ex (d + 1) 125 200 [some (vr 7 0 0), some (vi (x1 + (nI 1)))] [] (up O 7 0 9 (Int32.toNatClampNeg x1) (O 7 0 18 (Int32.toNatClampNeg x1))))
else none)
else none)
else
(if ib (nI 0) 2 then
(if ib (nI 1) 2 then
((ex d 162 0 [some (vr 7 0 0)] [] (up (up (up (up (up O 7 0 0 28 (nI 0)) 7 0 0 33 (((nI 1) <<< (((up O 7 0 0 28 (nI 0)) 7 0 0 7) &&& (31:Int32))) - (nI 1))) 7 0 0 34 (nI 0)) 7 0 38 (Int32.toNatClampNeg (nI 0)) (nI 0)) 7 0 38 (Int32.toNatClampNeg (nI 1)) (nI 0))).bind fun r0 =>
some (nI 0, r0.2))
else none)
else none) := (ex_un d 125 300 200 [some (vr 7 0 0), some (vi x1)] [] O).trans rfl
set_option maxRecDepth 100000 in
theorem sX7_feed_0 (d : Nat) (O : Mem_) (x1 : Int64) : ex (d + 1) 126 0 [some (vr 7 0 0), some (vl x1), none] [] O =
if (nI 400) < ((O 7 0 0 20) + (nI 8)) then
(some ((-3), O))
else
(ex (d + 1) 126 19 [some (vr 7 0 0), some (vl x1), none, some (vi (nI 56))] [] O) := (ex_un d 126 300 0 [some (vr 7 0 0), some (vl x1), none] [] O).trans rfl
set_option maxRecDepth 100000 in
theorem sX7_feed_19 (d : Nat) (O : Mem_) (x1 : Int64) (x3 : Int32) : ex (d + 1) 126 19 [some (vr 7 0 0), some (vl x1), none, some (vi x3)] [] O =
if x3 < nI 0 then
(some ((O 7 0 0 20), O))
else
(if ib (O 7 0 0 20) 400 then
(ex (d + 1) 126 19 [some (vr 7 0 0), some (vl x1), none, some (vi (x3 + (-8)))] [] (up (up O 7 0 20 (Int32.toNatClampNeg (O 7 0 0 20)) (Int64.toInt32 ((x1 >>> (Int32.toInt64 x3 &&& 63)) &&& (255)))) 7 0 0 20 (((up O 7 0 20 (Int32.toNatClampNeg (O 7 0 0 20)) (Int64.toInt32 ((x1 >>> (Int32.toInt64 x3 &&& 63)) &&& (255)))) 7 0 0 20) + (nI 1))))
else none) := (ex_un d 126 300 19 [some (vr 7 0 0), some (vl x1), none, some (vi x3)] [] O).trans rfl
set_option maxRecDepth 100000 in
theorem sX7_end_0 (d : Nat) (O : Mem_) (x1 : Int32) : ex (d + 1) 127 0 [some (vr 7 0 0), some (vi x1)] [] O =
(ex d 121 0 [some (vl (Int32.toInt64 x1)), none, some (vl 0), none, some (vl (Int32.toInt64 (O 7 0 0 20))), none] [] O).bind fun r0 =>
if r0.1 = nI 0 then
(some ((-1), r0.2))
else
(some ((r0.2 7 0 0 20), (up r0.2 7 0 0 20 x1))) := (ex_un d 127 300 0 [some (vr 7 0 0), some (vi x1)] [] O).trans rfl
set_option maxRecDepth 100000 in
theorem sX7_needs_0 (d : Nat) (O : Mem_) (x1 : Int32) (x2 : Int32) : ex (d + 1) 128 0 [some (vr 7 0 0), some (vi x1), some (vi x2)] [] O =
if x1 = nI 0 then
(if (O 7 0 0 25) = nI 0 then
(some (nI 0, (up (up O 7 0 0 25 x2) 7 0 0 26 ((up O 7 0 0 25 x2) 7 0 0 22))))
else
(some (nI 0, O)))
else
(some (nI 0, O)) := (ex_un d 128 300 0 [some (vr 7 0 0), some (vi x1), some (vi x2)] [] O).trans rfl
set_option maxRecDepth 100000 in
theorem sX7_look_0 (d : Nat) (O : Mem_) (x1 : Int32) : ex (d + 1) 129 0 [some (vr 7 0 0), some (vi x1)] [] O =
if x1 < (O 7 0 0 20) then
(if ib x1 400 then
(some ((O 7 0 20 (Int32.toNatClampNeg x1)), O))
else none)
else
(some ((-1), O)) := (ex_un d 129 300 0 [some (vr 7 0 0), some (vi x1)] [] O).trans rfl
set_option maxRecDepth 100000 in
theorem sX7_is_0 (d : Nat) (O : Mem_) (x1 : Int32) (x2 : Int32) (x3 : Int32) (x4 : Int32) (x5 : Int32) : ex (d + 1) 130 0 [some (vr 7 0 0), some (vi x1), some (vi x2), some (vi x3), some (vi x4), some (vi x5)] [] O =
if ((O 7 0 0 21) - (O 7 0 0 22)) = x1 then
((ex d 129 0 [some (vr 7 0 0), some (vi (O 7 0 0 22))] [] O).bind fun r0 =>
if r0.1 = x2 then
((ex d 129 0 [some (vr 7 0 0), some (vi ((r0.2 7 0 0 22) + (nI 1)))] [] r0.2).bind fun r1 =>
if r1.1 = x3 then
((ex d 129 0 [some (vr 7 0 0), some (vi ((r1.2 7 0 0 22) + (nI 2)))] [] r1.2).bind fun r2 =>
if r2.1 = x4 then
(if x1 < (nI 4) then
(some ((nI 1), r2.2))
else
((ex d 129 0 [some (vr 7 0 0), some (vi ((r2.2 7 0 0 22) + (nI 3)))] [] r2.2).bind fun r3 =>
if r3.1 = x5 then
(some ((nI 1), r3.2))
else
(some ((nI 0), r3.2))))
else
(some ((nI 0), r2.2)))
else
(some ((nI 0), r1.2)))
else
(some ((nI 0), r0.2)))
else
(some ((nI 0), O)) := (ex_un d 130 300 0 [some (vr 7 0 0), some (vi x1), some (vi x2), some (vi x3), some (vi x4), some (vi x5)] [] O).trans rfl
set_option maxRecDepth 100000 in
theorem sX7_goesOn_0 (d : Nat) (O : Mem_) (x1 : Int32) (x2 : Int32) (x3 : Int32) : ex (d + 1) 131 0 [some (vr 7 0 0), some (vi x1), some (vi x2), some (vi x3)] [] O =
(ex d 129 0 [some (vr 7 0 0), some (vi ((O 7 0 0 22) + (nI 4)))] [] O).bind fun r0 =>
if r0.1 = x1 then
(if x2 = nI 0 then
(ex (d + 1) 131 32 [some (vr 7 0 0), none, none, some (vi x3)] [] r0.2)
else
((ex d 129 0 [some (vr 7 0 0), some (vi ((r0.2 7 0 0 22) + (nI 5)))] [] r0.2).bind fun r1 =>
if r1.1 = x2 then
(ex (d + 1) 131 32 [some (vr 7 0 0), none, none, some (vi x3)] [] r1.2)
else
(some ((nI 0), r1.2))))
else
(some ((nI 0), r0.2)) := (ex_un d 131 300 0 [some (vr 7 0 0), some (vi x1), some (vi x2), some (vi x3)] [] O).trans rfl
set_option maxRecDepth 100000 in
theorem sX7_goesOn_32 (d : Nat) (O : Mem_) (x3 : Int32) : ex (d + 1) 131 32 [some (vr 7 0 0), none, none, some (vi x3)] [] O =
if x3 = nI 0 then
(some ((nI 1), O))
else
((ex d 129 0 [some (vr 7 0 0), some (vi ((O 7 0 0 22) + (nI 6)))] [] O).bind fun r0 =>
if r0.1 = x3 then
(some ((nI 1), r0.2))
else
(some ((nI 0), r0.2))) := (ex_un d 131 300 32 [some (vr 7 0 0), none, none, some (vi x3)] [] O).trans rfl
set_option maxRecDepth 100000 in
theorem sX7_kindNow_0 (d : Nat) (O : Mem_)  : ex (d + 1) 132 0 [some (vr 7 0 0)] [] O =
(ex d 130 0 [some (vr 7 0 0), some (vi (nI 5)), some (vi (nI 112)), some (vi (nI 108)), some (vi (nI 97)), some (vi (nI 105))] [] O).bind fun r0 =>
if r0.1 = nI 0 then
(ex (d + 1) 132 29 [some (vr 7 0 0)] [] r0.2)
else
((ex d 131 0 [some (vr 7 0 0), some (vi (nI 110)), some (vi (nI 0)), some (vi (nI 0))] [] r0.2).bind fun r1 =>
if r1.1 = nI 0 then
(ex (d + 1) 132 29 [some (vr 7 0 0)] [] r1.2)
else
(some ((nI 0), r1.2))) := (ex_un d 132 300 0 [some (vr 7 0 0)] [] O).trans rfl
set_option maxRecDepth 100000 in
theorem sX7_kindNow_29 (d : Nat) (O : Mem_)  : ex (d + 1) 132 29 [some (vr 7 0 0)] [] O =
(ex d 130 0 [some (vr 7 0 0), some (vi (nI 4)), some (vi (nI 108)), some (vi (nI 97)), some (vi (nI 115)), some (vi (nI 116))] [] O).bind fun r0 =>
if r0.1 = nI 0 then
((ex d 130 0 [some (vr 7 0 0), some (vi (nI 7)), some (vi (nI 99)), some (vi (nI 97)), some (vi (nI 114)), some (vi (nI 101))] [] r0.2).bind fun r1 =>
if r1.1 = nI 0 then
(ex (d + 1) 132 79 [some (vr 7 0 0)] [] r1.2)
else
((ex d 131 0 [some (vr 7 0 0), some (vi (nI 102)), some (vi (nI 117)), some (vi (nI 108))] [] r1.2).bind fun r2 =>
if r2.1 = nI 0 then
(ex (d + 1) 132 79 [some (vr 7 0 0)] [] r2.2)
else
(some ((nI 2), r2.2))))
else
(some ((nI 1), r0.2)) := (ex_un d 132 300 29 [some (vr 7 0 0)] [] O).trans rfl
set_option maxRecDepth 100000 in
theorem sX7_kindNow_79 (d : Nat) (O : Mem_)  : ex (d + 1) 132 79 [some (vr 7 0 0)] [] O =
(ex d 130 0 [some (vr 7 0 0), some (vi (nI 5)), some (vi (nI 112)), some (vi (nI 114)), some (vi (nI 111)), some (vi (nI 117))] [] O).bind fun r0 =>
if r0.1 = nI 0 then
(some ((oI none), r0.2))
else
((ex d 131 0 [some (vr 7 0 0), some (vi (nI 100)), some (vi (nI 0)), some (vi (nI 0))] [] r0.2).bind fun r1 =>
if r1.1 = nI 0 then
(some ((oI none), r1.2))
else
(some ((nI 3), r1.2))) := (ex_un d 132 300 79 [some (vr 7 0 0)] [] O).trans rfl
set_option maxRecDepth 100000 in
theorem sX7_nameNow_0 (d : Nat) (O : Mem_)  : ex (d + 1) 133 0 [some (vr 7 0 0)] [] O =
(ex d 132 0 [some (vr 7 0 0)] [] O).bind fun r0 =>
if r0.1 = (oI none) then
((ex d 130 0 [some (vr 7 0 0), some (vi (nI 5)), some (vi (nI 116)), some (vi (nI 104)), some (vi (nI 105)), some (vi (nI 110))] [] r0.2).bind fun r1 =>
if r1.1 = nI 0 then
(ex (d + 1) 133 44 [some (vr 7 0 0)] [] r1.2)
else
((ex d 131 0 [some (vr 7 0 0), some (vi (nI 103)), some (vi (nI 0)), some (vi (nI 0))] [] r1.2).bind fun r2 =>
if r2.1 = nI 0 then
(ex (d + 1) 133 44 [some (vr 7 0 0)] [] r2.2)
else
(some ((nI 10), r2.2))))
else
((ex d 132 0 [some (vr 7 0 0)] [] r0.2).bind fun r3 =>
some (r3.1, r3.2)) := (ex_un d 133 300 0 [some (vr 7 0 0)] [] O).trans rfl
set_option maxRecDepth 100000 in
theorem sX7_nameNow_44 (d : Nat) (O : Mem_)  : ex (d + 1) 133 44 [some (vr 7 0 0)] [] O =
(ex d 130 0 [some (vr 7 0 0), some (vi (nI 5)), some (vi (nI 109)), some (vi (nI 101)), some (vi (nI 97)), some (vi (nI 110))] [] O).bind fun r0 =>
if r0.1 = nI 0 then
(ex (d + 1) 133 74 [some (vr 7 0 0)] [] r0.2)
else
((ex d 131 0 [some (vr 7 0 0), some (vi (nI 115)), some (vi (nI 0)), some (vi (nI 0))] [] r0.2).bind fun r1 =>
if r1.1 = nI 0 then
(ex (d + 1) 133 74 [some (vr 7 0 0)] [] r1.2)
else
(some ((nI 11), r1.2))) := (ex_un d 133 300 44 [some (vr 7 0 0)] [] O).trans rfl
set_option maxRecDepth 100000 in
theorem sX7_nameNow_74 (d : Nat) (O : Mem_)  : ex (d + 1) 133 74 [some (vr 7 0 0)] [] O =
(ex d 130 0 [some (vr 7 0 0), some (vi (nI 4)), some (vi (nI 119)), some (vi (nI 111)), some (vi (nI 114)), some (vi (nI 100))] [] O).bind fun r0 =>
if r0.1 = nI 0 then
((ex d 130 0 [some (vr 7 0 0), some (vi (nI 3)), some (vi (nI 110)), some (vi (nI 111)), some (vi (nI 116)), some (vi (nI 0))] [] r0.2).bind fun r1 =>
if r1.1 = nI 0 then
((ex d 130 0 [some (vr 7 0 0), some (vi (nI 4)), some (vi (nI 115)), some (vi (nI 101)), some (vi (nI 101)), some (vi (nI 115))] [] r1.2).bind fun r2 =>
if r2.1 = nI 0 then
((ex d 130 0 [some (vr 7 0 0), some (vi (nI 5)), some (vi (nI 102)), some (vi (nI 101)), some (vi (nI 97)), some (vi (nI 114))] [] r2.2).bind fun r3 =>
if r3.1 = nI 0 then
(ex (d + 1) 133 160 [some (vr 7 0 0)] [] r3.2)
else
((ex d 131 0 [some (vr 7 0 0), some (vi (nI 115)), some (vi (nI 0)), some (vi (nI 0))] [] r3.2).bind fun r4 =>
if r4.1 = nI 0 then
(ex (d + 1) 133 160 [some (vr 7 0 0)] [] r4.2)
else
(some ((nI 15), r4.2))))
else
(some ((nI 14), r2.2)))
else
(some ((nI 13), r1.2)))
else
(some ((nI 12), r0.2)) := (ex_un d 133 300 74 [some (vr 7 0 0)] [] O).trans rfl
set_option maxRecDepth 100000 in
theorem sX7_nameNow_160 (d : Nat) (O : Mem_)  : ex (d + 1) 133 160 [some (vr 7 0 0)] [] O =
(ex d 130 0 [some (vr 7 0 0), some (vi (nI 6)), some (vi (nI 117)), some (vi (nI 110)), some (vi (nI 108)), some (vi (nI 105))] [] O).bind fun r0 =>
if r0.1 = nI 0 then
(ex (d + 1) 133 192 [some (vr 7 0 0)] [] r0.2)
else
((ex d 131 0 [some (vr 7 0 0), some (vi (nI 107)), some (vi (nI 101)), some (vi (nI 0))] [] r0.2).bind fun r1 =>
if r1.1 = nI 0 then
(ex (d + 1) 133 192 [some (vr 7 0 0)] [] r1.2)
else
(some ((nI 16), r1.2))) := (ex_un d 133 300 160 [some (vr 7 0 0)] [] O).trans rfl
set_option maxRecDepth 100000 in
theorem sX7_nameNow_192 (d : Nat) (O : Mem_)  : ex (d + 1) 133 192 [some (vr 7 0 0)] [] O =
(ex d 130 0 [some (vr 7 0 0), some (vi (nI 6)), some (vi (nI 99)), some (vi (nI 104)), some (vi (nI 97)), some (vi (nI 110))] [] O).bind fun r0 =>
if r0.1 = nI 0 then
(some ((oI none), r0.2))
else
((ex d 131 0 [some (vr 7 0 0), some (vi (nI 99)), some (vi (nI 101)), some (vi (nI 0))] [] r0.2).bind fun r1 =>
if r1.1 = nI 0 then
(some ((oI none), r1.2))
else
(some ((nI 17), r1.2))) := (ex_un d 133 300 192 [some (vr 7 0 0)] [] O).trans rfl
set_option maxRecDepth 100000 in
theorem sX7_next_0 (d : Nat) (O : Mem_)  : ex (d + 1) 134 0 [some (vr 7 0 0)] [] O =
if nI 0 < (O 7 0 0 25) then
(some (nI 0, O))
else
(ex (d + 1) 134 8 [some (vr 7 0 0)] [] O) := (ex_un d 134 300 0 [some (vr 7 0 0)] [] O).trans rfl
set_option maxRecDepth 100000 in
theorem sX7_next_8 (d : Nat) (O : Mem_)  : ex (d + 1) 134 8 [some (vr 7 0 0)] [] O =
(ex d 129 0 [some (vr 7 0 0), some (vi (O 7 0 0 21))] [] O).bind fun r0 =>
if r0.1 = (nI 32) then
(ex (d + 1) 134 8 [some (vr 7 0 0)] [] (up r0.2 7 0 0 21 ((r0.2 7 0 0 21) + (nI 1))))
else
((ex d 129 0 [some (vr 7 0 0), some (vi ((up r0.2 7 0 0 22 (r0.2 7 0 0 21)) 7 0 0 21))] [] (up r0.2 7 0 0 22 (r0.2 7 0 0 21))).bind fun r1 =>
if r1.1 < nI 0 then
(some (nI 0, (up r1.2 7 0 0 23 (nI 0))))
else
((ex d 121 0 [some (vl (Int32.toInt64 r1.1)), none, some (vl (97)), none, some (vl (122)), none] [] r1.2).bind fun r2 =>
if r2.1 = nI 0 then
((ex d 121 0 [some (vl (Int32.toInt64 r1.1)), none, some (vl (48)), none, some (vl (57)), none] [] r2.2).bind fun r3 =>
if r3.1 = nI 0 then
(if r1.1 = (nI 45) then
(ex (d + 1) 134 255 [some (vr 7 0 0), some (vi r1.1)] [vi (nI 4), vr 7 0 0] r3.2)
else
(ex (d + 1) 134 255 [some (vr 7 0 0), some (vi r1.1)] [vi (nI 3), vr 7 0 0] r3.2))
else
(ex (d + 1) 134 140 [some (vr 7 0 0)] [] (up (up r3.2 7 0 0 23 (nI 2)) 7 0 0 24 (nI 0))))
else
(ex (d + 1) 134 82 [some (vr 7 0 0)] [] (up r2.2 7 0 0 23 (nI 1))))) := (ex_un d 134 300 8 [some (vr 7 0 0)] [] O).trans rfl
set_option maxRecDepth 100000 in
theorem sX7_next_82 (d : Nat) (O : Mem_)  : ex (d + 1) 134 82 [some (vr 7 0 0)] [] O =
(ex d 129 0 [some (vr 7 0 0), some (vi (O 7 0 0 21))] [] O).bind fun r0 =>
(ex d 121 0 [some (vl (Int32.toInt64 r0.1)), none, some (vl (97)), none, some (vl (122)), none] [] r0.2).bind fun r1 =>
if r1.1 = nI 0 then
(some (nI 0, r1.2))
else
(ex (d + 1) 134 82 [some (vr 7 0 0)] [] (up r1.2 7 0 0 21 ((r1.2 7 0 0 21) + (nI 1)))) := (ex_un d 134 300 82 [some (vr 7 0 0)] [] O).trans rfl
set_option maxRecDepth 100000 in
theorem sX7_next_140 (d : Nat) (O : Mem_)  : ex (d + 1) 134 140 [some (vr 7 0 0)] [] O =
(ex d 129 0 [some (vr 7 0 0), some (vi (O 7 0 0 21))] [] O).bind fun r0 =>
(ex d 121 0 [some (vl (Int32.toInt64 r0.1)), none, some (vl (48)), none, some (vl (57)), none] [] r0.2).bind fun r1 =>
if r1.1 = nI 0 then
(if (nI 2) < ((r1.2 7 0 0 21) - (r1.2 7 0 0 22)) then
(ex (d + 1) 134 236 [] [vi (nI 0), vr 7 0 0] r1.2)
else
(ex (d + 1) 134 236 [] [vi (nI 1), vr 7 0 0] r1.2))
else
(if ((r1.2 7 0 0 21) - (r1.2 7 0 0 22)) < (nI 2) then
((ex d 129 0 [some (vr 7 0 0), some (vi (r1.2 7 0 0 21))] [] r1.2).bind fun r2 =>
ex (d + 1) 134 140 [some (vr 7 0 0)] [] (up (up r2.2 7 0 0 24 ((((nI 10) * (r1.2 7 0 0 24)) + r2.1) - (nI 48))) 7 0 0 21 (((up r2.2 7 0 0 24 ((((nI 10) * (r1.2 7 0 0 24)) + r2.1) - (nI 48))) 7 0 0 21) + (nI 1))))
else
(ex (d + 1) 134 140 [some (vr 7 0 0)] [] (up (up r1.2 7 0 0 24 (r1.2 7 0 0 24)) 7 0 0 21 (((up r1.2 7 0 0 24 (r1.2 7 0 0 24)) 7 0 0 21) + (nI 1))))) := (ex_un d 134 300 140 [some (vr 7 0 0)] [] O).trans rfl
set_option maxRecDepth 100000 in
theorem sX7_next_236 (d : Nat) (O : Mem_) (y0 : Int32) : ex (d + 1) 134 236 [] [vi y0, vr 7 0 0] O =
(ex d 128 0 [some (vr 7 0 0), some (vi y0), some (vi (nI 1))] [] O).bind fun r0 =>
some (nI 0, r0.2) := (ex_un d 134 300 236 [] [vi y0, vr 7 0 0] O).trans rfl
set_option maxRecDepth 100000 in
theorem sX7_next_255 (d : Nat) (O : Mem_) (x1 : Int32) (y0 : Int32) : ex (d + 1) 134 255 [some (vr 7 0 0), some (vi x1)] [vi y0, vr 7 0 0] O =
if x1 = (nI 59) then
(ex (d + 1) 134 276 [some (vr 7 0 0)] [vi (nI 1), vr 7 0 0] (up O 7 0 0 23 y0))
else
(if x1 = (nI 45) then
(ex (d + 1) 134 276 [some (vr 7 0 0)] [vi (nI 1), vr 7 0 0] (up O 7 0 0 23 y0))
else
(ex (d + 1) 134 276 [some (vr 7 0 0)] [vi (nI 0), vr 7 0 0] (up O 7 0 0 23 y0))) := (ex_un d 134 300 255 [some (vr 7 0 0), some (vi x1)] [vi y0, vr 7 0 0] O).trans rfl
set_option maxRecDepth 100000 in
theorem sX7_next_276 (d : Nat) (O : Mem_) (y0 : Int32) : ex (d + 1) 134 276 [some (vr 7 0 0)] [vi y0, vr 7 0 0] O =
(ex d 128 0 [some (vr 7 0 0), some (vi y0), some (vi (nI 1))] [] O).bind fun r0 =>
some (nI 0, (up r0.2 7 0 0 21 ((r0.2 7 0 0 21) + (nI 1)))) := (ex_un d 134 300 276 [some (vr 7 0 0)] [vi y0, vr 7 0 0] O).trans rfl
set_option maxRecDepth 100000 in
theorem sX7_readNumber_0 (d : Nat) (O : Mem_) (x1 : Int32) (x2 : Int32) : ex (d + 1) 135 0 [some (vr 7 0 0), some (vi x1), some (vi x2)] [] O =
if (O 7 0 0 25) = nI 0 then
(if (O 7 0 0 23) = (nI 2) then
((ex d 128 0 [some (vr 7 0 0), some (vi (nI 1)), some (vi (nI 2))] [] O).bind fun r0 =>
ex (d + 1) 135 25 [some (vr 7 0 0), some (vi x1), some (vi x2)] [] r0.2)
else
((ex d 128 0 [some (vr 7 0 0), some (vi (nI 0)), some (vi (nI 2))] [] O).bind fun r1 =>
ex (d + 1) 135 25 [some (vr 7 0 0), some (vi x1), some (vi x2)] [] r1.2))
else
(ex (d + 1) 135 25 [some (vr 7 0 0), some (vi x1), some (vi x2)] [] O) := (ex_un d 135 300 0 [some (vr 7 0 0), some (vi x1), some (vi x2)] [] O).trans rfl
set_option maxRecDepth 100000 in
theorem sX7_readNumber_25 (d : Nat) (O : Mem_) (x1 : Int32) (x2 : Int32) : ex (d + 1) 135 25 [some (vr 7 0 0), some (vi x1), some (vi x2)] [] O =
if (O 7 0 0 25) = nI 0 then
((ex d 121 0 [some (vl (Int32.toInt64 (O 7 0 0 24))), none, some (vl (Int32.toInt64 x1)), none, some (vl (Int32.toInt64 x2)), none] [] O).bind fun r0 =>
(ex d 128 0 [some (vr 7 0 0), some (vi r0.1), some (vi (nI 3))] [] r0.2).bind fun r1 =>
ex (d + 1) 135 49 [some (vr 7 0 0)] [] r1.2)
else
(ex (d + 1) 135 49 [some (vr 7 0 0)] [] O) := (ex_un d 135 300 25 [some (vr 7 0 0), some (vi x1), some (vi x2)] [] O).trans rfl
set_option maxRecDepth 100000 in
theorem sX7_readNumber_49 (d : Nat) (O : Mem_)  : ex (d + 1) 135 49 [some (vr 7 0 0)] [] O =
(ex d 134 0 [some (vr 7 0 0)] [] O).bind fun r0 =>
some ((O 7 0 0 24), r0.2) := (ex_un d 135 300 49 [some (vr 7 0 0)] [] O).trans rfl
set_option maxRecDepth 100000 in
theorem sX7_readMarks_0 (d : Nat) (O : Mem_) (x1 : Int32) : ex (d + 1) 136 0 [some (vr 7 0 0), some (vi x1)] [] O =
if (O 7 0 0 25) = nI 0 then
(if (O 7 0 0 23) = (nI 1) then
(ex (d + 1) 136 29 [some (vr 7 0 0), some (vi x1)] [vi (nI 1), vr 7 0 0] O)
else
(if (O 7 0 0 23) = (nI 4) then
(ex (d + 1) 136 29 [some (vr 7 0 0), some (vi x1)] [vi (nI 1), vr 7 0 0] O)
else
(ex (d + 1) 136 29 [some (vr 7 0 0), some (vi x1)] [vi (nI 0), vr 7 0 0] O)))
else
(ex (d + 1) 136 40 [some (vr 7 0 0), some (vi x1), some (vi (nI 0)), some (vi (O 7 0 0 22))] [] O) := (ex_un d 136 300 0 [some (vr 7 0 0), some (vi x1)] [] O).trans rfl
set_option maxRecDepth 100000 in
theorem sX7_readMarks_29 (d : Nat) (O : Mem_) (x1 : Int32) (y0 : Int32) : ex (d + 1) 136 29 [some (vr 7 0 0), some (vi x1)] [vi y0, vr 7 0 0] O =
(ex d 128 0 [some (vr 7 0 0), some (vi y0), some (vi (nI 2))] [] O).bind fun r0 =>
ex (d + 1) 136 40 [some (vr 7 0 0), some (vi x1), some (vi (nI 0)), some (vi (r0.2 7 0 0 22))] [] r0.2 := (ex_un d 136 300 29 [some (vr 7 0 0), some (vi x1)] [vi y0, vr 7 0 0] O).trans rfl
set_option maxRecDepth 100000 in
theorem sX7_readMarks_40 (d : Nat) (O : Mem_) (x1 : Int32) (x2 : Int32) (x3 : Int32) : ex (d + 1) 136 40 [some (vr 7 0 0), some (vi x1), some (vi x2), some (vi x3)] [] O =
if x3 < (O 7 0 0 21) then
(if (O 7 0 0 25) = nI 0 then
(if (O 7 0 0 23) = (nI 1) then
((ex d 129 0 [some (vr 7 0 0), some (vi x3)] [] O).bind fun r0 =>
(ex d 121 0 [some (vl (Int32.toInt64 (r0.1 - (nI 97)))), none, some (vl 0), none, some (vl (7)), none] [] r0.2).bind fun r1 =>
if r1.1 = nI 0 then
(ex (d + 1) 136 110 [some (vr 7 0 0), some (vi x1), some (vi x2), some (vi x3), some (vi (r0.1 - (nI 97)))] [vi (nI 0), vr 7 0 0] r1.2)
else
(if ((x2 >>> ((r0.1 - (nI 97)) &&& (31:Int32))) &&& (nI 1)) = nI 0 then
(if ((x1 >>> ((r0.1 - (nI 97)) &&& (31:Int32))) &&& (nI 1)) = nI 0 then
(ex (d + 1) 136 110 [some (vr 7 0 0), some (vi x1), some (vi x2), some (vi x3), some (vi (r0.1 - (nI 97)))] [vi (nI 1), vr 7 0 0] r1.2)
else
(ex (d + 1) 136 110 [some (vr 7 0 0), some (vi x1), some (vi x2), some (vi x3), some (vi (r0.1 - (nI 97)))] [vi (nI 0), vr 7 0 0] r1.2))
else
(ex (d + 1) 136 110 [some (vr 7 0 0), some (vi x1), some (vi x2), some (vi x3), some (vi (r0.1 - (nI 97)))] [vi (nI 0), vr 7 0 0] r1.2)))
else
(ex (d + 1) 136 138 [some (vr 7 0 0), none, some (vi x2)] [] O))
else
(ex (d + 1) 136 138 [some (vr 7 0 0), none, some (vi x2)] [] O))
else
(ex (d + 1) 136 138 [some (vr 7 0 0), none, some (vi x2)] [] O) := (ex_un d 136 300 40 [some (vr 7 0 0), some (vi x1), some (vi x2), some (vi x3)] [] O).trans rfl
set_option maxRecDepth 100000 in
theorem sX7_readMarks_110 (d : Nat) (O : Mem_) (x1 : Int32) (x2 : Int32) (x3 : Int32) (x4 : Int32) (y0 : Int32) : ex (d + 1) 136 110 [some (vr 7 0 0), some (vi x1), some (vi x2), some (vi x3), some (vi x4)] [vi y0, vr 7 0 0] O =
(ex d 128 0 [some (vr 7 0 0), some (vi y0), some (vi (nI 3))] [] O).bind fun r0 =>
if (r0.2 7 0 0 25) = nI 0 then
(ex (d + 1) 136 40 [some (vr 7 0 0), some (vi x1), some (vi (x2 ||| ((nI 1) <<< (x4 &&& (31:Int32))))), some (vi (x3 + (nI 1)))] [] r0.2)
else
(ex (d + 1) 136 40 [some (vr 7 0 0), some (vi x1), some (vi (x2 ||| (nI 0))), some (vi (x3 + (nI 1)))] [] r0.2) := (ex_un d 136 300 110 [some (vr 7 0 0), some (vi x1), some (vi x2), some (vi x3), some (vi x4)] [vi y0, vr 7 0 0] O).trans rfl
set_option maxRecDepth 100000 in
theorem sX7_readMarks_138 (d : Nat) (O : Mem_) (x2 : Int32) : ex (d + 1) 136 138 [some (vr 7 0 0), none, some (vi x2)] [] O =
(ex d 134 0 [some (vr 7 0 0)] [] O).bind fun r0 =>
some (x2, r0.2) := (ex_un d 136 300 138 [some (vr 7 0 0), none, some (vi x2)] [] O).trans rfl
set_option maxRecDepth 100000 in
theorem sX7_readKind_0 (d : Nat) (O : Mem_) (x1 : Int32) : ex (d + 1) 137 0 [some (vr 7 0 0), some (vi x1)] [] O =
ex (d + 1) 137 21 [some (vr 7 0 0), some (vi x1), some (vi ((nI 5) * (O 7 0 0 16))), some (vi (nI 255)), some (vi (oI none)), some (vi (nI 1)), some (vi (nI 0))] [] O := (ex_un d 137 300 0 [some (vr 7 0 0), some (vi x1)] [] O).trans rfl
set_option maxRecDepth 100000 in
theorem sX7_readKind_21 (d : Nat) (O : Mem_) (x1 : Int32) (x2 : Int32) (x3 : Int32) (x4 : Int32) (x5 : Int32) (x6 : Int32) : ex (d + 1) 137 21 [some (vr 7 0 0), some (vi x1), some (vi x2), some (vi x3), some (vi x4), some (vi x5), some (vi x6)] [] O =
if (O 7 0 0 25) = nI 0 then
(if (O 7 0 0 23) = (nI 1) then
((ex d 133 0 [some (vr 7 0 0)] [] O).bind fun r0 =>
(ex d 121 0 [some (vl (Int32.toInt64 r0.1)), none, some (vl (14)), none, some (vl (17)), none] [] r0.2).bind fun r1 =>
(ex d 128 0 [some (vr 7 0 0), some (vi r1.1), some (vi (nI 2))] [] r1.2).bind fun r2 =>
if (r2.2 7 0 0 25) = nI 0 then
(if ((x6 >>> ((r0.1 - (nI 14)) &&& (31:Int32))) &&& (nI 1)) = nI 0 then
(ex (d + 1) 137 85 [some (vr 7 0 0), some (vi x1), some (vi x2), some (vi x3), some (vi x4), some (vi x5), some (vi x6), some (vi r0.1)] [vi (nI 1), vr 7 0 0] r2.2)
else
(ex (d + 1) 137 85 [some (vr 7 0 0), some (vi x1), some (vi x2), some (vi x3), some (vi x4), some (vi x5), some (vi x6), some (vi r0.1)] [vi (nI 0), vr 7 0 0] r2.2))
else
(ex (d + 1) 137 21 [some (vr 7 0 0), some (vi x1), some (vi x2), some (vi x3), some (vi x4), some (vi x5), some (vi x6)] [] r2.2))
else
(ex (d + 1) 137 163 [some (vr 7 0 0), some (vi x1), some (vi x2), some (vi x3), some (vi x4), some (vi x5), some (vi x6)] [] O))
else
(ex (d + 1) 137 163 [some (vr 7 0 0), some (vi x1), some (vi x2), some (vi x3), some (vi x4), some (vi x5), some (vi x6)] [] O) := (ex_un d 137 300 21 [some (vr 7 0 0), some (vi x1), some (vi x2), some (vi x3), some (vi x4), some (vi x5), some (vi x6)] [] O).trans rfl
set_option maxRecDepth 100000 in
theorem sX7_readKind_85 (d : Nat) (O : Mem_) (x1 : Int32) (x2 : Int32) (x3 : Int32) (x4 : Int32) (x5 : Int32) (x6 : Int32) (x7 : Int32) (y0 : Int32) : ex (d + 1) 137 85 [some (vr 7 0 0), some (vi x1), some (vi x2), some (vi x3), some (vi x4), some (vi x5), some (vi x6), some (vi x7)] [vi y0, vr 7 0 0] O =
(ex d 128 0 [some (vr 7 0 0), some (vi y0), some (vi (nI 4))] [] O).bind fun r0 =>
(ex d 134 0 [some (vr 7 0 0)] [] r0.2).bind fun r1 =>
if x7 = (nI 14) then
((ex d 136 0 [some (vr 7 0 0), some (vi (nI 0))] [] r1.2).bind fun r2 =>
ex (d + 1) 137 21 [some (vr 7 0 0), some (vi x1), some (vi x2), some (vi r2.1), some (vi x4), some (vi x5), some (vi (x6 ||| ((nI 1) <<< ((x7 - (nI 14)) &&& (31:Int32)))))] [] r2.2)
else
(if x7 = (nI 15) then
((ex d 135 0 [some (vr 7 0 0), some (vi (nI 0)), some (vi ((r1.2 7 0 0 9) - (nI 1)))] [] r1.2).bind fun r3 =>
ex (d + 1) 137 21 [some (vr 7 0 0), some (vi x1), some (vi x2), some (vi x3), some (vi r3.1), some (vi x5), some (vi (x6 ||| ((nI 1) <<< ((x7 - (nI 14)) &&& (31:Int32)))))] [] r3.2)
else
(if x7 = (nI 17) then
((ex d 135 0 [some (vr 7 0 0), some (vi (nI 0)), some (vi (nI 9))] [] r1.2).bind fun r4 =>
ex (d + 1) 137 21 [some (vr 7 0 0), some (vi x1), some (vi x2), some (vi x3), some (vi x4), some (vi r4.1), some (vi (x6 ||| ((nI 1) <<< ((x7 - (nI 14)) &&& (31:Int32)))))] [] r4.2)
else
(ex (d + 1) 137 21 [some (vr 7 0 0), some (vi x1), some (vi x2), some (vi x3), some (vi x4), some (vi x5), some (vi (x6 ||| ((nI 1) <<< ((x7 - (nI 14)) &&& (31:Int32)))))] [] r1.2))) := (ex_un d 137 300 85 [some (vr 7 0 0), some (vi x1), some (vi x2), some (vi x3), some (vi x4), some (vi x5), some (vi x6), some (vi x7)] [vi y0, vr 7 0 0] O).trans rfl
set_option maxRecDepth 100000 in
theorem sX7_readKind_163 (d : Nat) (O : Mem_) (x1 : Int32) (x2 : Int32) (x3 : Int32) (x4 : Int32) (x5 : Int32) (x6 : Int32) : ex (d + 1) 137 163 [some (vr 7 0 0), some (vi x1), some (vi x2), some (vi x3), some (vi x4), some (vi x5), some (vi x6)] [] O =
if (O 7 0 0 25) = nI 0 then
(if ib x2 30 then
(if ib (x2 + (nI 1)) 30 then
(if ib (x2 + (nI 2)) 30 then
(if ib (x2 + (nI 3)) 30 then
(if ib (x2 + (nI 4)) 30 then
(some (nI 0, (up (up (up (up (up (up O 7 0 18 (Int32.toNatClampNeg x2) x1) 7 0 18 (Int32.toNatClampNeg (x2 + (nI 1))) x3) 7 0 18 (Int32.toNatClampNeg (x2 + (nI 2))) x4) 7 0 18 (Int32.toNatClampNeg (x2 + (nI 3))) ((x6 >>> ((nI 2) &&& (31:Int32))) &&& (nI 1))) 7 0 18 (Int32.toNatClampNeg (x2 + (nI 4))) x5) 7 0 0 16 (((up (up (up (up (up O 7 0 18 (Int32.toNatClampNeg x2) x1) 7 0 18 (Int32.toNatClampNeg (x2 + (nI 1))) x3) 7 0 18 (Int32.toNatClampNeg (x2 + (nI 2))) x4) 7 0 18 (Int32.toNatClampNeg (x2 + (nI 3))) ((x6 >>> ((nI 2) &&& (31:Int32))) &&& (nI 1))) 7 0 18 (Int32.toNatClampNeg (x2 + (nI 4))) x5) 7 0 0 16) + (nI 1)))))
else none)
else none)
else none)
else none)
else none)
else
(some (nI 0, O)) := (ex_un d 137 300 163 [some (vr 7 0 0), some (vi x1), some (vi x2), some (vi x3), some (vi x4), some (vi x5), some (vi x6)] [] O).trans rfl
set_option maxRecDepth 100000 in
theorem sX7_readMeans_0 (d : Nat) (O : Mem_)  : ex (d + 1) 138 0 [some (vr 7 0 0)] [] O =
(ex d 136 0 [some (vr 7 0 0), some (vi (nI 0))] [] O).bind fun r0 =>
if (r0.2 7 0 0 25) = nI 0 then
(if (r0.2 7 0 0 23) = (nI 1) then
((ex d 133 0 [some (vr 7 0 0)] [] r0.2).bind fun r1 =>
if r1.1 = (nI 13) then
(ex (d + 1) 138 38 [some (vr 7 0 0), some (vi r0.1)] [vi (nI 1), vr 7 0 0] r1.2)
else
(ex (d + 1) 138 38 [some (vr 7 0 0), some (vi r0.1)] [vi (nI 0), vr 7 0 0] r1.2))
else
(ex (d + 1) 138 52 [some (vr 7 0 0), some (vi r0.1), some (vi (nI 0))] [] r0.2))
else
(ex (d + 1) 138 52 [some (vr 7 0 0), some (vi r0.1), some (vi (nI 0))] [] r0.2) := (ex_un d 138 300 0 [some (vr 7 0 0)] [] O).trans rfl
set_option maxRecDepth 100000 in
theorem sX7_readMeans_38 (d : Nat) (O : Mem_) (x1 : Int32) (y0 : Int32) : ex (d + 1) 138 38 [some (vr 7 0 0), some (vi x1)] [vi y0, vr 7 0 0] O =
(ex d 128 0 [some (vr 7 0 0), some (vi y0), some (vi (nI 2))] [] O).bind fun r0 =>
(ex d 134 0 [some (vr 7 0 0)] [] r0.2).bind fun r1 =>
(ex d 136 0 [some (vr 7 0 0), some (vi x1)] [] r1.2).bind fun r2 =>
ex (d + 1) 138 52 [some (vr 7 0 0), some (vi x1), some (vi r2.1)] [] r2.2 := (ex_un d 138 300 38 [some (vr 7 0 0), some (vi x1)] [vi y0, vr 7 0 0] O).trans rfl
set_option maxRecDepth 100000 in
theorem sX7_readMeans_52 (d : Nat) (O : Mem_) (x1 : Int32) (x2 : Int32) : ex (d + 1) 138 52 [some (vr 7 0 0), some (vi x1), some (vi x2)] [] O =
if (O 7 0 0 25) = nI 0 then
(if ib (O 7 0 0 11) 12 then
(if ib ((up O 7 0 13 (Int32.toNatClampNeg (O 7 0 0 11)) x1) 7 0 0 11) 12 then
(some (nI 0, (up (up (up O 7 0 13 (Int32.toNatClampNeg (O 7 0 0 11)) x1) 7 0 14 (Int32.toNatClampNeg ((up O 7 0 13 (Int32.toNatClampNeg (O 7 0 0 11)) x1) 7 0 0 11)) x2) 7 0 0 11 (((up (up O 7 0 13 (Int32.toNatClampNeg (O 7 0 0 11)) x1) 7 0 14 (Int32.toNatClampNeg ((up O 7 0 13 (Int32.toNatClampNeg (O 7 0 0 11)) x1) 7 0 0 11)) x2) 7 0 0 11) + (nI 1)))))
else none)
else none)
else
(some (nI 0, O)) := (ex_un d 138 300 52 [some (vr 7 0 0), some (vi x1), some (vi x2)] [] O).trans rfl
set_option maxRecDepth 100000 in
theorem sX7_readLine_0 (d : Nat) (O : Mem_)  : ex (d + 1) 139 0 [some (vr 7 0 0)] [] O =
if (O 7 0 0 23) = (nI 1) then
((ex d 133 0 [some (vr 7 0 0)] [] O).bind fun r0 =>
ex (d + 1) 139 17 [some (vr 7 0 0)] [vi r0.1] r0.2)
else
(ex (d + 1) 139 17 [some (vr 7 0 0)] [vi (oI none)] O) := (ex_un d 139 300 0 [some (vr 7 0 0)] [] O).trans rfl
set_option maxRecDepth 100000 in
theorem sX7_readLine_17 (d : Nat) (O : Mem_) (y0 : Int32) : ex (d + 1) 139 17 [some (vr 7 0 0)] [vi y0] O =
(ex d 121 0 [some (vl (Int32.toInt64 y0)), none, some (vl 0), none, some (vl (3)), none] [] O).bind fun r0 =>
if r0.1 = nI 0 then
((ex d 121 0 [some (vl (Int32.toInt64 y0)), none, some (vl (10)), none, some (vl (12)), none] [] r0.2).bind fun r1 =>
if r1.1 = nI 0 then
(ex (d + 1) 139 50 [some (vr 7 0 0), some (vi y0)] [vi (nI 0), vr 7 0 0] r1.2)
else
(ex (d + 1) 139 50 [some (vr 7 0 0), some (vi y0)] [vi (nI 1), vr 7 0 0] r1.2))
else
(ex (d + 1) 139 50 [some (vr 7 0 0), some (vi y0)] [vi (nI 1), vr 7 0 0] r0.2) := (ex_un d 139 300 17 [some (vr 7 0 0)] [vi y0] O).trans rfl
set_option maxRecDepth 100000 in
theorem sX7_readLine_50 (d : Nat) (O : Mem_) (x1 : Int32) (y0 : Int32) : ex (d + 1) 139 50 [some (vr 7 0 0), some (vi x1)] [vi y0, vr 7 0 0] O =
(ex d 128 0 [some (vr 7 0 0), some (vi y0), some (vi (nI 2))] [] O).bind fun r0 =>
if x1 = (nI 10) then
(if (r0.2 7 0 0 9) < (nI 8) then
(ex (d + 1) 139 75 [some (vr 7 0 0), some (vi x1)] [vi (nI 1), vr 7 0 0] r0.2)
else
(ex (d + 1) 139 75 [some (vr 7 0 0), some (vi x1)] [vi (nI 0), vr 7 0 0] r0.2))
else
(ex (d + 1) 139 75 [some (vr 7 0 0), some (vi x1)] [vi (nI 1), vr 7 0 0] r0.2) := (ex_un d 139 300 50 [some (vr 7 0 0), some (vi x1)] [vi y0, vr 7 0 0] O).trans rfl
set_option maxRecDepth 100000 in
theorem sX7_readLine_75 (d : Nat) (O : Mem_) (x1 : Int32) (y0 : Int32) : ex (d + 1) 139 75 [some (vr 7 0 0), some (vi x1)] [vi y0, vr 7 0 0] O =
(ex d 128 0 [some (vr 7 0 0), some (vi y0), some (vi (nI 5))] [] O).bind fun r0 =>
if x1 = (nI 11) then
(if (r0.2 7 0 0 11) < (nI 12) then
(ex (d + 1) 139 100 [some (vr 7 0 0), some (vi x1)] [vi (nI 1), vr 7 0 0] r0.2)
else
(ex (d + 1) 139 100 [some (vr 7 0 0), some (vi x1)] [vi (nI 0), vr 7 0 0] r0.2))
else
(ex (d + 1) 139 100 [some (vr 7 0 0), some (vi x1)] [vi (nI 1), vr 7 0 0] r0.2) := (ex_un d 139 300 75 [some (vr 7 0 0), some (vi x1)] [vi y0, vr 7 0 0] O).trans rfl
set_option maxRecDepth 100000 in
theorem sX7_readLine_100 (d : Nat) (O : Mem_) (x1 : Int32) (y0 : Int32) : ex (d + 1) 139 100 [some (vr 7 0 0), some (vi x1)] [vi y0, vr 7 0 0] O =
(ex d 128 0 [some (vr 7 0 0), some (vi y0), some (vi (nI 5))] [] O).bind fun r0 =>
if x1 = (nI 12) then
(if (r0.2 7 0 0 14) < (nI 4) then
(ex (d + 1) 139 124 [some (vr 7 0 0), some (vi x1)] [vi (nI 1), vr 7 0 0] r0.2)
else
(ex (d + 1) 139 124 [some (vr 7 0 0), some (vi x1)] [vi (nI 0), vr 7 0 0] r0.2))
else
(ex (d + 1) 139 124 [some (vr 7 0 0), some (vi x1)] [vi (nI 1), vr 7 0 0] r0.2) := (ex_un d 139 300 100 [some (vr 7 0 0), some (vi x1)] [vi y0, vr 7 0 0] O).trans rfl
set_option maxRecDepth 100000 in
theorem sX7_readLine_124 (d : Nat) (O : Mem_) (x1 : Int32) (y0 : Int32) : ex (d + 1) 139 124 [some (vr 7 0 0), some (vi x1)] [vi y0, vr 7 0 0] O =
(ex d 128 0 [some (vr 7 0 0), some (vi y0), some (vi (nI 5))] [] O).bind fun r0 =>
(ex d 121 0 [some (vl (Int32.toInt64 x1)), none, some (vl 0), none, some (vl (3)), none] [] r0.2).bind fun r1 =>
if r1.1 = nI 0 then
(ex (d + 1) 139 155 [some (vr 7 0 0), some (vi x1)] [vi (nI 1), vr 7 0 0] r1.2)
else
(if (r1.2 7 0 0 16) < (nI 6) then
(ex (d + 1) 139 155 [some (vr 7 0 0), some (vi x1)] [vi (nI 1), vr 7 0 0] r1.2)
else
(ex (d + 1) 139 155 [some (vr 7 0 0), some (vi x1)] [vi (nI 0), vr 7 0 0] r1.2)) := (ex_un d 139 300 124 [some (vr 7 0 0), some (vi x1)] [vi y0, vr 7 0 0] O).trans rfl
set_option maxRecDepth 100000 in
theorem sX7_readLine_155 (d : Nat) (O : Mem_) (x1 : Int32) (y0 : Int32) : ex (d + 1) 139 155 [some (vr 7 0 0), some (vi x1)] [vi y0, vr 7 0 0] O =
(ex d 128 0 [some (vr 7 0 0), some (vi y0), some (vi (nI 5))] [] O).bind fun r0 =>
(ex d 134 0 [some (vr 7 0 0)] [] r0.2).bind fun r1 =>
if nI 0 < (r1.2 7 0 0 25) then
(some (nI 0, r1.2))
else
(if x1 = (nI 10) then
((ex d 136 0 [some (vr 7 0 0), some (vi (nI 0))] [] r1.2).bind fun r2 =>
if (r2.2 7 0 0 25) = nI 0 then
(if ib (r2.2 7 0 0 9) 8 then
(ex (d + 1) 139 279 [some (vr 7 0 0)] [] (up (up r2.2 7 0 11 (Int32.toNatClampNeg (r2.2 7 0 0 9)) r2.1) 7 0 0 9 (((up r2.2 7 0 11 (Int32.toNatClampNeg (r2.2 7 0 0 9)) r2.1) 7 0 0 9) + (nI 1))))
else none)
else
(ex (d + 1) 139 279 [some (vr 7 0 0)] [] r2.2))
else
(if x1 = (nI 11) then
((ex d 138 0 [some (vr 7 0 0)] [] r1.2).bind fun r3 =>
ex (d + 1) 139 279 [some (vr 7 0 0)] [] r3.2)
else
(if x1 = (nI 12) then
((ex d 135 0 [some (vr 7 0 0), some (vi (nI 0)), some (vi ((r1.2 7 0 0 11) - (nI 1)))] [] r1.2).bind fun r4 =>
if (r4.2 7 0 0 25) = nI 0 then
(if ib (r4.2 7 0 0 14) 4 then
(ex (d + 1) 139 279 [some (vr 7 0 0)] [] (up (up r4.2 7 0 16 (Int32.toNatClampNeg (r4.2 7 0 0 14)) r4.1) 7 0 0 14 (((up r4.2 7 0 16 (Int32.toNatClampNeg (r4.2 7 0 0 14)) r4.1) 7 0 0 14) + (nI 1))))
else none)
else
(ex (d + 1) 139 279 [some (vr 7 0 0)] [] r4.2))
else
((ex d 137 0 [some (vr 7 0 0), some (vi x1)] [] r1.2).bind fun r5 =>
ex (d + 1) 139 279 [some (vr 7 0 0)] [] r5.2)))) := (ex_un d 139 300 155 [some (vr 7 0 0), some (vi x1)] [vi y0, vr 7 0 0] O).trans rfl
set_option maxRecDepth 100000 in
theorem sX7_readLine_279 (d : Nat) (O : Mem_)  : ex (d + 1) 139 279 [some (vr 7 0 0)] [] O =
if (O 7 0 0 25) = nI 0 then
(if (O 7 0 0 23) = (nI 3) then
(ex (d + 1) 139 300 [some (vr 7 0 0)] [vi (nI 1), vr 7 0 0] O)
else
(ex (d + 1) 139 300 [some (vr 7 0 0)] [vi (nI 0), vr 7 0 0] O))
else
((ex d 134 0 [some (vr 7 0 0)] [] O).bind fun r0 =>
some (nI 0, r0.2)) := (ex_un d 139 300 279 [some (vr 7 0 0)] [] O).trans rfl
set_option maxRecDepth 100000 in
theorem sX7_readLine_300 (d : Nat) (O : Mem_) (y0 : Int32) : ex (d + 1) 139 300 [some (vr 7 0 0)] [vi y0, vr 7 0 0] O =
(ex d 128 0 [some (vr 7 0 0), some (vi y0), some (vi (nI 2))] [] O).bind fun r0 =>
(ex d 134 0 [some (vr 7 0 0)] [] r0.2).bind fun r1 =>
some (nI 0, r1.2) := (ex_un d 139 300 300 [some (vr 7 0 0)] [vi y0, vr 7 0 0] O).trans rfl
set_option maxRecDepth 100000 in
theorem sX7_text_0 (d : Nat) (O : Mem_)  : ex (d + 1) 140 0 [some (vr 7 0 0)] [] O =
(ex d 124 0 [some (vr 7 0 0)] [] (up (up O 7 0 0 25 (nI 0)) 7 0 0 21 (nI 0))).bind fun r0 =>
(ex d 134 0 [some (vr 7 0 0)] [] r0.2).bind fun r1 =>
ex (d + 1) 140 20 [some (vr 7 0 0), some (vi (nI 0))] [] r1.2 := (ex_un d 140 300 0 [some (vr 7 0 0)] [] O).trans rfl
set_option maxRecDepth 100000 in
theorem sX7_text_20 (d : Nat) (O : Mem_) (x1 : Int32) : ex (d + 1) 140 20 [some (vr 7 0 0), some (vi x1)] [] O =
if (O 7 0 0 25) = nI 0 then
(if (O 7 0 0 23) = nI 0 then
(ex (d + 1) 140 44 [some (vr 7 0 0), some (vi x1)] [] O)
else
((ex d 139 0 [some (vr 7 0 0)] [] O).bind fun r0 =>
ex (d + 1) 140 20 [some (vr 7 0 0), some (vi (x1 + (nI 1)))] [] r0.2))
else
(ex (d + 1) 140 44 [some (vr 7 0 0), some (vi x1)] [] O) := (ex_un d 140 300 20 [some (vr 7 0 0), some (vi x1)] [] O).trans rfl
set_option maxRecDepth 100000 in
theorem sX7_text_44 (d : Nat) (O : Mem_) (x1 : Int32) : ex (d + 1) 140 44 [some (vr 7 0 0), some (vi x1)] [] O =
if nI 0 < ((up O 7 0 0 20 (nI 0)) 7 0 0 25) then
(some (((-10) - ((up O 7 0 0 20 (nI 0)) 7 0 0 26)), (up O 7 0 0 20 (nI 0))))
else
((ex d 125 0 [some (vr 7 0 0)] [] (up O 7 0 0 20 (nI 0))).bind fun r0 =>
some (x1, r0.2)) := (ex_un d 140 300 44 [some (vr 7 0 0), some (vi x1)] [] O).trans rfl
set_option maxRecDepth 100000 in
theorem sX7_fault_0 (d : Nat) (O : Mem_)  : ex (d + 1) 141 0 [some (vr 7 0 0)] [] O =
some ((O 7 0 0 25), O) := (ex_un d 141 300 0 [some (vr 7 0 0)] [] O).trans rfl
set_option maxRecDepth 100000 in
theorem sX7_isThing_0 (d : Nat) (O : Mem_) (x1 : Int32) : ex (d + 1) 142 0 [some (vr 7 0 0), some (vi x1)] [] O =
(ex d 121 0 [some (vl (Int32.toInt64 x1)), none, some (vl 0), none, some (vl (Int32.toInt64 ((O 7 0 0 0) - (nI 1)))), none] [] O).bind fun r0 =>
if r0.1 = nI 0 ∨ r0.1 = nI 1 then some (r0.1, r0.2) else none := (ex_un d 142 300 0 [some (vr 7 0 0), some (vi x1)] [] O).trans rfl
set_option maxRecDepth 100000 in
theorem sX7_isSound_0 (d : Nat) (O : Mem_) (x1 : Int32) : ex (d + 1) 143 0 [some (vr 7 0 0), some (vi x1)] [] O =
(ex d 121 0 [some (vl (Int32.toInt64 x1)), none, some (vl 0), none, some (vl (Int32.toInt64 ((O 7 0 0 5) - (nI 1)))), none] [] O).bind fun r0 =>
if r0.1 = nI 0 ∨ r0.1 = nI 1 then some (r0.1, r0.2) else none := (ex_un d 143 300 0 [some (vr 7 0 0), some (vi x1)] [] O).trans rfl
set_option maxRecDepth 100000 in
theorem sX7_isKind_0 (d : Nat) (O : Mem_) (x1 : Int32) : ex (d + 1) 144 0 [some (vr 7 0 0), some (vi x1)] [] O =
(ex d 121 0 [some (vl (Int32.toInt64 x1)), none, some (vl 0), none, some (vl (Int32.toInt64 ((O 7 0 0 7) - (nI 1)))), none] [] O).bind fun r0 =>
if r0.1 = nI 0 ∨ r0.1 = nI 1 then some (r0.1, r0.2) else none := (ex_un d 144 300 0 [some (vr 7 0 0), some (vi x1)] [] O).trans rfl
set_option maxRecDepth 100000 in
theorem sX7_areKinds_0 (d : Nat) (O : Mem_) (x1 : Int32) : ex (d + 1) 145 0 [some (vr 7 0 0), some (vi x1)] [] O =
(ex d 121 0 [some (vl (Int32.toInt64 x1)), none, some (vl 0), none, some (vl (Int32.toInt64 (((nI 1) <<< ((O 7 0 0 7) &&& (31:Int32))) - (nI 1)))), none] [] O).bind fun r0 =>
if r0.1 = nI 0 ∨ r0.1 = nI 1 then some (r0.1, r0.2) else none := (ex_un d 145 300 0 [some (vr 7 0 0), some (vi x1)] [] O).trans rfl
set_option maxRecDepth 100000 in
theorem sX7_marksOf_0 (d : Nat) (O : Mem_) (x1 : Int32) : ex (d + 1) 146 0 [some (vr 7 0 0), some (vi x1)] [] O =
if ib x1 12 then
((ex d 123 0 [some (vi (O 7 0 4 (Int32.toNatClampNeg x1)))] [] O).bind fun r0 =>
if ib x1 12 then
((ex d 123 0 [some (vi (r0.2 7 0 5 (Int32.toNatClampNeg x1)))] [] r0.2).bind fun r1 =>
some ((r0.1 + r1.1), r1.2))
else none)
else none := (ex_un d 146 300 0 [some (vr 7 0 0), some (vi x1)] [] O).trans rfl
set_option maxRecDepth 100000 in
theorem sX7_canThink_0 (d : Nat) (O : Mem_) (x1 : Int32) : ex (d + 1) 147 0 [some (vr 7 0 0), some (vi x1)] [] O =
ex (d + 1) 147 4 [some (vr 7 0 0), some (vi x1), some (vi (nI 0)), some (vi (nI 0))] [] O := (ex_un d 147 300 0 [some (vr 7 0 0), some (vi x1)] [] O).trans rfl
set_option maxRecDepth 100000 in
theorem sX7_canThink_4 (d : Nat) (O : Mem_) (x1 : Int32) (x2 : Int32) (x3 : Int32) : ex (d + 1) 147 4 [some (vr 7 0 0), some (vi x1), some (vi x2), some (vi x3)] [] O =
if x3 < (O 7 0 0 2) then
(if ib x3 12 then
(if ib x3 12 then
(if ib (((nI 5) * x1) + (nI 1)) 30 then
(if (((O 7 0 4 (Int32.toNatClampNeg x3)) ||| (O 7 0 5 (Int32.toNatClampNeg x3))) &&& ((O 7 0 9 (Int32.toNatClampNeg (((nI 5) * x1) + (nI 1)))) ^^^ (-1))) = nI 0 then
(ex (d + 1) 147 4 [some (vr 7 0 0), some (vi x1), some (vi (x2 ||| ((nI 1) <<< (x3 &&& (31:Int32))))), some (vi (x3 + (nI 1)))] [] O)
else
(ex (d + 1) 147 4 [some (vr 7 0 0), some (vi x1), some (vi (x2 ||| (nI 0))), some (vi (x3 + (nI 1)))] [] O))
else none)
else none)
else none)
else
(some (x2, O)) := (ex_un d 147 300 4 [some (vr 7 0 0), some (vi x1), some (vi x2), some (vi x3)] [] O).trans rfl
set_option maxRecDepth 100000 in
theorem sX7_targetOf_0 (d : Nat) (O : Mem_) (x1 : Int32) : ex (d + 1) 148 0 [some (vr 7 0 0), some (vi x1)] [] O =
if ib x1 4 then
(if ib (O 7 0 7 (Int32.toNatClampNeg x1)) 12 then
(some ((O 7 0 19 (Int32.toNatClampNeg (O 7 0 7 (Int32.toNatClampNeg x1)))), O))
else none)
else none := (ex_un d 148 300 0 [some (vr 7 0 0), some (vi x1)] [] O).trans rfl
set_option maxRecDepth 100000 in
theorem sX7_thing_0 (d : Nat) (O : Mem_) (x1 : Int32) : ex (d + 1) 149 0 [some (vr 7 0 0), some (vi x1)] [] O =
(ex d 142 0 [some (vr 7 0 0), some (vi x1)] [] O).bind fun r0 =>
if r0.1 = nI 0 then
(some ((-1), r0.2))
else
(if ib x1 8 then
(some ((r0.2 7 0 2 (Int32.toNatClampNeg x1)), r0.2))
else none) := (ex_un d 149 300 0 [some (vr 7 0 0), some (vi x1)] [] O).trans rfl
set_option maxRecDepth 100000 in
theorem sX7_meaning_0 (d : Nat) (O : Mem_) (x1 : Int32) (x2 : Int32) : ex (d + 1) 150 0 [some (vr 7 0 0), some (vi x1), some (vi x2)] [] O =
(ex d 121 0 [some (vl (Int32.toInt64 x1)), none, some (vl 0), none, some (vl (Int32.toInt64 ((O 7 0 0 2) - (nI 1)))), none] [] O).bind fun r0 =>
if r0.1 = nI 0 then
(some ((-1), r0.2))
else
((ex d 121 0 [some (vl (Int32.toInt64 x2)), none, some (vl 0), none, some (vl (4)), none] [] r0.2).bind fun r1 =>
if r1.1 = nI 0 then
(some ((-1), r1.2))
else
(ex (d + 1) 150 35 [some (vr 7 0 0), some (vi x1), some (vi x2), some (vi (nI 0)), some (vi (nI 0))] [] r1.2)) := (ex_un d 150 300 0 [some (vr 7 0 0), some (vi x1), some (vi x2)] [] O).trans rfl
set_option maxRecDepth 100000 in
theorem sX7_meaning_35 (d : Nat) (O : Mem_) (x1 : Int32) (x2 : Int32) (x3 : Int32) (x4 : Int32) : ex (d + 1) 150 35 [some (vr 7 0 0), some (vi x1), some (vi x2), some (vi x3), some (vi x4)] [] O =
if x4 < (O 7 0 0 7) then
((ex d 147 0 [some (vr 7 0 0), some (vi x4)] [] O).bind fun r0 =>
if ((r0.1 >>> (x1 &&& (31:Int32))) &&& (nI 1)) = (nI 1) then
(ex (d + 1) 150 35 [some (vr 7 0 0), some (vi x1), some (vi x2), some (vi (x3 ||| ((nI 1) <<< (x4 &&& (31:Int32))))), some (vi (x4 + (nI 1)))] [] r0.2)
else
(ex (d + 1) 150 35 [some (vr 7 0 0), some (vi x1), some (vi x2), some (vi (x3 ||| (nI 0))), some (vi (x4 + (nI 1)))] [] r0.2))
else
(if x2 = nI 0 then
(if ib x1 12 then
(some ((O 7 0 4 (Int32.toNatClampNeg x1)), O))
else none)
else
(if x2 = (nI 1) then
(if ib x1 12 then
(some ((O 7 0 5 (Int32.toNatClampNeg x1)), O))
else none)
else
(if x2 = (nI 2) then
((ex d 146 0 [some (vr 7 0 0), some (vi x1)] [] O).bind fun r1 =>
some (r1.1, r1.2))
else
(if x2 = (nI 3) then
(if ib x1 12 then
(some ((O 7 0 19 (Int32.toNatClampNeg x1)), O))
else none)
else
(some (x3, O)))))) := (ex_un d 150 300 35 [some (vr 7 0 0), some (vi x1), some (vi x2), some (vi x3), some (vi x4)] [] O).trans rfl
set_option maxRecDepth 100000 in
theorem sX7_word_0 (d : Nat) (O : Mem_) (x1 : Int32) : ex (d + 1) 151 0 [some (vr 7 0 0), some (vi x1)] [] O =
(ex d 143 0 [some (vr 7 0 0), some (vi x1)] [] O).bind fun r0 =>
if r0.1 = nI 0 then
(some ((-1), r0.2))
else
(if ib x1 4 then
(some ((r0.2 7 0 7 (Int32.toNatClampNeg x1)), r0.2))
else none) := (ex_un d 151 300 0 [some (vr 7 0 0), some (vi x1)] [] O).trans rfl
set_option maxRecDepth 100000 in
theorem sX7_kind_0 (d : Nat) (O : Mem_) (x1 : Int32) (x2 : Int32) : ex (d + 1) 152 0 [some (vr 7 0 0), some (vi x1), some (vi x2)] [] O =
(ex d 144 0 [some (vr 7 0 0), some (vi x1)] [] O).bind fun r0 =>
if r0.1 = nI 0 then
(some ((-1), r0.2))
else
((ex d 121 0 [some (vl (Int32.toInt64 x2)), none, some (vl 0), none, some (vl (5)), none] [] r0.2).bind fun r1 =>
if r1.1 = nI 0 then
(some ((-1), r1.2))
else
(if x2 = (nI 5) then
((ex d 147 0 [some (vr 7 0 0), some (vi x1)] [] r1.2).bind fun r2 =>
some (r2.1, r2.2))
else
(if ib (((nI 5) * x1) + x2) 30 then
(some ((r1.2 7 0 9 (Int32.toNatClampNeg (((nI 5) * x1) + x2))), r1.2))
else none))) := (ex_un d 152 300 0 [some (vr 7 0 0), some (vi x1), some (vi x2)] [] O).trans rfl
set_option maxRecDepth 100000 in
theorem sX7_wakes_0 (d : Nat) (O : Mem_) (x1 : Int32) : ex (d + 1) 153 0 [some (vr 7 0 0), some (vi x1)] [] O =
ex (d + 1) 153 2 [some (vr 7 0 0), some (vi x1), some (vi (nI 0))] [] O := (ex_un d 153 300 0 [some (vr 7 0 0), some (vi x1)] [] O).trans rfl
set_option maxRecDepth 100000 in
theorem sX7_wakes_2 (d : Nat) (O : Mem_) (x1 : Int32) (x2 : Int32) : ex (d + 1) 153 2 [some (vr 7 0 0), some (vi x1), some (vi x2)] [] O =
if x2 < (nI 70) then
(if (nI 10) = nI 0 then none else if x2 < (nI 60) then
((ex d 121 0 [some (vl (Int32.toInt64 (x2 - x2 / (nI 10) * (nI 10)))), none, some (vl (4)), none, some (vl (7)), none] [] O).bind fun r0 =>
if r0.1 = nI 0 then
(if ib (x1 + x2) 210 then
(ex (d + 1) 153 2 [some (vr 7 0 0), some (vi x1), some (vi (x2 + (nI 1)))] [] (up r0.2 7 0 28 (Int32.toNatClampNeg (x1 + x2)) (oI none)))
else none)
else
(if ib (x1 + x2) 210 then
(ex (d + 1) 153 2 [some (vr 7 0 0), some (vi x1), some (vi (x2 + (nI 1)))] [] (up r0.2 7 0 28 (Int32.toNatClampNeg (x1 + x2)) (nI 0)))
else none))
else
(if ib (x1 + x2) 210 then
(ex (d + 1) 153 2 [some (vr 7 0 0), some (vi x1), some (vi (x2 + (nI 1)))] [] (up O 7 0 28 (Int32.toNatClampNeg (x1 + x2)) (nI 0)))
else none))
else
(some (nI 0, O)) := (ex_un d 153 300 2 [some (vr 7 0 0), some (vi x1), some (vi x2)] [] O).trans rfl
set_option maxRecDepth 100000 in
theorem sX7_fitsIn_0 (d : Nat) (O : Mem_) (x1 : Int32) (x2 : Int32) (x3 : Int32) : ex (d + 1) 154 0 [some (vr 7 0 0), some (vi x1), some (vi x2), some (vi x3)] [] O =
if ib ((x1 + (nI 60)) + x2) 210 then
(if ib x3 12 then
(if ((O 7 0 28 (Int32.toNatClampNeg ((x1 + (nI 60)) + x2))) &&& ((O 7 0 19 (Int32.toNatClampNeg x3)) ^^^ (-1))) = nI 0 then
(if ib ((x1 + (nI 64)) + x2) 210 then
(if ib x3 12 then
(if ((O 7 0 28 (Int32.toNatClampNeg ((x1 + (nI 64)) + x2))) &&& (O 7 0 19 (Int32.toNatClampNeg x3))) = nI 0 then
(some ((nI 1), O))
else
(some ((nI 0), O)))
else none)
else none)
else
(some ((nI 0), O)))
else none)
else none := (ex_un d 154 300 0 [some (vr 7 0 0), some (vi x1), some (vi x2), some (vi x3)] [] O).trans rfl
set_option maxRecDepth 100000 in
theorem sX7_allThatFit_0 (d : Nat) (O : Mem_) (x1 : Int32) (x2 : Int32) : ex (d + 1) 155 0 [some (vr 7 0 0), some (vi x1), some (vi x2)] [] O =
ex (d + 1) 155 5 [some (vr 7 0 0), some (vi x1), some (vi x2), some (vi (nI 0)), some (vi (nI 0))] [] O := (ex_un d 155 300 0 [some (vr 7 0 0), some (vi x1), some (vi x2)] [] O).trans rfl
set_option maxRecDepth 100000 in
theorem sX7_allThatFit_5 (d : Nat) (O : Mem_) (x1 : Int32) (x2 : Int32) (x3 : Int32) (x4 : Int32) : ex (d + 1) 155 5 [some (vr 7 0 0), some (vi x1), some (vi x2), some (vi x3), some (vi x4)] [] O =
if x4 < (O 7 0 0 2) then
((ex d 154 0 [some (vr 7 0 0), some (vi x1), some (vi x2), some (vi x4)] [] O).bind fun r0 =>
if r0.1 = nI 0 then
(ex (d + 1) 155 5 [some (vr 7 0 0), some (vi x1), some (vi x2), some (vi (x3 ||| (nI 0))), some (vi (x4 + (nI 1)))] [] r0.2)
else
(ex (d + 1) 155 5 [some (vr 7 0 0), some (vi x1), some (vi x2), some (vi (x3 ||| ((nI 1) <<< (x4 &&& (31:Int32))))), some (vi (x4 + (nI 1)))] [] r0.2))
else
(some (x3, O)) := (ex_un d 155 300 5 [some (vr 7 0 0), some (vi x1), some (vi x2), some (vi x3), some (vi x4)] [] O).trans rfl
set_option maxRecDepth 100000 in
theorem sX7_plainest_0 (d : Nat) (O : Mem_) (x1 : Int32) : ex (d + 1) 156 0 [some (vr 7 0 0), some (vi x1)] [] O =
ex (d + 1) 156 5 [some (vr 7 0 0), some (vi x1), some (vi (oI none)), some (vi (nI 0))] [] O := (ex_un d 156 300 0 [some (vr 7 0 0), some (vi x1)] [] O).trans rfl
set_option maxRecDepth 100000 in
theorem sX7_plainest_5 (d : Nat) (O : Mem_) (x1 : Int32) (x2 : Int32) (x3 : Int32) : ex (d + 1) 156 5 [some (vr 7 0 0), some (vi x1), some (vi x2), some (vi x3)] [] O =
if x3 < (O 7 0 0 2) then
(if ((x1 >>> (x3 &&& (31:Int32))) &&& (nI 1)) = (nI 1) then
(if x2 = (oI none) then
(ex (d + 1) 156 5 [some (vr 7 0 0), some (vi x1), some (vi x3), some (vi (x3 + (nI 1)))] [] O)
else
((ex d 146 0 [some (vr 7 0 0), some (vi x3)] [] O).bind fun r0 =>
(ex d 146 0 [some (vr 7 0 0), some (vi x2)] [] r0.2).bind fun r1 =>
if r0.1 < r1.1 then
(ex (d + 1) 156 5 [some (vr 7 0 0), some (vi x1), some (vi x3), some (vi (x3 + (nI 1)))] [] r1.2)
else
(ex (d + 1) 156 5 [some (vr 7 0 0), some (vi x1), some (vi x2), some (vi (x3 + (nI 1)))] [] r1.2)))
else
(ex (d + 1) 156 5 [some (vr 7 0 0), some (vi x1), some (vi x2), some (vi (x3 + (nI 1)))] [] O))
else
(some (x2, O)) := (ex_un d 156 300 5 [some (vr 7 0 0), some (vi x1), some (vi x2), some (vi x3)] [] O).trans rfl
set_option maxRecDepth 100000 in
theorem sX7_areAllOne_0 (d : Nat) (O : Mem_) (x1 : Int32) : ex (d + 1) 157 0 [some (vr 7 0 0), some (vi x1)] [] O =
(ex d 156 0 [some (vr 7 0 0), some (vi x1)] [] O).bind fun r0 =>
ex (d + 1) 157 11 [some (vr 7 0 0), some (vi x1), some (vi r0.1), some (vi (nI 1)), some (vi (nI 0))] [] r0.2 := (ex_un d 157 300 0 [some (vr 7 0 0), some (vi x1)] [] O).trans rfl
set_option maxRecDepth 100000 in
theorem sX7_areAllOne_11 (d : Nat) (O : Mem_) (x1 : Int32) (x2 : Int32) (x3 : Int32) (x4 : Int32) : ex (d + 1) 157 11 [some (vr 7 0 0), some (vi x1), some (vi x2), some (vi x3), some (vi x4)] [] O =
if x4 < (O 7 0 0 2) then
(if x3 = nI 0 then
(ex (d + 1) 157 11 [some (vr 7 0 0), some (vi x1), some (vi x2), some (vi (nI 0)), some (vi (x4 + (nI 1)))] [] O)
else
(if ((x1 >>> (x4 &&& (31:Int32))) &&& (nI 1)) = nI 0 then
(ex (d + 1) 157 11 [some (vr 7 0 0), some (vi x1), some (vi x2), some (vi (nI 1)), some (vi (x4 + (nI 1)))] [] O)
else
(if ib x4 12 then
(if ib x2 12 then
(if (O 7 0 19 (Int32.toNatClampNeg x4)) = (O 7 0 19 (Int32.toNatClampNeg x2)) then
(ex (d + 1) 157 11 [some (vr 7 0 0), some (vi x1), some (vi x2), some (vi (nI 1)), some (vi (x4 + (nI 1)))] [] O)
else
(ex (d + 1) 157 11 [some (vr 7 0 0), some (vi x1), some (vi x2), some (vi (nI 0)), some (vi (x4 + (nI 1)))] [] O))
else none)
else none)))
else
(if x3 = nI 0 ∨ x3 = nI 1 then some (x3, O) else none) := (ex_un d 157 300 11 [some (vr 7 0 0), some (vi x1), some (vi x2), some (vi x3), some (vi x4)] [] O).trans rfl
set_option maxRecDepth 100000 in
theorem sX7_proudLooks_0 (d : Nat) (O : Mem_) (x1 : Int32) (x2 : Int32) (x3 : Int32) (x4 : Int32) : ex (d + 1) 158 0 [some (vr 7 0 0), some (vi x1), some (vi x2), some (vi x3), some (vi x4)] [] O =
if ib (x1 + x2) 210 then
(if (O 7 0 28 (Int32.toNatClampNeg (x1 + x2))) = (oI none) then
(ex (d + 1) 158 18 [some (vr 7 0 0), some (vi x1), some (vi x2), some (vi x3), some (vi x4)] [vi (nI 1)] O)
else
(ex (d + 1) 158 18 [some (vr 7 0 0), some (vi x1), some (vi x2), some (vi x3), some (vi x4)] [vi (nI 0)] O))
else none := (ex_un d 158 300 0 [some (vr 7 0 0), some (vi x1), some (vi x2), some (vi x3), some (vi x4)] [] O).trans rfl
set_option maxRecDepth 100000 in
theorem sX7_proudLooks_18 (d : Nat) (O : Mem_) (x1 : Int32) (x2 : Int32) (x3 : Int32) (x4 : Int32) (y0 : Int32) : ex (d + 1) 158 18 [some (vr 7 0 0), some (vi x1), some (vi x2), some (vi x3), some (vi x4)] [vi y0] O =
if y0 = nI 0 then
(if x4 = nI 0 then
(ex (d + 1) 158 65 [some (vr 7 0 0), some (vi x1), some (vi x2), some (vi x3), none, some (vi y0)] [] O)
else
(if ib ((x1 + (nI 4)) + x2) 210 then
(if ib ((x1 + (nI 4)) + x2) 210 then
(if ib ((x1 + (nI 4)) + x2) 210 then
(if ((up O 7 0 28 (Int32.toNatClampNeg ((x1 + (nI 4)) + x2)) ((O 7 0 28 (Int32.toNatClampNeg ((x1 + (nI 4)) + x2))) + (nI 1))) 7 0 28 (Int32.toNatClampNeg ((x1 + (nI 4)) + x2))) = (nI 2) then
(ex (d + 1) 158 65 [some (vr 7 0 0), some (vi x1), some (vi x2), some (vi x3), none, some (vi (nI 1))] [] (up O 7 0 28 (Int32.toNatClampNeg ((x1 + (nI 4)) + x2)) ((O 7 0 28 (Int32.toNatClampNeg ((x1 + (nI 4)) + x2))) + (nI 1))))
else
(ex (d + 1) 158 65 [some (vr 7 0 0), some (vi x1), some (vi x2), some (vi x3), none, some (vi (nI 0))] [] (up O 7 0 28 (Int32.toNatClampNeg ((x1 + (nI 4)) + x2)) ((O 7 0 28 (Int32.toNatClampNeg ((x1 + (nI 4)) + x2))) + (nI 1)))))
else none)
else none)
else none))
else
(ex (d + 1) 158 65 [some (vr 7 0 0), some (vi x1), some (vi x2), some (vi x3), none, some (vi y0)] [] O) := (ex_un d 158 300 18 [some (vr 7 0 0), some (vi x1), some (vi x2), some (vi x3), some (vi x4)] [vi y0] O).trans rfl
set_option maxRecDepth 100000 in
theorem sX7_proudLooks_65 (d : Nat) (O : Mem_) (x1 : Int32) (x2 : Int32) (x3 : Int32) (x5 : Int32) : ex (d + 1) 158 65 [some (vr 7 0 0), some (vi x1), some (vi x2), some (vi x3), none, some (vi x5)] [] O =
if x5 = nI 0 then
(some (nI 0, O))
else
((ex d 156 0 [some (vr 7 0 0), some (vi x3)] [] O).bind fun r0 =>
if ib (x1 + x2) 210 then
(if ib ((x1 + (nI 4)) + x2) 210 then
(some (nI 0, (up (up r0.2 7 0 28 (Int32.toNatClampNeg (x1 + x2)) r0.1) 7 0 28 (Int32.toNatClampNeg ((x1 + (nI 4)) + x2)) (nI 0))))
else none)
else none) := (ex_un d 158 300 65 [some (vr 7 0 0), some (vi x1), some (vi x2), some (vi x3), none, some (vi x5)] [] O).trans rfl
set_option maxRecDepth 100000 in
theorem sX7_looks_0 (d : Nat) (O : Mem_) (x1 : Int32) (x2 : Int32) (x3 : Int32) (x4 : Int32) (x5 : Int32) : ex (d + 1) 159 0 [some (vr 7 0 0), some (vi x1), some (vi x2), some (vi x3), some (vi x4), some (vi x5)] [] O =
(ex d 155 0 [some (vr 7 0 0), some (vi x1), some (vi x3)] [] O).bind fun r0 =>
(ex d 147 0 [some (vr 7 0 0), some (vi x2)] [] r0.2).bind fun r1 =>
ex (d + 1) 159 25 [some (vr 7 0 0), none, some (vi x2), some (vi x3), some (vi x4), some (vi x5), some (vi (x1 + ((nI 10) * x2))), some (vi (r0.1 &&& r1.1)), some (vi (nI 0))] [] r1.2 := (ex_un d 159 300 0 [some (vr 7 0 0), some (vi x1), some (vi x2), some (vi x3), some (vi x4), some (vi x5)] [] O).trans rfl
set_option maxRecDepth 100000 in
theorem sX7_looks_25 (d : Nat) (O : Mem_) (x2 : Int32) (x3 : Int32) (x4 : Int32) (x5 : Int32) (x6 : Int32) (x7 : Int32) (x8 : Int32) : ex (d + 1) 159 25 [some (vr 7 0 0), none, some (vi x2), some (vi x3), some (vi x4), some (vi x5), some (vi x6), some (vi x7), some (vi x8)] [] O =
if x8 < (O 7 0 0 5) then
(if ib (((nI 5) * x2) + (nI 3)) 30 then
(if (O 7 0 9 (Int32.toNatClampNeg (((nI 5) * x2) + (nI 3)))) = (nI 1) then
(if x8 = x3 then
(ex (d + 1) 159 25 [some (vr 7 0 0), none, some (vi x2), some (vi x3), some (vi x4), some (vi x5), some (vi x6), some (vi (x7 &&& (-1))), some (vi (x8 + (nI 1)))] [] O)
else
(if ib (x6 + x8) 210 then
(if (O 7 0 28 (Int32.toNatClampNeg (x6 + x8))) = (oI none) then
(ex (d + 1) 159 25 [some (vr 7 0 0), none, some (vi x2), some (vi x3), some (vi x4), some (vi x5), some (vi x6), some (vi (x7 &&& (-1))), some (vi (x8 + (nI 1)))] [] O)
else
(if ib (x6 + x8) 210 then
(ex (d + 1) 159 25 [some (vr 7 0 0), none, some (vi x2), some (vi x3), some (vi x4), some (vi x5), some (vi x6), some (vi (x7 &&& (((nI 1) <<< ((O 7 0 28 (Int32.toNatClampNeg (x6 + x8))) &&& (31:Int32))) ^^^ (-1)))), some (vi (x8 + (nI 1)))] [] O)
else none))
else none))
else
(ex (d + 1) 159 25 [some (vr 7 0 0), none, some (vi x2), some (vi x3), some (vi x4), some (vi x5), some (vi x6), some (vi (x7 &&& (-1))), some (vi (x8 + (nI 1)))] [] O))
else none)
else
(if ib ((nI 5) * x2) 30 then
(if (O 7 0 9 (Int32.toNatClampNeg ((nI 5) * x2))) = (nI 3) then
(if ib (x6 + x3) 210 then
(if (O 7 0 28 (Int32.toNatClampNeg (x6 + x3))) = (oI none) then
(ex (d + 1) 159 161 [some (vr 7 0 0), none, none, some (vi x3), none, none, some (vi x6)] [vi x7, vi x3, vi x6, vr 7 0 0] O)
else
(if ib (x6 + x3) 210 then
(if ib (O 7 0 28 (Int32.toNatClampNeg (x6 + x3))) 12 then
((ex d 122 0 [some (vi x5)] [] O).bind fun r0 =>
if (((O 7 0 19 (Int32.toNatClampNeg (O 7 0 28 (Int32.toNatClampNeg (x6 + x3))))) >>> (x4 &&& (31:Int32))) &&& (nI 1)) = r0.1 then
(ex (d + 1) 159 161 [some (vr 7 0 0), none, none, some (vi x3), none, none, some (vi x6)] [vi x7, vi x3, vi x6, vr 7 0 0] r0.2)
else
((ex d 158 0 [some (vr 7 0 0), some (vi x6), some (vi x3), some (vi x7), some (vi (nI 1))] [] r0.2).bind fun r1 =>
ex (d + 1) 159 274 [some (vr 7 0 0), none, none, some (vi x3), none, none, some (vi x6)] [] r1.2))
else none)
else none))
else none)
else
(if ib ((nI 5) * x2) 30 then
(if (O 7 0 9 (Int32.toNatClampNeg ((nI 5) * x2))) = (nI 2) then
((ex d 157 0 [some (vr 7 0 0), some (vi x7)] [] O).bind fun r2 =>
if r2.1 = nI 0 then
(if ib (x6 + x3) 210 then
(ex (d + 1) 159 274 [some (vr 7 0 0), none, none, some (vi x3), none, none, some (vi x6)] [] (up r2.2 7 0 28 (Int32.toNatClampNeg (x6 + x3)) (oI none)))
else none)
else
((ex d 156 0 [some (vr 7 0 0), some (vi x7)] [] r2.2).bind fun r3 =>
if ib (x6 + x3) 210 then
(ex (d + 1) 159 274 [some (vr 7 0 0), none, none, some (vi x3), none, none, some (vi x6)] [] (up r3.2 7 0 28 (Int32.toNatClampNeg (x6 + x3)) r3.1))
else none))
else
(if ib (x6 + (nI 8)) 210 then
(if ib ((nI 5) * x2) 30 then
(if (O 7 0 9 (Int32.toNatClampNeg ((nI 5) * x2))) = (nI 1) then
(if (O 7 0 28 (Int32.toNatClampNeg (x6 + (nI 8)))) = (oI none) then
(ex (d + 1) 159 267 [some (vr 7 0 0), none, none, some (vi x3), none, none, some (vi x6), some (vi x7)] [vi (x6 + x3), vr 7 0 28] O)
else
(if ((x7 >>> ((O 7 0 28 (Int32.toNatClampNeg (x6 + (nI 8)))) &&& (31:Int32))) &&& (nI 1)) = (nI 1) then
(if ib (x6 + x3) 210 then
(ex (d + 1) 159 274 [some (vr 7 0 0), none, none, some (vi x3), none, none, some (vi x6)] [] (up O 7 0 28 (Int32.toNatClampNeg (x6 + x3)) (O 7 0 28 (Int32.toNatClampNeg (x6 + (nI 8))))))
else none)
else
(ex (d + 1) 159 267 [some (vr 7 0 0), none, none, some (vi x3), none, none, some (vi x6), some (vi x7)] [vi (x6 + x3), vr 7 0 28] O)))
else
(ex (d + 1) 159 267 [some (vr 7 0 0), none, none, some (vi x3), none, none, some (vi x6), some (vi x7)] [vi (x6 + x3), vr 7 0 28] O))
else none)
else none))
else none))
else none) := (ex_un d 159 300 25 [some (vr 7 0 0), none, some (vi x2), some (vi x3), some (vi x4), some (vi x5), some (vi x6), some (vi x7), some (vi x8)] [] O).trans rfl
set_option maxRecDepth 100000 in
theorem sX7_looks_161 (d : Nat) (O : Mem_) (x3 : Int32) (x6 : Int32) (y0 : Int32) (y1 : Int32) (y2 : Int32) : ex (d + 1) 159 161 [some (vr 7 0 0), none, none, some (vi x3), none, none, some (vi x6)] [vi y0, vi y1, vi y2, vr 7 0 0] O =
(ex d 158 0 [some (vr 7 0 0), some (vi y2), some (vi y1), some (vi y0), some (vi (nI 0))] [] O).bind fun r0 =>
ex (d + 1) 159 274 [some (vr 7 0 0), none, none, some (vi x3), none, none, some (vi x6)] [] r0.2 := (ex_un d 159 300 161 [some (vr 7 0 0), none, none, some (vi x3), none, none, some (vi x6)] [vi y0, vi y1, vi y2, vr 7 0 0] O).trans rfl
set_option maxRecDepth 100000 in
theorem sX7_looks_267 (d : Nat) (O : Mem_) (x3 : Int32) (x6 : Int32) (x7 : Int32) (y0 : Int32) : ex (d + 1) 159 267 [some (vr 7 0 0), none, none, some (vi x3), none, none, some (vi x6), some (vi x7)] [vi y0, vr 7 0 28] O =
(ex d 156 0 [some (vr 7 0 0), some (vi x7)] [] O).bind fun r0 =>
if ib y0 210 then
(ex (d + 1) 159 274 [some (vr 7 0 0), none, none, some (vi x3), none, none, some (vi x6)] [] (up r0.2 7 0 28 (Int32.toNatClampNeg y0) r0.1))
else none := (ex_un d 159 300 267 [some (vr 7 0 0), none, none, some (vi x3), none, none, some (vi x6), some (vi x7)] [vi y0, vr 7 0 28] O).trans rfl
set_option maxRecDepth 100000 in
theorem sX7_looks_274 (d : Nat) (O : Mem_) (x3 : Int32) (x6 : Int32) : ex (d + 1) 159 274 [some (vr 7 0 0), none, none, some (vi x3), none, none, some (vi x6)] [] O =
if ib (x6 + x3) 210 then
(if (O 7 0 28 (Int32.toNatClampNeg (x6 + x3))) = (oI none) then
(if ib (x6 + (nI 8)) 210 then
(if ib (x6 + (nI 8)) 210 then
(some (nI 0, (up O 7 0 28 (Int32.toNatClampNeg (x6 + (nI 8))) (O 7 0 28 (Int32.toNatClampNeg (x6 + (nI 8)))))))
else none)
else none)
else
(if ib (x6 + x3) 210 then
(if ib (x6 + (nI 8)) 210 then
(some (nI 0, (up O 7 0 28 (Int32.toNatClampNeg (x6 + (nI 8))) (O 7 0 28 (Int32.toNatClampNeg (x6 + x3))))))
else none)
else none))
else none := (ex_un d 159 300 274 [some (vr 7 0 0), none, none, some (vi x3), none, none, some (vi x6)] [] O).trans rfl
set_option maxRecDepth 100000 in
theorem sX7_flees_0 (d : Nat) (O : Mem_) (x1 : Int32) (x2 : Int32) : ex (d + 1) 160 0 [some (vr 7 0 0), some (vi x1), some (vi x2)] [] O =
if ib (x1 + (nI 9)) 210 then
(ex (d + 1) 160 12 [some (vr 7 0 0), some (vi x1), none, some (vi (nI 0))] [] (up O 7 0 28 (Int32.toNatClampNeg (x1 + (nI 9))) x2))
else none := (ex_un d 160 300 0 [some (vr 7 0 0), some (vi x1), some (vi x2)] [] O).trans rfl
set_option maxRecDepth 100000 in
theorem sX7_flees_12 (d : Nat) (O : Mem_) (x1 : Int32) (x3 : Int32) : ex (d + 1) 160 12 [some (vr 7 0 0), some (vi x1), none, some (vi x3)] [] O =
if x3 < (nI 4) then
(if ib (x1 + x3) 210 then
(if ib ((x1 + (nI 4)) + x3) 210 then
(ex (d + 1) 160 12 [some (vr 7 0 0), some (vi x1), none, some (vi (x3 + (nI 1)))] [] (up (up O 7 0 28 (Int32.toNatClampNeg (x1 + x3)) (oI none)) 7 0 28 (Int32.toNatClampNeg ((x1 + (nI 4)) + x3)) (nI 0)))
else none)
else none)
else
(some (nI 0, O)) := (ex_un d 160 300 12 [some (vr 7 0 0), some (vi x1), none, some (vi x3)] [] O).trans rfl
set_option maxRecDepth 100000 in
theorem sX7_sees_0 (d : Nat) (O : Mem_) (x1 : Int32) (x2 : Int32) (x3 : Int32) (x4 : Int32) (x5 : Int32) : ex (d + 1) 161 0 [some (vr 7 0 0), some (vi x1), some (vi x2), some (vi x3), some (vi x4), some (vi x5)] [] O =
if ib ((x1 + (nI 60)) + x3) 210 then
(if x5 = nI 0 then
(ex (d + 1) 161 25 [some (vr 7 0 0), some (vi x1), some (vi x2), some (vi x3), some (vi x4), some (vi x5)] [vi (nI 0), vi (O 7 0 28 (Int32.toNatClampNeg ((x1 + (nI 60)) + x3))), vi ((x1 + (nI 60)) + x3), vr 7 0 28] O)
else
(ex (d + 1) 161 25 [some (vr 7 0 0), some (vi x1), some (vi x2), some (vi x3), some (vi x4), some (vi x5)] [vi ((nI 1) <<< (x4 &&& (31:Int32))), vi (O 7 0 28 (Int32.toNatClampNeg ((x1 + (nI 60)) + x3))), vi ((x1 + (nI 60)) + x3), vr 7 0 28] O))
else none := (ex_un d 161 300 0 [some (vr 7 0 0), some (vi x1), some (vi x2), some (vi x3), some (vi x4), some (vi x5)] [] O).trans rfl
set_option maxRecDepth 100000 in
theorem sX7_sees_25 (d : Nat) (O : Mem_) (x1 : Int32) (x2 : Int32) (x3 : Int32) (x4 : Int32) (x5 : Int32) (y0 : Int32) (y1 : Int32) (y2 : Int32) : ex (d + 1) 161 25 [some (vr 7 0 0), some (vi x1), some (vi x2), some (vi x3), some (vi x4), some (vi x5)] [vi y0, vi y1, vi y2, vr 7 0 28] O =
if ib y2 210 then
(if ib ((x1 + (nI 64)) + x3) 210 then
(if x5 = nI 0 then
(if ib ((x1 + (nI 64)) + x3) 210 then
(ex (d + 1) 161 57 [some (vr 7 0 0), some (vi x1), some (vi x2), some (vi x3), some (vi x4), some (vi x5), some (vi (nI 0))] [] (up (up O 7 0 28 (Int32.toNatClampNeg y2) (y1 ||| y0)) 7 0 28 (Int32.toNatClampNeg ((x1 + (nI 64)) + x3)) (((up O 7 0 28 (Int32.toNatClampNeg y2) (y1 ||| y0)) 7 0 28 (Int32.toNatClampNeg ((x1 + (nI 64)) + x3))) ||| ((nI 1) <<< (x4 &&& (31:Int32))))))
else none)
else
(if ib ((x1 + (nI 64)) + x3) 210 then
(ex (d + 1) 161 57 [some (vr 7 0 0), some (vi x1), some (vi x2), some (vi x3), some (vi x4), some (vi x5), some (vi (nI 0))] [] (up (up O 7 0 28 (Int32.toNatClampNeg y2) (y1 ||| y0)) 7 0 28 (Int32.toNatClampNeg ((x1 + (nI 64)) + x3)) (((up O 7 0 28 (Int32.toNatClampNeg y2) (y1 ||| y0)) 7 0 28 (Int32.toNatClampNeg ((x1 + (nI 64)) + x3))) ||| (nI 0))))
else none))
else none)
else none := (ex_un d 161 300 25 [some (vr 7 0 0), some (vi x1), some (vi x2), some (vi x3), some (vi x4), some (vi x5)] [vi y0, vi y1, vi y2, vr 7 0 28] O).trans rfl
set_option maxRecDepth 100000 in
theorem sX7_sees_57 (d : Nat) (O : Mem_) (x1 : Int32) (x2 : Int32) (x3 : Int32) (x4 : Int32) (x5 : Int32) (x6 : Int32) : ex (d + 1) 161 57 [some (vr 7 0 0), some (vi x1), some (vi x2), some (vi x3), some (vi x4), some (vi x5), some (vi x6)] [] O =
if x6 < (O 7 0 0 7) then
(if ib ((x1 + ((nI 10) * x6)) + (nI 9)) 210 then
(if (O 7 0 28 (Int32.toNatClampNeg ((x1 + ((nI 10) * x6)) + (nI 9)))) = (oI none) then
(if ib (((nI 5) * x6) + (nI 2)) 30 then
(if (O 7 0 9 (Int32.toNatClampNeg (((nI 5) * x6) + (nI 2)))) = x4 then
((ex d 160 0 [some (vr 7 0 0), some (vi (x1 + ((nI 10) * x6))), some (vi x2)] [] O).bind fun r0 =>
ex (d + 1) 161 57 [some (vr 7 0 0), some (vi x1), some (vi x2), some (vi x3), some (vi x4), some (vi x5), some (vi (x6 + (nI 1)))] [] r0.2)
else
((ex d 159 0 [some (vr 7 0 0), some (vi x1), some (vi x6), some (vi x3), some (vi x4), some (vi x5)] [] O).bind fun r1 =>
ex (d + 1) 161 57 [some (vr 7 0 0), some (vi x1), some (vi x2), some (vi x3), some (vi x4), some (vi x5), some (vi (x6 + (nI 1)))] [] r1.2))
else none)
else
(ex (d + 1) 161 57 [some (vr 7 0 0), some (vi x1), some (vi x2), some (vi x3), some (vi x4), some (vi x5), some (vi (x6 + (nI 1)))] [] O))
else none)
else
(some (nI 0, O)) := (ex_un d 161 300 57 [some (vr 7 0 0), some (vi x1), some (vi x2), some (vi x3), some (vi x4), some (vi x5), some (vi x6)] [] O).trans rfl
set_option maxRecDepth 100000 in
theorem sX7_replays_0 (d : Nat) (O : Mem_)  : ex (d + 1) 162 0 [some (vr 7 0 0)] [] O =
(ex d 153 0 [some (vr 7 0 0), some (vi (nI 0))] [] O).bind fun r0 =>
ex (d + 1) 162 7 [some (vr 7 0 0), some (vi (nI 0))] [] r0.2 := (ex_un d 162 300 0 [some (vr 7 0 0)] [] O).trans rfl
set_option maxRecDepth 100000 in
theorem sX7_replays_7 (d : Nat) (O : Mem_) (x1 : Int32) : ex (d + 1) 162 7 [some (vr 7 0 0), some (vi x1)] [] O =
if x1 < (O 7 0 0 28) then
(if ib ((nI 3) * x1) 72 then
(if ib (((nI 3) * x1) + (nI 1)) 72 then
(if ib (((nI 3) * x1) + (nI 2)) 72 then
(if (O 7 0 30 (Int32.toNatClampNeg (((nI 3) * x1) + (nI 2)))) = (nI 1) then
(ex (d + 1) 162 55 [some (vr 7 0 0), some (vi x1)] [vi (nI 1), vi (O 7 0 30 (Int32.toNatClampNeg (((nI 3) * x1) + (nI 1)))), vi (O 7 0 30 (Int32.toNatClampNeg ((nI 3) * x1))), vi x1, vi (nI 0), vr 7 0 0] O)
else
(ex (d + 1) 162 55 [some (vr 7 0 0), some (vi x1)] [vi (nI 0), vi (O 7 0 30 (Int32.toNatClampNeg (((nI 3) * x1) + (nI 1)))), vi (O 7 0 30 (Int32.toNatClampNeg ((nI 3) * x1))), vi x1, vi (nI 0), vr 7 0 0] O))
else none)
else none)
else none)
else
(some (nI 0, O)) := (ex_un d 162 300 7 [some (vr 7 0 0), some (vi x1)] [] O).trans rfl
set_option maxRecDepth 100000 in
theorem sX7_replays_55 (d : Nat) (O : Mem_) (x1 : Int32) (y0 : Int32) (y1 : Int32) (y2 : Int32) (y3 : Int32) (y4 : Int32) : ex (d + 1) 162 55 [some (vr 7 0 0), some (vi x1)] [vi y0, vi y1, vi y2, vi y3, vi y4, vr 7 0 0] O =
(ex d 161 0 [some (vr 7 0 0), some (vi y4), some (vi y3), some (vi y2), some (vi y1), some (vi y0)] [] O).bind fun r0 =>
ex (d + 1) 162 7 [some (vr 7 0 0), some (vi (x1 + (nI 1)))] [] r0.2 := (ex_un d 162 300 55 [some (vr 7 0 0), some (vi x1)] [vi y0, vi y1, vi y2, vi y3, vi y4, vr 7 0 0] O).trans rfl
set_option maxRecDepth 100000 in
theorem sX7_adds_0 (d : Nat) (O : Mem_) (x1 : Int32) (x2 : Int32) (x3 : Int32) : ex (d + 1) 163 0 [some (vr 7 0 0), some (vi x1), some (vi x2), some (vi x3)] [] O =
if (O 7 0 0 28) = (nI 24) then
(some ((-3), O))
else
(if ib ((nI 3) * (O 7 0 0 28)) 72 then
(if ib (((nI 3) * ((up O 7 0 30 (Int32.toNatClampNeg ((nI 3) * (O 7 0 0 28))) x1) 7 0 0 28)) + (nI 1)) 72 then
((ex d 122 0 [some (vi x3)] [] (up (up O 7 0 30 (Int32.toNatClampNeg ((nI 3) * (O 7 0 0 28))) x1) 7 0 30 (Int32.toNatClampNeg (((nI 3) * ((up O 7 0 30 (Int32.toNatClampNeg ((nI 3) * (O 7 0 0 28))) x1) 7 0 0 28)) + (nI 1))) x2)).bind fun r0 =>
if ib (((nI 3) * ((up (up O 7 0 30 (Int32.toNatClampNeg ((nI 3) * (O 7 0 0 28))) x1) 7 0 30 (Int32.toNatClampNeg (((nI 3) * ((up O 7 0 30 (Int32.toNatClampNeg ((nI 3) * (O 7 0 0 28))) x1) 7 0 0 28)) + (nI 1))) x2) 7 0 0 28)) + (nI 2)) 72 then
((ex d 161 0 [some (vr 7 0 0), some (vi (nI 0)), some (vi ((up r0.2 7 0 30 (Int32.toNatClampNeg (((nI 3) * ((up (up O 7 0 30 (Int32.toNatClampNeg ((nI 3) * (O 7 0 0 28))) x1) 7 0 30 (Int32.toNatClampNeg (((nI 3) * ((up O 7 0 30 (Int32.toNatClampNeg ((nI 3) * (O 7 0 0 28))) x1) 7 0 0 28)) + (nI 1))) x2) 7 0 0 28)) + (nI 2))) r0.1) 7 0 0 28)), some (vi x1), some (vi x2), some (vi x3)] [] (up r0.2 7 0 30 (Int32.toNatClampNeg (((nI 3) * ((up (up O 7 0 30 (Int32.toNatClampNeg ((nI 3) * (O 7 0 0 28))) x1) 7 0 30 (Int32.toNatClampNeg (((nI 3) * ((up O 7 0 30 (Int32.toNatClampNeg ((nI 3) * (O 7 0 0 28))) x1) 7 0 0 28)) + (nI 1))) x2) 7 0 0 28)) + (nI 2))) r0.1)).bind fun r1 =>
some (((up r1.2 7 0 0 28 ((r1.2 7 0 0 28) + (nI 1))) 7 0 0 28), (up r1.2 7 0 0 28 ((r1.2 7 0 0 28) + (nI 1)))))
else none)
else none)
else none) := (ex_un d 163 300 0 [some (vr 7 0 0), some (vi x1), some (vi x2), some (vi x3)] [] O).trans rfl
set_option maxRecDepth 100000 in
theorem sX7_isTrue_0 (d : Nat) (O : Mem_) (x1 : Int32) (x2 : Int32) : ex (d + 1) 164 0 [some (vr 7 0 0), some (vi x1), some (vi x2)] [] O =
(ex d 148 0 [some (vr 7 0 0), some (vi x1)] [] O).bind fun r0 =>
if ((r0.1 >>> (x2 &&& (31:Int32))) &&& (nI 1)) = (nI 1) then
(some ((nI 1), r0.2))
else
(some ((nI 0), r0.2)) := (ex_un d 164 300 0 [some (vr 7 0 0), some (vi x1), some (vi x2)] [] O).trans rfl
set_option maxRecDepth 100000 in
theorem sX7_show_0 (d : Nat) (O : Mem_) (x1 : Int32) (x2 : Int32) (x3 : Int32) : ex (d + 1) 165 0 [some (vr 7 0 0), some (vi x1), some (vi x2), some (vi x3)] [] O =
(ex d 143 0 [some (vr 7 0 0), some (vi x1)] [] O).bind fun r0 =>
if r0.1 = nI 0 then
(some ((-1), r0.2))
else
((ex d 142 0 [some (vr 7 0 0), some (vi x2)] [] r0.2).bind fun r1 =>
if r1.1 = nI 0 then
(some ((-1), r1.2))
else
((ex d 163 0 [some (vr 7 0 0), some (vi x1), some (vi x2), some (vi x3)] [] r1.2).bind fun r2 =>
some (r2.1, r2.2))) := (ex_un d 165 300 0 [some (vr 7 0 0), some (vi x1), some (vi x2), some (vi x3)] [] O).trans rfl
set_option maxRecDepth 100000 in
theorem sX7_teach_0 (d : Nat) (O : Mem_) (x1 : Int32) (x2 : Int32) : ex (d + 1) 166 0 [some (vr 7 0 0), some (vi x1), some (vi x2)] [] O =
(ex d 143 0 [some (vr 7 0 0), some (vi x1)] [] O).bind fun r0 =>
if r0.1 = nI 0 then
(some ((-1), r0.2))
else
((ex d 142 0 [some (vr 7 0 0), some (vi x2)] [] r0.2).bind fun r1 =>
if r1.1 = nI 0 then
(some ((-1), r1.2))
else
((ex d 164 0 [some (vr 7 0 0), some (vi x1), some (vi x2)] [] r1.2).bind fun r2 =>
(ex d 163 0 [some (vr 7 0 0), some (vi x1), some (vi x2), some (vi r2.1)] [] r2.2).bind fun r3 =>
some (r3.1, r3.2))) := (ex_un d 166 300 0 [some (vr 7 0 0), some (vi x1), some (vi x2)] [] O).trans rfl
set_option maxRecDepth 100000 in
theorem sX7_undo_0 (d : Nat) (O : Mem_)  : ex (d + 1) 167 0 [some (vr 7 0 0)] [] O =
if (O 7 0 0 28) = nI 0 then
(some ((oI none), O))
else
((ex d 162 0 [some (vr 7 0 0)] [] (up O 7 0 0 28 ((O 7 0 0 28) - (nI 1)))).bind fun r0 =>
some ((r0.2 7 0 0 28), r0.2)) := (ex_un d 167 300 0 [some (vr 7 0 0)] [] O).trans rfl
set_option maxRecDepth 100000 in
theorem sX7_clear_0 (d : Nat) (O : Mem_)  : ex (d + 1) 168 0 [some (vr 7 0 0)] [] O =
(ex d 162 0 [some (vr 7 0 0)] [] (up (up O 7 0 0 28 (nI 0)) 7 0 0 33 (((nI 1) <<< (((up O 7 0 0 28 (nI 0)) 7 0 0 7) &&& (31:Int32))) - (nI 1)))).bind fun r0 =>
some ((O 7 0 0 28), r0.2) := (ex_un d 168 300 0 [some (vr 7 0 0)] [] O).trans rfl
set_option maxRecDepth 100000 in
theorem sX7_shown_0 (d : Nat) (O : Mem_) (x1 : Int32) (x2 : Int32) : ex (d + 1) 169 0 [some (vr 7 0 0), some (vi x1), some (vi x2)] [] O =
(ex d 121 0 [some (vl (Int32.toInt64 x1)), none, some (vl 0), none, some (vl (Int32.toInt64 ((O 7 0 0 28) - (nI 1)))), none] [] O).bind fun r0 =>
if r0.1 = nI 0 then
(some ((-1), r0.2))
else
((ex d 121 0 [some (vl (Int32.toInt64 x2)), none, some (vl 0), none, some (vl (2)), none] [] r0.2).bind fun r1 =>
if r1.1 = nI 0 then
(some ((-1), r1.2))
else
(if ib (((nI 3) * x1) + x2) 72 then
(some ((r1.2 7 0 30 (Int32.toNatClampNeg (((nI 3) * x1) + x2))), r1.2))
else none)) := (ex_un d 169 300 0 [some (vr 7 0 0), some (vi x1), some (vi x2)] [] O).trans rfl
set_option maxRecDepth 100000 in
theorem sX7_thinks_0 (d : Nat) (O : Mem_) (x1 : Int32) (x2 : Int32) : ex (d + 1) 170 0 [some (vr 7 0 0), some (vi x1), some (vi x2)] [] O =
(ex d 144 0 [some (vr 7 0 0), some (vi x1)] [] O).bind fun r0 =>
if r0.1 = nI 0 then
(some ((-1), r0.2))
else
((ex d 143 0 [some (vr 7 0 0), some (vi x2)] [] r0.2).bind fun r1 =>
if r1.1 = nI 0 then
(some ((-1), r1.2))
else
(if ib (((nI 0) + ((nI 10) * x1)) + x2) 210 then
(some ((r1.2 7 0 28 (Int32.toNatClampNeg (((nI 0) + ((nI 10) * x1)) + x2))), r1.2))
else none)) := (ex_un d 170 300 0 [some (vr 7 0 0), some (vi x1), some (vi x2)] [] O).trans rfl
set_option maxRecDepth 100000 in
theorem sX7_fits_0 (d : Nat) (O : Mem_) (x1 : Int32) (x2 : Int32) : ex (d + 1) 171 0 [some (vr 7 0 0), some (vi x1), some (vi x2)] [] O =
(ex d 144 0 [some (vr 7 0 0), some (vi x1)] [] O).bind fun r0 =>
if r0.1 = nI 0 then
(some ((-1), r0.2))
else
((ex d 143 0 [some (vr 7 0 0), some (vi x2)] [] r0.2).bind fun r1 =>
if r1.1 = nI 0 then
(some ((-1), r1.2))
else
((ex d 155 0 [some (vr 7 0 0), some (vi (nI 0)), some (vi x2)] [] r1.2).bind fun r2 =>
(ex d 147 0 [some (vr 7 0 0), some (vi x1)] [] r2.2).bind fun r3 =>
some ((r2.1 &&& r3.1), r3.2))) := (ex_un d 171 300 0 [some (vr 7 0 0), some (vi x1), some (vi x2)] [] O).trans rfl
set_option maxRecDepth 100000 in
theorem sX7_isSame_0 (d : Nat) (O : Mem_) (x1 : Int32) (x2 : Int32) (x3 : Int32) : ex (d + 1) 172 0 [some (vr 7 0 0), some (vi x1), some (vi x2), some (vi x3)] [] O =
if ib ((x1 + ((nI 10) * x2)) + x3) 210 then
(if (O 7 0 28 (Int32.toNatClampNeg ((x1 + ((nI 10) * x2)) + x3))) = (oI none) then
(some ((nI 0), O))
else
(if ib (O 7 0 28 (Int32.toNatClampNeg ((x1 + ((nI 10) * x2)) + x3))) 12 then
((ex d 148 0 [some (vr 7 0 0), some (vi x3)] [] O).bind fun r0 =>
if (O 7 0 19 (Int32.toNatClampNeg (O 7 0 28 (Int32.toNatClampNeg ((x1 + ((nI 10) * x2)) + x3))))) = r0.1 then
(some ((nI 1), r0.2))
else
(some ((nI 0), r0.2)))
else none))
else none := (ex_un d 172 300 0 [some (vr 7 0 0), some (vi x1), some (vi x2), some (vi x3)] [] O).trans rfl
set_option maxRecDepth 100000 in
theorem sX7_same_0 (d : Nat) (O : Mem_) (x1 : Int32) (x2 : Int32) : ex (d + 1) 173 0 [some (vr 7 0 0), some (vi x1), some (vi x2)] [] O =
(ex d 144 0 [some (vr 7 0 0), some (vi x1)] [] O).bind fun r0 =>
if r0.1 = nI 0 then
(some ((-1), r0.2))
else
((ex d 143 0 [some (vr 7 0 0), some (vi x2)] [] r0.2).bind fun r1 =>
if r1.1 = nI 0 then
(some ((-1), r1.2))
else
((ex d 172 0 [some (vr 7 0 0), some (vi (nI 0)), some (vi x1), some (vi x2)] [] r1.2).bind fun r2 =>
(ex d 122 0 [some (vi r2.1)] [] r2.2).bind fun r3 =>
some (r3.1, r3.2))) := (ex_un d 173 300 0 [some (vr 7 0 0), some (vi x1), some (vi x2)] [] O).trans rfl
set_option maxRecDepth 100000 in
theorem sX7_fled_0 (d : Nat) (O : Mem_) (x1 : Int32) : ex (d + 1) 174 0 [some (vr 7 0 0), some (vi x1)] [] O =
(ex d 144 0 [some (vr 7 0 0), some (vi x1)] [] O).bind fun r0 =>
if r0.1 = nI 0 then
(some ((-1), r0.2))
else
(if ib (((nI 0) + ((nI 10) * x1)) + (nI 9)) 210 then
(some ((r0.2 7 0 28 (Int32.toNatClampNeg (((nI 0) + ((nI 10) * x1)) + (nI 9)))), r0.2))
else none) := (ex_un d 174 300 0 [some (vr 7 0 0), some (vi x1)] [] O).trans rfl
set_option maxRecDepth 100000 in
theorem sX7_against_0 (d : Nat) (O : Mem_) (x1 : Int32) (x2 : Int32) : ex (d + 1) 175 0 [some (vr 7 0 0), some (vi x1), some (vi x2)] [] O =
(ex d 144 0 [some (vr 7 0 0), some (vi x1)] [] O).bind fun r0 =>
if r0.1 = nI 0 then
(some ((-1), r0.2))
else
((ex d 143 0 [some (vr 7 0 0), some (vi x2)] [] r0.2).bind fun r1 =>
if r1.1 = nI 0 then
(some ((-1), r1.2))
else
(if ib ((((nI 0) + ((nI 10) * x1)) + (nI 4)) + x2) 210 then
(some ((r1.2 7 0 28 (Int32.toNatClampNeg ((((nI 0) + ((nI 10) * x1)) + (nI 4)) + x2))), r1.2))
else none)) := (ex_un d 175 300 0 [some (vr 7 0 0), some (vi x1), some (vi x2)] [] O).trans rfl
set_option maxRecDepth 100000 in
theorem sX7_isSameForAll_0 (d : Nat) (O : Mem_) (x1 : Int32) (x2 : Int32) (x3 : Int32) : ex (d + 1) 176 0 [some (vr 7 0 0), some (vi x1), some (vi x2), some (vi x3)] [] O =
ex (d + 1) 176 6 [some (vr 7 0 0), some (vi x1), some (vi x2), some (vi x3), some (vi (nI 1)), some (vi (nI 0))] [] O := (ex_un d 176 300 0 [some (vr 7 0 0), some (vi x1), some (vi x2), some (vi x3)] [] O).trans rfl
set_option maxRecDepth 100000 in
theorem sX7_isSameForAll_6 (d : Nat) (O : Mem_) (x1 : Int32) (x2 : Int32) (x3 : Int32) (x4 : Int32) (x5 : Int32) : ex (d + 1) 176 6 [some (vr 7 0 0), some (vi x1), some (vi x2), some (vi x3), some (vi x4), some (vi x5)] [] O =
if x5 < (O 7 0 0 7) then
(if x4 = nI 0 then
(ex (d + 1) 176 6 [some (vr 7 0 0), some (vi x1), some (vi x2), some (vi x3), some (vi (nI 0)), some (vi (x5 + (nI 1)))] [] O)
else
(if ((x2 >>> (x5 &&& (31:Int32))) &&& (nI 1)) = nI 0 then
(ex (d + 1) 176 6 [some (vr 7 0 0), some (vi x1), some (vi x2), some (vi x3), some (vi (nI 1)), some (vi (x5 + (nI 1)))] [] O)
else
((ex d 172 0 [some (vr 7 0 0), some (vi x1), some (vi x5), some (vi x3)] [] O).bind fun r0 =>
if r0.1 = nI 0 then
(ex (d + 1) 176 6 [some (vr 7 0 0), some (vi x1), some (vi x2), some (vi x3), some (vi (nI 0)), some (vi (x5 + (nI 1)))] [] r0.2)
else
(ex (d + 1) 176 6 [some (vr 7 0 0), some (vi x1), some (vi x2), some (vi x3), some (vi (nI 1)), some (vi (x5 + (nI 1)))] [] r0.2))))
else
(if x4 = nI 0 ∨ x4 = nI 1 then some (x4, O) else none) := (ex_un d 176 300 6 [some (vr 7 0 0), some (vi x1), some (vi x2), some (vi x3), some (vi x4), some (vi x5)] [] O).trans rfl
set_option maxRecDepth 100000 in
theorem sX7_common_0 (d : Nat) (O : Mem_) (x1 : Int32) : ex (d + 1) 177 0 [some (vr 7 0 0), some (vi x1)] [] O =
(ex d 145 0 [some (vr 7 0 0), some (vi x1)] [] O).bind fun r0 =>
if r0.1 = nI 0 then
(some ((-1), r0.2))
else
(ex (d + 1) 177 14 [some (vr 7 0 0), some (vi x1), some (vi (nI 0)), some (vi (nI 0))] [] r0.2) := (ex_un d 177 300 0 [some (vr 7 0 0), some (vi x1)] [] O).trans rfl
set_option maxRecDepth 100000 in
theorem sX7_common_14 (d : Nat) (O : Mem_) (x1 : Int32) (x2 : Int32) (x3 : Int32) : ex (d + 1) 177 14 [some (vr 7 0 0), some (vi x1), some (vi x2), some (vi x3)] [] O =
if x3 < (O 7 0 0 5) then
((ex d 176 0 [some (vr 7 0 0), some (vi (nI 0)), some (vi x1), some (vi x3)] [] O).bind fun r0 =>
if r0.1 = nI 0 then
(ex (d + 1) 177 14 [some (vr 7 0 0), some (vi x1), some (vi (x2 ||| (nI 0))), some (vi (x3 + (nI 1)))] [] r0.2)
else
(ex (d + 1) 177 14 [some (vr 7 0 0), some (vi x1), some (vi (x2 ||| ((nI 1) <<< (x3 &&& (31:Int32))))), some (vi (x3 + (nI 1)))] [] r0.2))
else
(some (x2, O)) := (ex_un d 177 300 14 [some (vr 7 0 0), some (vi x1), some (vi x2), some (vi x3)] [] O).trans rfl
set_option maxRecDepth 100000 in
theorem sX7_copies_0 (d : Nat) (O : Mem_) (x1 : Int32) (x2 : Int32) : ex (d + 1) 178 0 [some (vr 7 0 0), some (vi x1), some (vi x2)] [] O =
ex (d + 1) 178 2 [some (vr 7 0 0), some (vi x1), some (vi x2), some (vi (nI 0))] [] O := (ex_un d 178 300 0 [some (vr 7 0 0), some (vi x1), some (vi x2)] [] O).trans rfl
set_option maxRecDepth 100000 in
theorem sX7_copies_2 (d : Nat) (O : Mem_) (x1 : Int32) (x2 : Int32) (x3 : Int32) : ex (d + 1) 178 2 [some (vr 7 0 0), some (vi x1), some (vi x2), some (vi x3)] [] O =
if x3 < (nI 70) then
(if ib (x2 + x3) 210 then
(if ib (x1 + x3) 210 then
(ex (d + 1) 178 2 [some (vr 7 0 0), some (vi x1), some (vi x2), some (vi (x3 + (nI 1)))] [] (up O 7 0 28 (Int32.toNatClampNeg (x1 + x3)) (O 7 0 28 (Int32.toNatClampNeg (x2 + x3)))))
else none)
else none)
else
(some (nI 0, O)) := (ex_un d 178 300 2 [some (vr 7 0 0), some (vi x1), some (vi x2), some (vi x3)] [] O).trans rfl
set_option maxRecDepth 100000 in
theorem sX7_hasFled_0 (d : Nat) (O : Mem_) (x1 : Int32) (x2 : Int32) : ex (d + 1) 179 0 [some (vr 7 0 0), some (vi x1), some (vi x2)] [] O =
ex (d + 1) 179 5 [some (vr 7 0 0), some (vi x1), some (vi x2), some (vi (nI 0)), some (vi (nI 0))] [] O := (ex_un d 179 300 0 [some (vr 7 0 0), some (vi x1), some (vi x2)] [] O).trans rfl
set_option maxRecDepth 100000 in
theorem sX7_hasFled_5 (d : Nat) (O : Mem_) (x1 : Int32) (x2 : Int32) (x3 : Int32) (x4 : Int32) : ex (d + 1) 179 5 [some (vr 7 0 0), some (vi x1), some (vi x2), some (vi x3), some (vi x4)] [] O =
if x4 < (O 7 0 0 7) then
(if x3 = nI 0 then
(if ((x2 >>> (x4 &&& (31:Int32))) &&& (nI 1)) = (nI 1) then
(if ib ((x1 + ((nI 10) * x4)) + (nI 9)) 210 then
(if (O 7 0 28 (Int32.toNatClampNeg ((x1 + ((nI 10) * x4)) + (nI 9)))) = (oI none) then
(ex (d + 1) 179 5 [some (vr 7 0 0), some (vi x1), some (vi x2), some (vi (nI 0)), some (vi (x4 + (nI 1)))] [] O)
else
(ex (d + 1) 179 5 [some (vr 7 0 0), some (vi x1), some (vi x2), some (vi (nI 1)), some (vi (x4 + (nI 1)))] [] O))
else none)
else
(ex (d + 1) 179 5 [some (vr 7 0 0), some (vi x1), some (vi x2), some (vi (nI 0)), some (vi (x4 + (nI 1)))] [] O))
else
(ex (d + 1) 179 5 [some (vr 7 0 0), some (vi x1), some (vi x2), some (vi (nI 1)), some (vi (x4 + (nI 1)))] [] O))
else
(if x3 = nI 0 ∨ x3 = nI 1 then some (x3, O) else none) := (ex_un d 179 300 5 [some (vr 7 0 0), some (vi x1), some (vi x2), some (vi x3), some (vi x4)] [] O).trans rfl
set_option maxRecDepth 100000 in
theorem sX7_nextRow_0 (d : Nat) (O : Mem_) (x1 : Int32) : ex (d + 1) 180 0 [some (vr 7 0 0), some (vi x1)] [] O =
ex (d + 1) 180 4 [some (vr 7 0 0), none, some (vi (x1 - (nI 1)))] [] O := (ex_un d 180 300 0 [some (vr 7 0 0), some (vi x1)] [] O).trans rfl
set_option maxRecDepth 100000 in
theorem sX7_nextRow_4 (d : Nat) (O : Mem_) (x2 : Int32) : ex (d + 1) 180 4 [some (vr 7 0 0), none, some (vi x2)] [] O =
if x2 < nI 0 then
(ex (d + 1) 180 36 [some (vr 7 0 0), none, some (vi x2)] [] O)
else
(if ib x2 5 then
(if (O 7 0 31 (Int32.toNatClampNeg x2)) = ((O 7 0 0 0) - (nI 1)) then
(if ib x2 5 then
(ex (d + 1) 180 4 [some (vr 7 0 0), none, some (vi (x2 + (-1)))] [] (up O 7 0 31 (Int32.toNatClampNeg x2) (nI 0)))
else none)
else
(ex (d + 1) 180 36 [some (vr 7 0 0), none, some (vi x2)] [] O))
else none) := (ex_un d 180 300 4 [some (vr 7 0 0), none, some (vi x2)] [] O).trans rfl
set_option maxRecDepth 100000 in
theorem sX7_nextRow_36 (d : Nat) (O : Mem_) (x2 : Int32) : ex (d + 1) 180 36 [some (vr 7 0 0), none, some (vi x2)] [] O =
if x2 < nI 0 then
(if x2 < nI 0 then
(some ((nI 0), O))
else
(some ((nI 1), O)))
else
(if ib x2 5 then
(if ib x2 5 then
(if x2 < nI 0 then
(some ((nI 0), (up O 7 0 31 (Int32.toNatClampNeg x2) ((O 7 0 31 (Int32.toNatClampNeg x2)) + (nI 1)))))
else
(some ((nI 1), (up O 7 0 31 (Int32.toNatClampNeg x2) ((O 7 0 31 (Int32.toNatClampNeg x2)) + (nI 1))))))
else none)
else none) := (ex_un d 180 300 36 [some (vr 7 0 0), none, some (vi x2)] [] O).trans rfl
set_option maxRecDepth 100000 in
theorem sX7_teaches_0 (d : Nat) (O : Mem_) (x1 : Int32) (x2 : Int32) (x3 : Int32) : ex (d + 1) 181 0 [some (vr 7 0 0), some (vi x1), some (vi x2), some (vi x3)] [] O =
(ex d 178 0 [some (vr 7 0 0), some (vi (nI 70)), some (vi (nI 140))] [] O).bind fun r0 =>
ex (d + 1) 181 12 [some (vr 7 0 0), some (vi x1), some (vi x2), some (vi x3), some (vi (nI 0))] [] r0.2 := (ex_un d 181 300 0 [some (vr 7 0 0), some (vi x1), some (vi x2), some (vi x3)] [] O).trans rfl
set_option maxRecDepth 100000 in
theorem sX7_teaches_12 (d : Nat) (O : Mem_) (x1 : Int32) (x2 : Int32) (x3 : Int32) (x4 : Int32) : ex (d + 1) 181 12 [some (vr 7 0 0), some (vi x1), some (vi x2), some (vi x3), some (vi x4)] [] O =
if x4 < x3 then
(if ib x4 5 then
(if ib x4 5 then
((ex d 164 0 [some (vr 7 0 0), some (vi x2), some (vi (O 7 0 31 (Int32.toNatClampNeg x4)))] [] O).bind fun r0 =>
(ex d 161 0 [some (vr 7 0 0), some (vi (nI 70)), some (vi (nI 0)), some (vi x2), some (vi (O 7 0 31 (Int32.toNatClampNeg x4))), some (vi r0.1)] [] r0.2).bind fun r1 =>
ex (d + 1) 181 12 [some (vr 7 0 0), some (vi x1), some (vi x2), some (vi x3), some (vi (x4 + (nI 1)))] [] r1.2)
else none)
else none)
else
((ex d 179 0 [some (vr 7 0 0), some (vi (nI 70)), some (vi x1)] [] O).bind fun r2 =>
if r2.1 = nI 0 then
((ex d 176 0 [some (vr 7 0 0), some (vi (nI 70)), some (vi x1), some (vi x2)] [] r2.2).bind fun r3 =>
if r3.1 = nI 0 then
(some ((nI 0), r3.2))
else
(some ((nI 1), r3.2)))
else
(some ((nI 0), r2.2))) := (ex_un d 181 300 12 [some (vr 7 0 0), some (vi x1), some (vi x2), some (vi x3), some (vi x4)] [] O).trans rfl
set_option maxRecDepth 100000 in
theorem sX7_fewest_0 (d : Nat) (O : Mem_) (x1 : Int32) (x2 : Int32) (x3 : Int32) : ex (d + 1) 182 0 [some (vr 7 0 0), some (vi x1), some (vi x2), some (vi x3)] [] O =
ex (d + 1) 182 3 [some (vr 7 0 0), some (vi x1), some (vi x2), some (vi x3), some (vi (nI 0))] [] O := (ex_un d 182 300 0 [some (vr 7 0 0), some (vi x1), some (vi x2), some (vi x3)] [] O).trans rfl
set_option maxRecDepth 100000 in
theorem sX7_fewest_3 (d : Nat) (O : Mem_) (x1 : Int32) (x2 : Int32) (x3 : Int32) (x4 : Int32) : ex (d + 1) 182 3 [some (vr 7 0 0), some (vi x1), some (vi x2), some (vi x3), some (vi x4)] [] O =
if x3 < x4 then
(some ((oI none), O))
else
(ex (d + 1) 182 12 [some (vr 7 0 0), some (vi x1), some (vi x2), some (vi x3), some (vi x4), some (vi (nI 0))] [] O) := (ex_un d 182 300 3 [some (vr 7 0 0), some (vi x1), some (vi x2), some (vi x3), some (vi x4)] [] O).trans rfl
set_option maxRecDepth 100000 in
theorem sX7_fewest_12 (d : Nat) (O : Mem_) (x1 : Int32) (x2 : Int32) (x3 : Int32) (x4 : Int32) (x5 : Int32) : ex (d + 1) 182 12 [some (vr 7 0 0), some (vi x1), some (vi x2), some (vi x3), some (vi x4), some (vi x5)] [] O =
if x5 < (nI 5) then
(if ib x5 5 then
(ex (d + 1) 182 12 [some (vr 7 0 0), some (vi x1), some (vi x2), some (vi x3), some (vi x4), some (vi (x5 + (nI 1)))] [] (up O 7 0 31 (Int32.toNatClampNeg x5) (nI 0)))
else none)
else
(if x4 = nI 0 then
(ex (d + 1) 182 51 [some (vr 7 0 0), some (vi x1), some (vi x2), some (vi x3), some (vi x4), some (vi (nI 1))] [] O)
else
(if nI 0 < (O 7 0 0 0) then
(ex (d + 1) 182 51 [some (vr 7 0 0), some (vi x1), some (vi x2), some (vi x3), some (vi x4), some (vi (nI 1))] [] O)
else
(ex (d + 1) 182 51 [some (vr 7 0 0), some (vi x1), some (vi x2), some (vi x3), some (vi x4), some (vi (nI 0))] [] O))) := (ex_un d 182 300 12 [some (vr 7 0 0), some (vi x1), some (vi x2), some (vi x3), some (vi x4), some (vi x5)] [] O).trans rfl
set_option maxRecDepth 100000 in
theorem sX7_fewest_51 (d : Nat) (O : Mem_) (x1 : Int32) (x2 : Int32) (x3 : Int32) (x4 : Int32) (x5 : Int32) : ex (d + 1) 182 51 [some (vr 7 0 0), some (vi x1), some (vi x2), some (vi x3), some (vi x4), some (vi x5)] [] O =
if x5 = nI 0 then
(ex (d + 1) 182 3 [some (vr 7 0 0), some (vi x1), some (vi x2), some (vi x3), some (vi (x4 + (nI 1)))] [] O)
else
((ex d 181 0 [some (vr 7 0 0), some (vi x1), some (vi x2), some (vi x4)] [] O).bind fun r0 =>
if r0.1 = nI 0 then
((ex d 180 0 [some (vr 7 0 0), some (vi x4)] [] r0.2).bind fun r1 =>
ex (d + 1) 182 51 [some (vr 7 0 0), some (vi x1), some (vi x2), some (vi x3), some (vi x4), some (vi r1.1)] [] r1.2)
else
(some (x4, r0.2))) := (ex_un d 182 300 51 [some (vr 7 0 0), some (vi x1), some (vi x2), some (vi x3), some (vi x4), some (vi x5)] [] O).trans rfl
set_option maxRecDepth 100000 in
theorem sX7_teaching_0 (d : Nat) (O : Mem_) (x1 : Int32) (x2 : Int32) (x3 : Int32) : ex (d + 1) 183 0 [some (vr 7 0 0), some (vi x1), some (vi x2), some (vi x3)] [] O =
(ex d 145 0 [some (vr 7 0 0), some (vi x1)] [] O).bind fun r0 =>
if r0.1 = nI 0 then
(some ((-1), r0.2))
else
((ex d 143 0 [some (vr 7 0 0), some (vi x2)] [] r0.2).bind fun r1 =>
if r1.1 = nI 0 then
(some ((-1), r1.2))
else
(if x3 = nI 0 then
(ex (d + 1) 183 36 [some (vr 7 0 0), some (vi x1), some (vi x2), some (vi x3)] [] r1.2)
else
((ex d 121 0 [some (vl (Int32.toInt64 x3)), none, some (vl (10)), none, some (vl (14)), none] [] r1.2).bind fun r2 =>
if r2.1 = nI 0 then
(some ((-1), r2.2))
else
(ex (d + 1) 183 36 [some (vr 7 0 0), some (vi x1), some (vi x2), some (vi x3)] [] r2.2)))) := (ex_un d 183 300 0 [some (vr 7 0 0), some (vi x1), some (vi x2), some (vi x3)] [] O).trans rfl
set_option maxRecDepth 100000 in
theorem sX7_teaching_36 (d : Nat) (O : Mem_) (x1 : Int32) (x2 : Int32) (x3 : Int32) : ex (d + 1) 183 36 [some (vr 7 0 0), some (vi x1), some (vi x2), some (vi x3)] [] O =
(ex d 178 0 [some (vr 7 0 0), some (vi (nI 140)), some (vi (nI 0))] [] O).bind fun r0 =>
(ex d 182 0 [some (vr 7 0 0), some (vi x1), some (vi x2), some (vi (nI 5))] [] r0.2).bind fun r1 =>
if x3 = nI 0 then
(some (r1.1, r1.2))
else
(if (x3 - (nI 10)) < r1.1 then
(if ib (x3 - (nI 10)) 5 then
(some ((r1.2 7 0 31 (Int32.toNatClampNeg (x3 - (nI 10)))), r1.2))
else none)
else
(some ((-1), r1.2))) := (ex_un d 183 300 36 [some (vr 7 0 0), some (vi x1), some (vi x2), some (vi x3)] [] O).trans rfl
set_option maxRecDepth 100000 in
theorem sX7_never_0 (d : Nat) (O : Mem_) (x1 : Int32) (x2 : Int32) : ex (d + 1) 184 0 [some (vr 7 0 0), some (vi x1), some (vi x2)] [] O =
(ex d 144 0 [some (vr 7 0 0), some (vi x1)] [] O).bind fun r0 =>
if r0.1 = nI 0 then
(some ((-1), r0.2))
else
((ex d 143 0 [some (vr 7 0 0), some (vi x2)] [] r0.2).bind fun r1 =>
if r1.1 = nI 0 then
(some ((-1), r1.2))
else
(ex (d + 1) 184 23 [some (vr 7 0 0), some (vi x1), some (vi x2), some (vi (nI 1)), some (vi (nI 0))] [] r1.2)) := (ex_un d 184 300 0 [some (vr 7 0 0), some (vi x1), some (vi x2)] [] O).trans rfl
set_option maxRecDepth 100000 in
theorem sX7_never_23 (d : Nat) (O : Mem_) (x1 : Int32) (x2 : Int32) (x3 : Int32) (x4 : Int32) : ex (d + 1) 184 23 [some (vr 7 0 0), some (vi x1), some (vi x2), some (vi x3), some (vi x4)] [] O =
if x4 < (O 7 0 0 2) then
(if x3 = nI 0 then
(ex (d + 1) 184 23 [some (vr 7 0 0), some (vi x1), some (vi x2), some (vi (nI 0)), some (vi (x4 + (nI 1)))] [] O)
else
((ex d 147 0 [some (vr 7 0 0), some (vi x1)] [] O).bind fun r0 =>
if ((r0.1 >>> (x4 &&& (31:Int32))) &&& (nI 1)) = (nI 1) then
(if ib x4 12 then
((ex d 148 0 [some (vr 7 0 0), some (vi x2)] [] r0.2).bind fun r1 =>
if (r0.2 7 0 19 (Int32.toNatClampNeg x4)) = r1.1 then
(ex (d + 1) 184 23 [some (vr 7 0 0), some (vi x1), some (vi x2), some (vi (nI 0)), some (vi (x4 + (nI 1)))] [] r1.2)
else
(ex (d + 1) 184 23 [some (vr 7 0 0), some (vi x1), some (vi x2), some (vi (nI 1)), some (vi (x4 + (nI 1)))] [] r1.2))
else none)
else
(ex (d + 1) 184 23 [some (vr 7 0 0), some (vi x1), some (vi x2), some (vi (nI 1)), some (vi (x4 + (nI 1)))] [] r0.2)))
else
((ex d 122 0 [some (vi x3)] [] O).bind fun r2 =>
some (r2.1, r2.2)) := (ex_un d 184 300 23 [some (vr 7 0 0), some (vi x1), some (vi x2), some (vi x3), some (vi x4)] [] O).trans rfl
set_option maxRecDepth 100000 in
theorem sX7_taken_0 (d : Nat) (O : Mem_) (x1 : Int32) : ex (d + 1) 185 0 [some (vr 7 0 0), some (vi x1)] [] O =
(ex d 153 0 [some (vr 7 0 0), some (vi (nI 140))] [] O).bind fun r0 =>
ex (d + 1) 185 11 [some (vr 7 0 0), some (vi x1), some (vi (nI 0)), some (vi (nI 0))] [] r0.2 := (ex_un d 185 300 0 [some (vr 7 0 0), some (vi x1)] [] O).trans rfl
set_option maxRecDepth 100000 in
theorem sX7_taken_11 (d : Nat) (O : Mem_) (x1 : Int32) (x2 : Int32) (x3 : Int32) : ex (d + 1) 185 11 [some (vr 7 0 0), some (vi x1), some (vi x2), some (vi x3)] [] O =
if x3 < (O 7 0 0 5) then
(if ib x3 4 then
((ex d 182 0 [some (vr 7 0 0), some (vi x1), some (vi (O 7 0 32 (Int32.toNatClampNeg x3))), some (vi (nI 3))] [] O).bind fun r0 =>
if r0.1 = (oI none) then
(some ((oI none), r0.2))
else
((ex d 178 0 [some (vr 7 0 0), some (vi (nI 140)), some (vi (nI 70))] [] r0.2).bind fun r1 =>
ex (d + 1) 185 11 [some (vr 7 0 0), some (vi x1), some (vi (x2 + r0.1)), some (vi (x3 + (nI 1)))] [] r1.2))
else none)
else
(some (x2, O)) := (ex_un d 185 300 11 [some (vr 7 0 0), some (vi x1), some (vi x2), some (vi x3)] [] O).trans rfl
set_option maxRecDepth 100000 in
theorem sX7_areUnlike_0 (d : Nat) (O : Mem_)  : ex (d + 1) 186 0 [some (vr 7 0 0)] [] O =
ex (d + 1) 186 4 [some (vr 7 0 0), some (vi (nI 0)), some (vi (nI 0))] [] O := (ex_un d 186 300 0 [some (vr 7 0 0)] [] O).trans rfl
set_option maxRecDepth 100000 in
theorem sX7_areUnlike_4 (d : Nat) (O : Mem_) (x1 : Int32) (x2 : Int32) : ex (d + 1) 186 4 [some (vr 7 0 0), some (vi x1), some (vi x2)] [] O =
if x2 < (O 7 0 0 5) then
(if ib x2 4 then
(ex (d + 1) 186 4 [some (vr 7 0 0), some (vi (x1 ||| ((nI 1) <<< ((O 7 0 32 (Int32.toNatClampNeg x2)) &&& (31:Int32))))), some (vi (x2 + (nI 1)))] [] O)
else none)
else
((ex d 123 0 [some (vi x1)] [] O).bind fun r0 =>
if r0.1 = (r0.2 7 0 0 5) then
(some ((nI 1), r0.2))
else
(some ((nI 0), r0.2))) := (ex_un d 186 300 4 [some (vr 7 0 0), some (vi x1), some (vi x2)] [] O).trans rfl
set_option maxRecDepth 100000 in
theorem sX7_order_0 (d : Nat) (O : Mem_) (x1 : Int32) (x2 : Int32) : ex (d + 1) 187 0 [some (vr 7 0 0), some (vi x1), some (vi x2)] [] O =
(ex d 145 0 [some (vr 7 0 0), some (vi x1)] [] O).bind fun r0 =>
if r0.1 = nI 0 then
(some ((-1), r0.2))
else
(if x2 = nI 0 then
(ex (d + 1) 187 38 [some (vr 7 0 0), some (vi x1), some (vi x2), some (vi (nI 1)), some (vi (nI 0))] [] r0.2)
else
((ex d 121 0 [some (vl (Int32.toInt64 x2)), none, some (vl (10)), none, some (vl (Int32.toInt64 ((nI 9) + (r0.2 7 0 0 5)))), none] [] r0.2).bind fun r1 =>
if r1.1 = nI 0 then
(some ((-1), r1.2))
else
(ex (d + 1) 187 38 [some (vr 7 0 0), some (vi x1), some (vi x2), some (vi (nI 1)), some (vi (nI 0))] [] r1.2))) := (ex_un d 187 300 0 [some (vr 7 0 0), some (vi x1), some (vi x2)] [] O).trans rfl
set_option maxRecDepth 100000 in
theorem sX7_order_38 (d : Nat) (O : Mem_) (x1 : Int32) (x2 : Int32) (x3 : Int32) (x4 : Int32) : ex (d + 1) 187 38 [some (vr 7 0 0), some (vi x1), some (vi x2), some (vi x3), some (vi x4)] [] O =
if x4 < (O 7 0 0 5) then
(ex (d + 1) 187 38 [some (vr 7 0 0), some (vi x1), some (vi x2), some (vi (x3 * (O 7 0 0 5))), some (vi (x4 + (nI 1)))] [] O)
else
(ex (d + 1) 187 67 [some (vr 7 0 0), some (vi x1), some (vi x2), some (vi x3), some (vi (oI none)), some (vi (nI 0))] [] O) := (ex_un d 187 300 38 [some (vr 7 0 0), some (vi x1), some (vi x2), some (vi x3), some (vi x4)] [] O).trans rfl
set_option maxRecDepth 100000 in
theorem sX7_order_67 (d : Nat) (O : Mem_) (x1 : Int32) (x2 : Int32) (x3 : Int32) (x4 : Int32) (x5 : Int32) : ex (d + 1) 187 67 [some (vr 7 0 0), some (vi x1), some (vi x2), some (vi x3), some (vi x4), some (vi x5)] [] O =
if x5 < x3 then
(ex (d + 1) 187 85 [some (vr 7 0 0), some (vi x1), some (vi x2), some (vi x3), some (vi x4), some (vi x5), some (vi x5), some (vi ((O 7 0 0 5) - (nI 1)))] [] O)
else
(if x2 = nI 0 then
(some (x4, O))
else
(if x4 = (oI none) then
(some (x4, O))
else
(if ib (x2 - (nI 10)) 4 then
(some ((O 7 0 33 (Int32.toNatClampNeg (x2 - (nI 10)))), O))
else none))) := (ex_un d 187 300 67 [some (vr 7 0 0), some (vi x1), some (vi x2), some (vi x3), some (vi x4), some (vi x5)] [] O).trans rfl
set_option maxRecDepth 100000 in
theorem sX7_order_85 (d : Nat) (O : Mem_) (x1 : Int32) (x2 : Int32) (x3 : Int32) (x4 : Int32) (x5 : Int32) (x6 : Int32) (x7 : Int32) : ex (d + 1) 187 85 [some (vr 7 0 0), some (vi x1), some (vi x2), some (vi x3), some (vi x4), some (vi x5), some (vi x6), some (vi x7)] [] O =
if x7 < nI 0 then
((ex d 186 0 [some (vr 7 0 0)] [] O).bind fun r0 =>
if r0.1 = nI 0 then
(ex (d + 1) 187 136 [some (vr 7 0 0), some (vi x1), some (vi x2), some (vi x3), some (vi x4), some (vi x5)] [vi (oI none)] r0.2)
else
((ex d 185 0 [some (vr 7 0 0), some (vi x1)] [] r0.2).bind fun r1 =>
ex (d + 1) 187 136 [some (vr 7 0 0), some (vi x1), some (vi x2), some (vi x3), some (vi x4), some (vi x5)] [vi r1.1] r1.2))
else
(if (O 7 0 0 5) = nI 0 then none else if ib x7 4 then
(if ((up O 7 0 32 (Int32.toNatClampNeg x7) (x6 - x6 / (O 7 0 0 5) * (O 7 0 0 5))) 7 0 0 5) = nI 0 then none else ex (d + 1) 187 85 [some (vr 7 0 0), some (vi x1), some (vi x2), some (vi x3), some (vi x4), some (vi x5), some (vi (x6 / ((up O 7 0 32 (Int32.toNatClampNeg x7) (x6 - x6 / (O 7 0 0 5) * (O 7 0 0 5))) 7 0 0 5))), some (vi (x7 + (-1)))] [] (up O 7 0 32 (Int32.toNatClampNeg x7) (x6 - x6 / (O 7 0 0 5) * (O 7 0 0 5))))
else none) := (ex_un d 187 300 85 [some (vr 7 0 0), some (vi x1), some (vi x2), some (vi x3), some (vi x4), some (vi x5), some (vi x6), some (vi x7)] [] O).trans rfl
set_option maxRecDepth 100000 in
theorem sX7_order_136 (d : Nat) (O : Mem_) (x1 : Int32) (x2 : Int32) (x3 : Int32) (x4 : Int32) (x5 : Int32) (y0 : Int32) : ex (d + 1) 187 136 [some (vr 7 0 0), some (vi x1), some (vi x2), some (vi x3), some (vi x4), some (vi x5)] [vi y0] O =
if y0 = (oI none) then
(ex (d + 1) 187 67 [some (vr 7 0 0), some (vi x1), some (vi x2), some (vi x3), some (vi x4), some (vi (x5 + (nI 1)))] [] O)
else
(if x4 = (oI none) then
(ex (d + 1) 187 166 [some (vr 7 0 0), some (vi x1), some (vi x2), some (vi x3), some (vi y0), some (vi x5), none, none, some (vi (nI 0))] [] O)
else
(if y0 < x4 then
(ex (d + 1) 187 166 [some (vr 7 0 0), some (vi x1), some (vi x2), some (vi x3), some (vi y0), some (vi x5), none, none, some (vi (nI 0))] [] O)
else
(ex (d + 1) 187 67 [some (vr 7 0 0), some (vi x1), some (vi x2), some (vi x3), some (vi x4), some (vi (x5 + (nI 1)))] [] O))) := (ex_un d 187 300 136 [some (vr 7 0 0), some (vi x1), some (vi x2), some (vi x3), some (vi x4), some (vi x5)] [vi y0] O).trans rfl
set_option maxRecDepth 100000 in
theorem sX7_order_166 (d : Nat) (O : Mem_) (x1 : Int32) (x2 : Int32) (x3 : Int32) (x4 : Int32) (x5 : Int32) (x8 : Int32) : ex (d + 1) 187 166 [some (vr 7 0 0), some (vi x1), some (vi x2), some (vi x3), some (vi x4), some (vi x5), none, none, some (vi x8)] [] O =
if x8 < (O 7 0 0 5) then
(if ib x8 4 then
(if ib x8 4 then
(ex (d + 1) 187 166 [some (vr 7 0 0), some (vi x1), some (vi x2), some (vi x3), some (vi x4), some (vi x5), none, none, some (vi (x8 + (nI 1)))] [] (up O 7 0 33 (Int32.toNatClampNeg x8) (O 7 0 32 (Int32.toNatClampNeg x8))))
else none)
else none)
else
(ex (d + 1) 187 67 [some (vr 7 0 0), some (vi x1), some (vi x2), some (vi x3), some (vi x4), some (vi (x5 + (nI 1)))] [] O) := (ex_un d 187 300 166 [some (vr 7 0 0), some (vi x1), some (vi x2), some (vi x3), some (vi x4), some (vi x5), none, none, some (vi x8)] [] O).trans rfl
set_option maxRecDepth 100000 in
theorem sX7_chanceOf_0 (d : Nat) (O : Mem_) (x1 : Int32) : ex (d + 1) 188 0 [some (vr 7 0 0), some (vi x1)] [] O =
ex (d + 1) 188 4 [some (vr 7 0 0), some (vi x1), some (vi (nI 0)), some (vi (nI 0))] [] O := (ex_un d 188 300 0 [some (vr 7 0 0), some (vi x1)] [] O).trans rfl
set_option maxRecDepth 100000 in
theorem sX7_chanceOf_4 (d : Nat) (O : Mem_) (x1 : Int32) (x2 : Int32) (x3 : Int32) : ex (d + 1) 188 4 [some (vr 7 0 0), some (vi x1), some (vi x2), some (vi x3)] [] O =
if x3 < (O 7 0 0 7) then
(if ((x1 >>> (x3 &&& (31:Int32))) &&& (nI 1)) = (nI 1) then
(if ib (((nI 5) * x3) + (nI 4)) 30 then
(ex (d + 1) 188 4 [some (vr 7 0 0), some (vi x1), some (vi (x2 + (O 7 0 9 (Int32.toNatClampNeg (((nI 5) * x3) + (nI 4)))))), some (vi (x3 + (nI 1)))] [] O)
else none)
else
(ex (d + 1) 188 4 [some (vr 7 0 0), some (vi x1), some (vi (x2 + (nI 0))), some (vi (x3 + (nI 1)))] [] O))
else
(some (x2, O)) := (ex_un d 188 300 4 [some (vr 7 0 0), some (vi x1), some (vi x2), some (vi x3)] [] O).trans rfl
set_option maxRecDepth 100000 in
theorem sX7_allChances_0 (d : Nat) (O : Mem_)  : ex (d + 1) 189 0 [some (vr 7 0 0)] [] O =
(ex d 188 0 [some (vr 7 0 0), some (vi (((nI 1) <<< ((O 7 0 0 7) &&& (31:Int32))) - (nI 1)))] [] O).bind fun r0 =>
some (r0.1, r0.2) := (ex_un d 189 300 0 [some (vr 7 0 0)] [] O).trans rfl
set_option maxRecDepth 100000 in
theorem sX7_feared_0 (d : Nat) (O : Mem_) (x1 : Int32) : ex (d + 1) 190 0 [some (vr 7 0 0), some (vi x1)] [] O =
ex (d + 1) 190 4 [some (vr 7 0 0), some (vi x1), some (vi (nI 0)), some (vi (nI 0))] [] O := (ex_un d 190 300 0 [some (vr 7 0 0), some (vi x1)] [] O).trans rfl
set_option maxRecDepth 100000 in
theorem sX7_feared_4 (d : Nat) (O : Mem_) (x1 : Int32) (x2 : Int32) (x3 : Int32) : ex (d + 1) 190 4 [some (vr 7 0 0), some (vi x1), some (vi x2), some (vi x3)] [] O =
if x3 < (O 7 0 0 7) then
(if ib (((nI 5) * x3) + (nI 2)) 30 then
(if (O 7 0 9 (Int32.toNatClampNeg (((nI 5) * x3) + (nI 2)))) = (oI none) then
(ex (d + 1) 190 4 [some (vr 7 0 0), some (vi x1), some (vi (x2 ||| (nI 0))), some (vi (x3 + (nI 1)))] [] O)
else
(if x1 = nI 0 then
(ex (d + 1) 190 4 [some (vr 7 0 0), some (vi x1), some (vi (x2 ||| ((nI 1) <<< ((O 7 0 9 (Int32.toNatClampNeg (((nI 5) * x3) + (nI 2)))) &&& (31:Int32))))), some (vi (x3 + (nI 1)))] [] O)
else
(if ib (((nI 5) * x3) + (nI 4)) 30 then
(if nI 0 < (O 7 0 9 (Int32.toNatClampNeg (((nI 5) * x3) + (nI 4)))) then
(ex (d + 1) 190 4 [some (vr 7 0 0), some (vi x1), some (vi (x2 ||| ((nI 1) <<< ((O 7 0 9 (Int32.toNatClampNeg (((nI 5) * x3) + (nI 2)))) &&& (31:Int32))))), some (vi (x3 + (nI 1)))] [] O)
else
(ex (d + 1) 190 4 [some (vr 7 0 0), some (vi x1), some (vi (x2 ||| (nI 0))), some (vi (x3 + (nI 1)))] [] O))
else none)))
else none)
else
(some (x2, O)) := (ex_un d 190 300 4 [some (vr 7 0 0), some (vi x1), some (vi x2), some (vi x3)] [] O).trans rfl
set_option maxRecDepth 100000 in
theorem sX7_lowest_0 (d : Nat) (O : Mem_) (x0 : Int32) (x1 : Int32) (x2 : Int32) : ex (d + 1) 191 0 [some (vi x0), some (vi x1), some (vi x2)] [] O =
ex (d + 1) 191 5 [some (vi x0), some (vi x1), some (vi x2), some (vi x1), some (vi x0)] [] O := (ex_un d 191 300 0 [some (vi x0), some (vi x1), some (vi x2)] [] O).trans rfl
set_option maxRecDepth 100000 in
theorem sX7_lowest_5 (d : Nat) (O : Mem_) (x0 : Int32) (x1 : Int32) (x2 : Int32) (x3 : Int32) (x4 : Int32) : ex (d + 1) 191 5 [some (vi x0), some (vi x1), some (vi x2), some (vi x3), some (vi x4)] [] O =
if x4 = nI 0 then
(if x2 = nI 0 then
(if x3 = nI 0 then none else some ((x0 / x3), O))
else
(if x3 = nI 0 then none else some ((x1 / x3), O)))
else
(if x4 = nI 0 then none else ex (d + 1) 191 5 [some (vi x0), some (vi x1), some (vi x2), some (vi x4), some (vi (x3 - x3 / x4 * x4))] [] O) := (ex_un d 191 300 5 [some (vi x0), some (vi x1), some (vi x2), some (vi x3), some (vi x4)] [] O).trans rfl
set_option maxRecDepth 100000 in
theorem sX7_first_0 (d : Nat) (O : Mem_) (x1 : Int32) (x2 : Int32) : ex (d + 1) 192 0 [some (vr 7 0 0), some (vi x1), some (vi x2)] [] O =
(ex d 143 0 [some (vr 7 0 0), some (vi x1)] [] O).bind fun r0 =>
if r0.1 = nI 0 then
(some ((-1), r0.2))
else
((ex d 121 0 [some (vl (Int32.toInt64 x2)), none, some (vl 0), none, some (vl (2)), none] [] r0.2).bind fun r1 =>
if r1.1 = nI 0 then
(some ((-1), r1.2))
else
(ex (d + 1) 192 31 [some (vr 7 0 0), some (vi x1), some (vi x2), some (vi (oI none)), some (vi (nI 0)), some (vi (nI 0))] [] r1.2)) := (ex_un d 192 300 0 [some (vr 7 0 0), some (vi x1), some (vi x2)] [] O).trans rfl
set_option maxRecDepth 100000 in
theorem sX7_first_31 (d : Nat) (O : Mem_) (x1 : Int32) (x2 : Int32) (x3 : Int32) (x4 : Int32) (x5 : Int32) : ex (d + 1) 192 31 [some (vr 7 0 0), some (vi x1), some (vi x2), some (vi x3), some (vi x4), some (vi x5)] [] O =
if x5 < (O 7 0 0 0) then
((ex d 189 0 [some (vr 7 0 0)] [] O).bind fun r0 =>
if nI 0 < r0.1 then
((ex d 190 0 [some (vr 7 0 0), some (vi (nI 1))] [] r0.2).bind fun r1 =>
if ((r1.1 >>> (x5 &&& (31:Int32))) &&& (nI 1)) = nI 0 then
((ex d 153 0 [some (vr 7 0 0), some (vi (nI 70))] [] r1.2).bind fun r2 =>
(ex d 164 0 [some (vr 7 0 0), some (vi x1), some (vi x5)] [] r2.2).bind fun r3 =>
(ex d 161 0 [some (vr 7 0 0), some (vi (nI 70)), some (vi (nI 0)), some (vi x1), some (vi x5), some (vi r3.1)] [] r3.2).bind fun r4 =>
ex (d + 1) 192 89 [some (vr 7 0 0), some (vi x1), some (vi x2), some (vi x3), some (vi x4), some (vi x5), some (vi (nI 0)), some (vi (nI 0))] [] r4.2)
else
(ex (d + 1) 192 31 [some (vr 7 0 0), some (vi x1), some (vi x2), some (vi x3), some (vi x4), some (vi (x5 + (nI 1)))] [] r1.2))
else
(ex (d + 1) 192 188 [some (vr 7 0 0), none, some (vi x2), some (vi x3), some (vi x4)] [] r0.2))
else
(ex (d + 1) 192 188 [some (vr 7 0 0), none, some (vi x2), some (vi x3), some (vi x4)] [] O) := (ex_un d 192 300 31 [some (vr 7 0 0), some (vi x1), some (vi x2), some (vi x3), some (vi x4), some (vi x5)] [] O).trans rfl
set_option maxRecDepth 100000 in
theorem sX7_first_89 (d : Nat) (O : Mem_) (x1 : Int32) (x2 : Int32) (x3 : Int32) (x4 : Int32) (x5 : Int32) (x6 : Int32) (x7 : Int32) : ex (d + 1) 192 89 [some (vr 7 0 0), some (vi x1), some (vi x2), some (vi x3), some (vi x4), some (vi x5), some (vi x6), some (vi x7)] [] O =
if x7 < (O 7 0 0 7) then
((ex d 172 0 [some (vr 7 0 0), some (vi (nI 70)), some (vi x7), some (vi x1)] [] O).bind fun r0 =>
if r0.1 = nI 0 then
(ex (d + 1) 192 89 [some (vr 7 0 0), some (vi x1), some (vi x2), some (vi x3), some (vi x4), some (vi x5), some (vi (x6 + (nI 0))), some (vi (x7 + (nI 1)))] [] r0.2)
else
(if ib (((nI 5) * x7) + (nI 4)) 30 then
(ex (d + 1) 192 89 [some (vr 7 0 0), some (vi x1), some (vi x2), some (vi x3), some (vi x4), some (vi x5), some (vi (x6 + (r0.2 7 0 9 (Int32.toNatClampNeg (((nI 5) * x7) + (nI 4)))))), some (vi (x7 + (nI 1)))] [] r0.2)
else none))
else
(if x3 = (oI none) then
(ex (d + 1) 192 149 [some (vr 7 0 0), some (vi x1), some (vi x2), some (vi x3), some (vi x4), some (vi x5), some (vi x6)] [] O)
else
(if x4 < x6 then
(ex (d + 1) 192 149 [some (vr 7 0 0), some (vi x1), some (vi x2), some (vi x3), some (vi x4), some (vi x5), some (vi x6)] [] O)
else
(if (nI 0) = nI 0 then
(ex (d + 1) 192 167 [some (vr 7 0 0), some (vi x1), some (vi x2), none, some (vi x4), some (vi x5), some (vi x6), some (vi (nI 0))] [vi x3] O)
else
(ex (d + 1) 192 167 [some (vr 7 0 0), some (vi x1), some (vi x2), none, some (vi x4), some (vi x5), some (vi x6), some (vi (nI 0))] [vi x5] O)))) := (ex_un d 192 300 89 [some (vr 7 0 0), some (vi x1), some (vi x2), some (vi x3), some (vi x4), some (vi x5), some (vi x6), some (vi x7)] [] O).trans rfl
set_option maxRecDepth 100000 in
theorem sX7_first_149 (d : Nat) (O : Mem_) (x1 : Int32) (x2 : Int32) (x3 : Int32) (x4 : Int32) (x5 : Int32) (x6 : Int32) : ex (d + 1) 192 149 [some (vr 7 0 0), some (vi x1), some (vi x2), some (vi x3), some (vi x4), some (vi x5), some (vi x6)] [] O =
if (nI 1) = nI 0 then
(ex (d + 1) 192 167 [some (vr 7 0 0), some (vi x1), some (vi x2), none, some (vi x4), some (vi x5), some (vi x6), some (vi (nI 1))] [vi x3] O)
else
(ex (d + 1) 192 167 [some (vr 7 0 0), some (vi x1), some (vi x2), none, some (vi x4), some (vi x5), some (vi x6), some (vi (nI 1))] [vi x5] O) := (ex_un d 192 300 149 [some (vr 7 0 0), some (vi x1), some (vi x2), some (vi x3), some (vi x4), some (vi x5), some (vi x6)] [] O).trans rfl
set_option maxRecDepth 100000 in
theorem sX7_first_167 (d : Nat) (O : Mem_) (x1 : Int32) (x2 : Int32) (x4 : Int32) (x5 : Int32) (x6 : Int32) (x7 : Int32) (y0 : Int32) : ex (d + 1) 192 167 [some (vr 7 0 0), some (vi x1), some (vi x2), none, some (vi x4), some (vi x5), some (vi x6), some (vi x7)] [vi y0] O =
if x7 = nI 0 then
(ex (d + 1) 192 31 [some (vr 7 0 0), some (vi x1), some (vi x2), some (vi y0), some (vi x4), some (vi (x5 + (nI 1)))] [] O)
else
(ex (d + 1) 192 31 [some (vr 7 0 0), some (vi x1), some (vi x2), some (vi y0), some (vi x6), some (vi (x5 + (nI 1)))] [] O) := (ex_un d 192 300 167 [some (vr 7 0 0), some (vi x1), some (vi x2), none, some (vi x4), some (vi x5), some (vi x6), some (vi x7)] [vi y0] O).trans rfl
set_option maxRecDepth 100000 in
theorem sX7_first_188 (d : Nat) (O : Mem_) (x2 : Int32) (x3 : Int32) (x4 : Int32) : ex (d + 1) 192 188 [some (vr 7 0 0), none, some (vi x2), some (vi x3), some (vi x4)] [] O =
if x3 = (oI none) then
(some ((oI none), O))
else
(if x2 = nI 0 then
(some (x3, O))
else
((ex d 189 0 [some (vr 7 0 0)] [] O).bind fun r0 =>
(ex d 191 0 [some (vi x4), some (vi r0.1), some (vi (x2 - (nI 1)))] [] r0.2).bind fun r1 =>
some (r1.1, r1.2))) := (ex_un d 192 300 188 [some (vr 7 0 0), none, some (vi x2), some (vi x3), some (vi x4)] [] O).trans rfl
set_option maxRecDepth 100000 in
theorem sX7_fears_0 (d : Nat) (O : Mem_) (x1 : Int32) : ex (d + 1) 193 0 [some (vr 7 0 0), some (vi x1)] [] O =
if x1 = nI 0 then
((ex d 190 0 [some (vr 7 0 0), some (vi (nI 1))] [] O).bind fun r0 =>
some (r0.1, r0.2))
else
(if x1 = (nI 1) then
((ex d 190 0 [some (vr 7 0 0), some (vi (nI 0))] [] O).bind fun r1 =>
some (((((nI 1) <<< ((O 7 0 0 0) &&& (31:Int32))) - (nI 1)) &&& (r1.1 ^^^ (-1))), r1.2))
else
(some ((-1), O))) := (ex_un d 193 300 0 [some (vr 7 0 0), some (vi x1)] [] O).trans rfl
set_option maxRecDepth 100000 in
theorem sX7_answerOf_0 (d : Nat) (O : Mem_) (x1 : Int32) (x2 : Int32) (x3 : Int32) : ex (d + 1) 194 0 [some (vr 7 0 0), some (vi x1), some (vi x2), some (vi x3)] [] O =
if ib (((nI 0) + ((nI 10) * x1)) + x2) 210 then
(if (O 7 0 28 (Int32.toNatClampNeg (((nI 0) + ((nI 10) * x1)) + x2))) = (oI none) then
(some ((oI none), O))
else
(if ib (O 7 0 28 (Int32.toNatClampNeg (((nI 0) + ((nI 10) * x1)) + x2))) 12 then
(some ((((O 7 0 19 (Int32.toNatClampNeg (O 7 0 28 (Int32.toNatClampNeg (((nI 0) + ((nI 10) * x1)) + x2))))) >>> (x3 &&& (31:Int32))) &&& (nI 1)), O))
else none))
else none := (ex_un d 194 300 0 [some (vr 7 0 0), some (vi x1), some (vi x2), some (vi x3)] [] O).trans rfl
set_option maxRecDepth 100000 in
theorem sX7_answer_0 (d : Nat) (O : Mem_) (x1 : Int32) (x2 : Int32) (x3 : Int32) : ex (d + 1) 195 0 [some (vr 7 0 0), some (vi x1), some (vi x2), some (vi x3)] [] O =
(ex d 144 0 [some (vr 7 0 0), some (vi x1)] [] O).bind fun r0 =>
if r0.1 = nI 0 then
(some ((-1), r0.2))
else
((ex d 143 0 [some (vr 7 0 0), some (vi x2)] [] r0.2).bind fun r1 =>
if r1.1 = nI 0 then
(some ((-1), r1.2))
else
((ex d 142 0 [some (vr 7 0 0), some (vi x3)] [] r1.2).bind fun r2 =>
if r2.1 = nI 0 then
(some ((-1), r2.2))
else
((ex d 194 0 [some (vr 7 0 0), some (vi x1), some (vi x2), some (vi x3)] [] r2.2).bind fun r3 =>
some (r3.1, r3.2)))) := (ex_un d 195 300 0 [some (vr 7 0 0), some (vi x1), some (vi x2), some (vi x3)] [] O).trans rfl
set_option maxRecDepth 100000 in
theorem sX7_whoSay_0 (d : Nat) (O : Mem_) (x1 : Int32) (x2 : Int32) (x3 : Int32) : ex (d + 1) 196 0 [some (vr 7 0 0), some (vi x1), some (vi x2), some (vi x3)] [] O =
ex (d + 1) 196 6 [some (vr 7 0 0), some (vi x1), some (vi x2), some (vi x3), some (vi (nI 0)), some (vi (nI 0))] [] O := (ex_un d 196 300 0 [some (vr 7 0 0), some (vi x1), some (vi x2), some (vi x3)] [] O).trans rfl
set_option maxRecDepth 100000 in
theorem sX7_whoSay_6 (d : Nat) (O : Mem_) (x1 : Int32) (x2 : Int32) (x3 : Int32) (x4 : Int32) (x5 : Int32) : ex (d + 1) 196 6 [some (vr 7 0 0), some (vi x1), some (vi x2), some (vi x3), some (vi x4), some (vi x5)] [] O =
if x5 < (O 7 0 0 7) then
((ex d 194 0 [some (vr 7 0 0), some (vi x5), some (vi x1), some (vi x2)] [] O).bind fun r0 =>
if r0.1 = x3 then
(ex (d + 1) 196 6 [some (vr 7 0 0), some (vi x1), some (vi x2), some (vi x3), some (vi (x4 ||| ((nI 1) <<< (x5 &&& (31:Int32))))), some (vi (x5 + (nI 1)))] [] r0.2)
else
(ex (d + 1) 196 6 [some (vr 7 0 0), some (vi x1), some (vi x2), some (vi x3), some (vi (x4 ||| (nI 0))), some (vi (x5 + (nI 1)))] [] r0.2))
else
(some (x4, O)) := (ex_un d 196 300 6 [some (vr 7 0 0), some (vi x1), some (vi x2), some (vi x3), some (vi x4), some (vi x5)] [] O).trans rfl
set_option maxRecDepth 100000 in
theorem sX7_heard_0 (d : Nat) (O : Mem_) (x1 : Int32) (x2 : Int32) (x3 : Int32) : ex (d + 1) 197 0 [some (vr 7 0 0), some (vi x1), some (vi x2), some (vi x3)] [] O =
(ex d 143 0 [some (vr 7 0 0), some (vi x1)] [] O).bind fun r0 =>
if r0.1 = nI 0 then
(some ((-1), r0.2))
else
((ex d 142 0 [some (vr 7 0 0), some (vi x2)] [] r0.2).bind fun r1 =>
if r1.1 = nI 0 then
(some ((-1), r1.2))
else
(if x3 = (oI none) then
(ex (d + 1) 197 34 [some (vr 7 0 0), some (vi x1), some (vi x2), some (vi x3)] [] r1.2)
else
((ex d 121 0 [some (vl (Int32.toInt64 x3)), none, some (vl 0), none, some (vl 1), none] [] r1.2).bind fun r2 =>
if r2.1 = nI 0 then
(some ((-1), r2.2))
else
(ex (d + 1) 197 34 [some (vr 7 0 0), some (vi x1), some (vi x2), some (vi x3)] [] r2.2)))) := (ex_un d 197 300 0 [some (vr 7 0 0), some (vi x1), some (vi x2), some (vi x3)] [] O).trans rfl
set_option maxRecDepth 100000 in
theorem sX7_heard_34 (d : Nat) (O : Mem_) (x1 : Int32) (x2 : Int32) (x3 : Int32) : ex (d + 1) 197 34 [some (vr 7 0 0), some (vi x1), some (vi x2), some (vi x3)] [] O =
(ex d 196 0 [some (vr 7 0 0), some (vi x1), some (vi x2), some (vi x3)] [] O).bind fun r0 =>
some (((up r0.2 7 0 0 33 ((O 7 0 0 33) &&& r0.1)) 7 0 0 33), (up r0.2 7 0 0 33 ((O 7 0 0 33) &&& r0.1))) := (ex_un d 197 300 34 [some (vr 7 0 0), some (vi x1), some (vi x2), some (vi x3)] [] O).trans rfl
set_option maxRecDepth 100000 in
theorem sX7_left_0 (d : Nat) (O : Mem_) (x1 : Int32) : ex (d + 1) 198 0 [some (vr 7 0 0), some (vi x1)] [] O =
if x1 = nI 0 then
(some ((O 7 0 0 33), O))
else
(if x1 = (nI 1) then
((ex d 188 0 [some (vr 7 0 0), some (vi (O 7 0 0 33))] [] O).bind fun r0 =>
some (r0.1, r0.2))
else
(if x1 = (nI 2) then
((ex d 189 0 [some (vr 7 0 0)] [] O).bind fun r1 =>
some (r1.1, r1.2))
else
(some ((-1), O)))) := (ex_un d 198 300 0 [some (vr 7 0 0), some (vi x1)] [] O).trans rfl
set_option maxRecDepth 100000 in
theorem sX7_ask_0 (d : Nat) (O : Mem_) (x1 : Int32) : ex (d + 1) 199 0 [some (vr 7 0 0), some (vi x1)] [] O =
(ex d 121 0 [some (vl (Int32.toInt64 x1)), none, some (vl 0), none, some (vl (2)), none] [] O).bind fun r0 =>
if r0.1 = nI 0 then
(some ((-1), r0.2))
else
(ex (d + 1) 199 22 [some (vr 7 0 0), some (vi x1), some (vi (oI none)), some (vi (nI 0)), some (vi (nI 0))] [] r0.2) := (ex_un d 199 300 0 [some (vr 7 0 0), some (vi x1)] [] O).trans rfl
set_option maxRecDepth 100000 in
theorem sX7_ask_22 (d : Nat) (O : Mem_) (x1 : Int32) (x2 : Int32) (x3 : Int32) (x4 : Int32) : ex (d + 1) 199 22 [some (vr 7 0 0), some (vi x1), some (vi x2), some (vi x3), some (vi x4)] [] O =
if x4 < (O 7 0 0 5) then
(if (O 7 0 0 33) = nI 0 then
(ex (d + 1) 199 177 [none, some (vi x1), some (vi x2), some (vi x3)] [] O)
else
(ex (d + 1) 199 41 [some (vr 7 0 0), some (vi x1), some (vi x2), some (vi x3), some (vi x4), some (vi (nI 0))] [] O))
else
(ex (d + 1) 199 177 [none, some (vi x1), some (vi x2), some (vi x3)] [] O) := (ex_un d 199 300 22 [some (vr 7 0 0), some (vi x1), some (vi x2), some (vi x3), some (vi x4)] [] O).trans rfl
set_option maxRecDepth 100000 in
theorem sX7_ask_41 (d : Nat) (O : Mem_) (x1 : Int32) (x2 : Int32) (x3 : Int32) (x4 : Int32) (x5 : Int32) : ex (d + 1) 199 41 [some (vr 7 0 0), some (vi x1), some (vi x2), some (vi x3), some (vi x4), some (vi x5)] [] O =
if x5 < (O 7 0 0 0) then
(ex (d + 1) 199 56 [some (vr 7 0 0), some (vi x1), some (vi x2), some (vi x3), some (vi x4), some (vi x5), some (vi (nI 0)), some (vi (nI 0))] [] O)
else
(ex (d + 1) 199 22 [some (vr 7 0 0), some (vi x1), some (vi x2), some (vi x3), some (vi (x4 + (nI 1)))] [] O) := (ex_un d 199 300 41 [some (vr 7 0 0), some (vi x1), some (vi x2), some (vi x3), some (vi x4), some (vi x5)] [] O).trans rfl
set_option maxRecDepth 100000 in
theorem sX7_ask_56 (d : Nat) (O : Mem_) (x1 : Int32) (x2 : Int32) (x3 : Int32) (x4 : Int32) (x5 : Int32) (x6 : Int32) (x7 : Int32) : ex (d + 1) 199 56 [some (vr 7 0 0), some (vi x1), some (vi x2), some (vi x3), some (vi x4), some (vi x5), some (vi x6), some (vi x7)] [] O =
if x7 < (nI 3) then
(if x7 = (nI 2) then
(ex (d + 1) 199 85 [some (vr 7 0 0), some (vi x1), some (vi x2), some (vi x3), some (vi x4), some (vi x5), some (vi x6), some (vi x7)] [vi (oI none), vi x5, vi x4, vr 7 0 0, vi (O 7 0 0 33), vr 7 0 0] O)
else
(ex (d + 1) 199 85 [some (vr 7 0 0), some (vi x1), some (vi x2), some (vi x3), some (vi x4), some (vi x5), some (vi x6), some (vi x7)] [vi x7, vi x5, vi x4, vr 7 0 0, vi (O 7 0 0 33), vr 7 0 0] O))
else
(if x2 = (oI none) then
(ex (d + 1) 199 133 [some (vr 7 0 0), some (vi x1), some (vi x2), some (vi x3), some (vi x4), some (vi x5), some (vi x6)] [vi (nI 1)] O)
else
(if x6 < x3 then
(ex (d + 1) 199 133 [some (vr 7 0 0), some (vi x1), some (vi x2), some (vi x3), some (vi x4), some (vi x5), some (vi x6)] [vi (nI 1)] O)
else
(ex (d + 1) 199 133 [some (vr 7 0 0), some (vi x1), some (vi x2), some (vi x3), some (vi x4), some (vi x5), some (vi x6)] [vi (nI 0)] O))) := (ex_un d 199 300 56 [some (vr 7 0 0), some (vi x1), some (vi x2), some (vi x3), some (vi x4), some (vi x5), some (vi x6), some (vi x7)] [] O).trans rfl
set_option maxRecDepth 100000 in
theorem sX7_ask_85 (d : Nat) (O : Mem_) (x1 : Int32) (x2 : Int32) (x3 : Int32) (x4 : Int32) (x5 : Int32) (x6 : Int32) (x7 : Int32) (y0 : Int32) (y1 : Int32) (y2 : Int32) (y4 : Int32) : ex (d + 1) 199 85 [some (vr 7 0 0), some (vi x1), some (vi x2), some (vi x3), some (vi x4), some (vi x5), some (vi x6), some (vi x7)] [vi y0, vi y1, vi y2, vr 7 0 0, vi y4, vr 7 0 0] O =
(ex d 196 0 [some (vr 7 0 0), some (vi y2), some (vi y1), some (vi y0)] [] O).bind fun r0 =>
(ex d 188 0 [some (vr 7 0 0), some (vi (y4 &&& r0.1))] [] r0.2).bind fun r1 =>
if x6 < r1.1 then
(ex (d + 1) 199 56 [some (vr 7 0 0), some (vi x1), some (vi x2), some (vi x3), some (vi x4), some (vi x5), some (vi r1.1), some (vi (x7 + (nI 1)))] [] r1.2)
else
(ex (d + 1) 199 56 [some (vr 7 0 0), some (vi x1), some (vi x2), some (vi x3), some (vi x4), some (vi x5), some (vi x6), some (vi (x7 + (nI 1)))] [] r1.2) := (ex_un d 199 300 85 [some (vr 7 0 0), some (vi x1), some (vi x2), some (vi x3), some (vi x4), some (vi x5), some (vi x6), some (vi x7)] [vi y0, vi y1, vi y2, vr 7 0 0, vi y4, vr 7 0 0] O).trans rfl
set_option maxRecDepth 100000 in
theorem sX7_ask_133 (d : Nat) (O : Mem_) (x1 : Int32) (x2 : Int32) (x3 : Int32) (x4 : Int32) (x5 : Int32) (x6 : Int32) (y0 : Int32) : ex (d + 1) 199 133 [some (vr 7 0 0), some (vi x1), some (vi x2), some (vi x3), some (vi x4), some (vi x5), some (vi x6)] [vi y0] O =
if y0 = nI 0 then
(ex (d + 1) 199 152 [some (vr 7 0 0), some (vi x1), none, some (vi x3), some (vi x4), some (vi x5), some (vi x6), some (vi y0)] [vi x2] O)
else
(ex (d + 1) 199 152 [some (vr 7 0 0), some (vi x1), none, some (vi x3), some (vi x4), some (vi x5), some (vi x6), some (vi y0)] [vi (((nI 8) * x4) + x5)] O) := (ex_un d 199 300 133 [some (vr 7 0 0), some (vi x1), some (vi x2), some (vi x3), some (vi x4), some (vi x5), some (vi x6)] [vi y0] O).trans rfl
set_option maxRecDepth 100000 in
theorem sX7_ask_152 (d : Nat) (O : Mem_) (x1 : Int32) (x3 : Int32) (x4 : Int32) (x5 : Int32) (x6 : Int32) (x7 : Int32) (y0 : Int32) : ex (d + 1) 199 152 [some (vr 7 0 0), some (vi x1), none, some (vi x3), some (vi x4), some (vi x5), some (vi x6), some (vi x7)] [vi y0] O =
if x7 = nI 0 then
(ex (d + 1) 199 41 [some (vr 7 0 0), some (vi x1), some (vi y0), some (vi x3), some (vi x4), some (vi (x5 + (nI 1)))] [] O)
else
(ex (d + 1) 199 41 [some (vr 7 0 0), some (vi x1), some (vi y0), some (vi x6), some (vi x4), some (vi (x5 + (nI 1)))] [] O) := (ex_un d 199 300 152 [some (vr 7 0 0), some (vi x1), none, some (vi x3), some (vi x4), some (vi x5), some (vi x6), some (vi x7)] [vi y0] O).trans rfl
set_option maxRecDepth 100000 in
theorem sX7_ask_177 (d : Nat) (O : Mem_) (x1 : Int32) (x2 : Int32) (x3 : Int32) : ex (d + 1) 199 177 [none, some (vi x1), some (vi x2), some (vi x3)] [] O =
if x2 = (oI none) then
(some ((oI none), O))
else
(if x1 = nI 0 then
(if (nI 8) = nI 0 then none else some ((x2 / (nI 8)), O))
else
(if x1 = (nI 1) then
(if (nI 8) = nI 0 then none else some ((x2 - x2 / (nI 8) * (nI 8)), O))
else
(some (x3, O)))) := (ex_un d 199 300 177 [none, some (vi x1), some (vi x2), some (vi x3)] [] O).trans rfl
set_option maxRecDepth 100000 in
theorem sX7_sure_0 (d : Nat) (O : Mem_) (x1 : Int32) (x2 : Int32) : ex (d + 1) 200 0 [some (vr 7 0 0), some (vi x1), some (vi x2)] [] O =
(ex d 143 0 [some (vr 7 0 0), some (vi x1)] [] O).bind fun r0 =>
if r0.1 = nI 0 then
(some ((-1), r0.2))
else
((ex d 121 0 [some (vl (Int32.toInt64 x2)), none, some (vl 0), none, some (vl 1), none] [] r0.2).bind fun r1 =>
if r1.1 = nI 0 then
(some ((-1), r1.2))
else
(ex (d + 1) 200 25 [some (vr 7 0 0), some (vi x1), some (vi x2), some (vi (nI 0)), some (vi (nI 0))] [] r1.2)) := (ex_un d 200 300 0 [some (vr 7 0 0), some (vi x1), some (vi x2)] [] O).trans rfl
set_option maxRecDepth 100000 in
theorem sX7_sure_25 (d : Nat) (O : Mem_) (x1 : Int32) (x2 : Int32) (x3 : Int32) (x4 : Int32) : ex (d + 1) 200 25 [some (vr 7 0 0), some (vi x1), some (vi x2), some (vi x3), some (vi x4)] [] O =
if x4 < (O 7 0 0 7) then
((ex d 147 0 [some (vr 7 0 0), some (vi x4)] [] O).bind fun r0 =>
ex (d + 1) 200 25 [some (vr 7 0 0), some (vi x1), some (vi x2), some (vi (x3 ||| r0.1)), some (vi (x4 + (nI 1)))] [] r0.2)
else
(ex (d + 1) 200 56 [some (vr 7 0 0), some (vi x1), some (vi x2), some (vi x3), some (vi (oI none)), some (vi (nI 0))] [] O) := (ex_un d 200 300 25 [some (vr 7 0 0), some (vi x1), some (vi x2), some (vi x3), some (vi x4)] [] O).trans rfl
set_option maxRecDepth 100000 in
theorem sX7_sure_56 (d : Nat) (O : Mem_) (x1 : Int32) (x2 : Int32) (x3 : Int32) (x4 : Int32) (x5 : Int32) : ex (d + 1) 200 56 [some (vr 7 0 0), some (vi x1), some (vi x2), some (vi x3), some (vi x4), some (vi x5)] [] O =
if x5 < ((nI 1) <<< ((O 7 0 0 0) &&& (31:Int32))) then
(if x4 = (oI none) then
(ex (d + 1) 200 97 [some (vr 7 0 0), some (vi x1), some (vi x2), some (vi x3), some (vi x4), some (vi x5), some (vi (nI 1)), some (vi (nI 0))] [] O)
else
((ex d 123 0 [some (vi x5)] [] O).bind fun r0 =>
(ex d 123 0 [some (vi x4)] [] r0.2).bind fun r1 =>
if r0.1 < r1.1 then
(ex (d + 1) 200 97 [some (vr 7 0 0), some (vi x1), some (vi x2), some (vi x3), some (vi x4), some (vi x5), some (vi (nI 1)), some (vi (nI 0))] [] r1.2)
else
(ex (d + 1) 200 97 [some (vr 7 0 0), some (vi x1), some (vi x2), some (vi x3), some (vi x4), some (vi x5), some (vi (nI 0)), some (vi (nI 0))] [] r1.2)))
else
(if x2 = nI 0 then
((ex d 123 0 [some (vi x4)] [] O).bind fun r2 =>
some (r2.1, r2.2))
else
(some (x4, O))) := (ex_un d 200 300 56 [some (vr 7 0 0), some (vi x1), some (vi x2), some (vi x3), some (vi x4), some (vi x5)] [] O).trans rfl
set_option maxRecDepth 100000 in
theorem sX7_sure_97 (d : Nat) (O : Mem_) (x1 : Int32) (x2 : Int32) (x3 : Int32) (x4 : Int32) (x5 : Int32) (x6 : Int32) (x7 : Int32) : ex (d + 1) 200 97 [some (vr 7 0 0), some (vi x1), some (vi x2), some (vi x3), some (vi x4), some (vi x5), some (vi x6), some (vi x7)] [] O =
if x7 < (O 7 0 0 2) then
(if x6 = nI 0 then
(ex (d + 1) 200 161 [some (vr 7 0 0), some (vi x1), some (vi x2), some (vi x3), some (vi x4), some (vi x5), some (vi x6)] [] O)
else
(if ib x7 12 then
((ex d 148 0 [some (vr 7 0 0), some (vi x1)] [] O).bind fun r0 =>
if ((x3 >>> (x7 &&& (31:Int32))) &&& (nI 1)) = nI 0 then
(ex (d + 1) 200 97 [some (vr 7 0 0), some (vi x1), some (vi x2), some (vi x3), some (vi x4), some (vi x5), some (vi (nI 1)), some (vi (x7 + (nI 1)))] [] r0.2)
else
(if ((O 7 0 19 (Int32.toNatClampNeg x7)) ^^^ r0.1) = nI 0 then
(ex (d + 1) 200 97 [some (vr 7 0 0), some (vi x1), some (vi x2), some (vi x3), some (vi x4), some (vi x5), some (vi (nI 1)), some (vi (x7 + (nI 1)))] [] r0.2)
else
(if (((O 7 0 19 (Int32.toNatClampNeg x7)) ^^^ r0.1) &&& x5) = nI 0 then
(ex (d + 1) 200 97 [some (vr 7 0 0), some (vi x1), some (vi x2), some (vi x3), some (vi x4), some (vi x5), some (vi (nI 0)), some (vi (x7 + (nI 1)))] [] r0.2)
else
(ex (d + 1) 200 97 [some (vr 7 0 0), some (vi x1), some (vi x2), some (vi x3), some (vi x4), some (vi x5), some (vi (nI 1)), some (vi (x7 + (nI 1)))] [] r0.2))))
else none))
else
(ex (d + 1) 200 161 [some (vr 7 0 0), some (vi x1), some (vi x2), some (vi x3), some (vi x4), some (vi x5), some (vi x6)] [] O) := (ex_un d 200 300 97 [some (vr 7 0 0), some (vi x1), some (vi x2), some (vi x3), some (vi x4), some (vi x5), some (vi x6), some (vi x7)] [] O).trans rfl
set_option maxRecDepth 100000 in
theorem sX7_sure_161 (d : Nat) (O : Mem_) (x1 : Int32) (x2 : Int32) (x3 : Int32) (x4 : Int32) (x5 : Int32) (x6 : Int32) : ex (d + 1) 200 161 [some (vr 7 0 0), some (vi x1), some (vi x2), some (vi x3), some (vi x4), some (vi x5), some (vi x6)] [] O =
if x6 = nI 0 then
(ex (d + 1) 200 56 [some (vr 7 0 0), some (vi x1), some (vi x2), some (vi x3), some (vi x4), some (vi (x5 + (nI 1)))] [] O)
else
(ex (d + 1) 200 56 [some (vr 7 0 0), some (vi x1), some (vi x2), some (vi x3), some (vi x5), some (vi (x5 + (nI 1)))] [] O) := (ex_un d 200 300 161 [some (vr 7 0 0), some (vi x1), some (vi x2), some (vi x3), some (vi x4), some (vi x5), some (vi x6)] [] O).trans rfl
set_option maxRecDepth 100000 in
theorem sX7_likely_0 (d : Nat) (O : Mem_) (x1 : Int32) (x2 : Int32) : ex (d + 1) 201 0 [some (vr 7 0 0), some (vi x1), some (vi x2)] [] O =
(ex d 143 0 [some (vr 7 0 0), some (vi x1)] [] O).bind fun r0 =>
if r0.1 = nI 0 then
(some ((-1), r0.2))
else
((ex d 121 0 [some (vl (Int32.toInt64 x2)), none, some (vl 0), none, some (vl 1), none] [] r0.2).bind fun r1 =>
if r1.1 = nI 0 then
(some ((-1), r1.2))
else
(ex (d + 1) 201 25 [some (vr 7 0 0), some (vi x1), some (vi x2), some (vi (nI 0)), some (vi (nI 0))] [] r1.2)) := (ex_un d 201 300 0 [some (vr 7 0 0), some (vi x1), some (vi x2)] [] O).trans rfl
set_option maxRecDepth 100000 in
theorem sX7_likely_25 (d : Nat) (O : Mem_) (x1 : Int32) (x2 : Int32) (x3 : Int32) (x4 : Int32) : ex (d + 1) 201 25 [some (vr 7 0 0), some (vi x1), some (vi x2), some (vi x3), some (vi x4)] [] O =
if x4 < (O 7 0 0 7) then
((ex d 172 0 [some (vr 7 0 0), some (vi (nI 0)), some (vi x4), some (vi x1)] [] O).bind fun r0 =>
if r0.1 = nI 0 then
(ex (d + 1) 201 25 [some (vr 7 0 0), some (vi x1), some (vi x2), some (vi (x3 + (nI 0))), some (vi (x4 + (nI 1)))] [] r0.2)
else
(if ib (((nI 5) * x4) + (nI 4)) 30 then
(ex (d + 1) 201 25 [some (vr 7 0 0), some (vi x1), some (vi x2), some (vi (x3 + (r0.2 7 0 9 (Int32.toNatClampNeg (((nI 5) * x4) + (nI 4)))))), some (vi (x4 + (nI 1)))] [] r0.2)
else none))
else
((ex d 189 0 [some (vr 7 0 0)] [] O).bind fun r1 =>
if r1.1 = nI 0 then
(some ((oI none), r1.2))
else
((ex d 189 0 [some (vr 7 0 0)] [] r1.2).bind fun r2 =>
(ex d 191 0 [some (vi x3), some (vi r2.1), some (vi x2)] [] r2.2).bind fun r3 =>
some (r3.1, r3.2))) := (ex_un d 201 300 25 [some (vr 7 0 0), some (vi x1), some (vi x2), some (vi x3), some (vi x4)] [] O).trans rfl
set_option maxRecDepth 100000 in
theorem sX7_theirs_0 (d : Nat) (O : Mem_) (x1 : Int32) (x2 : Int32) : ex (d + 1) 202 0 [some (vr 7 0 0), some (vi x1), some (vi x2)] [] O =
(ex d 142 0 [some (vr 7 0 0), some (vi x1)] [] O).bind fun r0 =>
if r0.1 = nI 0 then
(some ((-1), r0.2))
else
(if (r0.2 7 0 0 34) = (nI 12) then
(some ((-3), r0.2))
else
(if ib (r0.2 7 0 0 34) 12 then
(if ib ((up r0.2 7 0 36 (Int32.toNatClampNeg (r0.2 7 0 0 34)) x1) 7 0 0 34) 12 then
(if x2 = nI 0 ∨ x2 = nI 1 then
(some (((up (up (up r0.2 7 0 36 (Int32.toNatClampNeg (r0.2 7 0 0 34)) x1) 7 0 37 (Int32.toNatClampNeg ((up r0.2 7 0 36 (Int32.toNatClampNeg (r0.2 7 0 0 34)) x1) 7 0 0 34)) x2) 7 0 0 34 (((up (up r0.2 7 0 36 (Int32.toNatClampNeg (r0.2 7 0 0 34)) x1) 7 0 37 (Int32.toNatClampNeg ((up r0.2 7 0 36 (Int32.toNatClampNeg (r0.2 7 0 0 34)) x1) 7 0 0 34)) x2) 7 0 0 34) + (nI 1))) 7 0 0 34), (up (up (up r0.2 7 0 36 (Int32.toNatClampNeg (r0.2 7 0 0 34)) x1) 7 0 37 (Int32.toNatClampNeg ((up r0.2 7 0 36 (Int32.toNatClampNeg (r0.2 7 0 0 34)) x1) 7 0 0 34)) x2) 7 0 0 34 (((up (up r0.2 7 0 36 (Int32.toNatClampNeg (r0.2 7 0 0 34)) x1) 7 0 37 (Int32.toNatClampNeg ((up r0.2 7 0 36 (Int32.toNatClampNeg (r0.2 7 0 0 34)) x1) 7 0 0 34)) x2) 7 0 0 34) + (nI 1)))))
else none)
else none)
else none)) := (ex_un d 202 300 0 [some (vr 7 0 0), some (vi x1), some (vi x2)] [] O).trans rfl
set_option maxRecDepth 100000 in
theorem sX7_hush_0 (d : Nat) (O : Mem_)  : ex (d + 1) 203 0 [some (vr 7 0 0)] [] O =
some ((O 7 0 0 34), (up O 7 0 0 34 (nI 0))) := (ex_un d 203 300 0 [some (vr 7 0 0)] [] O).trans rfl
set_option maxRecDepth 100000 in
theorem sX7_fitsTheirs_0 (d : Nat) (O : Mem_)  : ex (d + 1) 204 0 [some (vr 7 0 0)] [] O =
ex (d + 1) 204 4 [some (vr 7 0 0), some (vi (nI 0)), some (vi (nI 0))] [] O := (ex_un d 204 300 0 [some (vr 7 0 0)] [] O).trans rfl
set_option maxRecDepth 100000 in
theorem sX7_fitsTheirs_4 (d : Nat) (O : Mem_) (x1 : Int32) (x2 : Int32) : ex (d + 1) 204 4 [some (vr 7 0 0), some (vi x1), some (vi x2)] [] O =
if x2 < (O 7 0 0 2) then
(ex (d + 1) 204 17 [some (vr 7 0 0), some (vi x1), some (vi x2), some (vi (nI 1)), some (vi (nI 0))] [] O)
else
(some (x1, O)) := (ex_un d 204 300 4 [some (vr 7 0 0), some (vi x1), some (vi x2)] [] O).trans rfl
set_option maxRecDepth 100000 in
theorem sX7_fitsTheirs_17 (d : Nat) (O : Mem_) (x1 : Int32) (x2 : Int32) (x3 : Int32) (x4 : Int32) : ex (d + 1) 204 17 [some (vr 7 0 0), some (vi x1), some (vi x2), some (vi x3), some (vi x4)] [] O =
if x4 < (O 7 0 0 34) then
(if x3 = nI 0 then
(ex (d + 1) 204 17 [some (vr 7 0 0), some (vi x1), some (vi x2), some (vi (nI 0)), some (vi (x4 + (nI 1)))] [] O)
else
(if ib x2 12 then
(if ib x4 12 then
(if ib x4 12 then
((ex d 122 0 [some (vi (O 7 0 37 (Int32.toNatClampNeg x4)))] [] O).bind fun r0 =>
if (((O 7 0 19 (Int32.toNatClampNeg x2)) >>> ((O 7 0 36 (Int32.toNatClampNeg x4)) &&& (31:Int32))) &&& (nI 1)) = r0.1 then
(ex (d + 1) 204 17 [some (vr 7 0 0), some (vi x1), some (vi x2), some (vi (nI 1)), some (vi (x4 + (nI 1)))] [] r0.2)
else
(ex (d + 1) 204 17 [some (vr 7 0 0), some (vi x1), some (vi x2), some (vi (nI 0)), some (vi (x4 + (nI 1)))] [] r0.2))
else none)
else none)
else none))
else
(if x3 = nI 0 then
(ex (d + 1) 204 4 [some (vr 7 0 0), some (vi (x1 ||| (nI 0))), some (vi (x2 + (nI 1)))] [] O)
else
(ex (d + 1) 204 4 [some (vr 7 0 0), some (vi (x1 ||| ((nI 1) <<< (x2 &&& (31:Int32))))), some (vi (x2 + (nI 1)))] [] O)) := (ex_un d 204 300 17 [some (vr 7 0 0), some (vi x1), some (vi x2), some (vi x3), some (vi x4)] [] O).trans rfl
set_option maxRecDepth 100000 in
theorem sX7_toAsk_0 (d : Nat) (O : Mem_) (x1 : Int32) : ex (d + 1) 205 0 [some (vr 7 0 0), some (vi x1)] [] O =
ex (d + 1) 205 8 [some (vr 7 0 0), some (vi x1), some (vi (oI none)), some (vi (-1)), some (vi (nI 0))] [] O := (ex_un d 205 300 0 [some (vr 7 0 0), some (vi x1)] [] O).trans rfl
set_option maxRecDepth 100000 in
theorem sX7_toAsk_8 (d : Nat) (O : Mem_) (x1 : Int32) (x2 : Int32) (x3 : Int32) (x4 : Int32) : ex (d + 1) 205 8 [some (vr 7 0 0), some (vi x1), some (vi x2), some (vi x3), some (vi x4)] [] O =
if x4 < (O 7 0 0 0) then
(if x1 = nI 0 then
(some (x2, O))
else
(ex (d + 1) 205 27 [some (vr 7 0 0), some (vi x1), some (vi x2), some (vi x3), some (vi x4), some (vi (nI 0)), some (vi (nI 0))] [] O))
else
(some (x2, O)) := (ex_un d 205 300 8 [some (vr 7 0 0), some (vi x1), some (vi x2), some (vi x3), some (vi x4)] [] O).trans rfl
set_option maxRecDepth 100000 in
theorem sX7_toAsk_27 (d : Nat) (O : Mem_) (x1 : Int32) (x2 : Int32) (x3 : Int32) (x4 : Int32) (x5 : Int32) (x6 : Int32) : ex (d + 1) 205 27 [some (vr 7 0 0), some (vi x1), some (vi x2), some (vi x3), some (vi x4), some (vi x5), some (vi x6)] [] O =
if x6 < (O 7 0 0 2) then
(if ((x1 >>> (x6 &&& (31:Int32))) &&& (nI 1)) = (nI 1) then
(if ib x6 12 then
(ex (d + 1) 205 27 [some (vr 7 0 0), some (vi x1), some (vi x2), some (vi x3), some (vi x4), some (vi (x5 + (((O 7 0 19 (Int32.toNatClampNeg x6)) >>> (x4 &&& (31:Int32))) &&& (nI 1)))), some (vi (x6 + (nI 1)))] [] O)
else none)
else
(ex (d + 1) 205 27 [some (vr 7 0 0), some (vi x1), some (vi x2), some (vi x3), some (vi x4), some (vi (x5 + (nI 0))), some (vi (x6 + (nI 1)))] [] O))
else
((ex d 123 0 [some (vi x1)] [] O).bind fun r0 =>
if x5 < (r0.1 - x5) then
(if x3 < x5 then
(ex (d + 1) 205 111 [some (vr 7 0 0), some (vi x1), none, some (vi x3), some (vi x4), none, some (vi x5)] [vi x4] r0.2)
else
(ex (d + 1) 205 111 [some (vr 7 0 0), some (vi x1), none, some (vi x3), some (vi x4), none, some (vi x5)] [vi x2] r0.2))
else
((ex d 123 0 [some (vi x1)] [] r0.2).bind fun r1 =>
if x3 < (r1.1 - x5) then
(ex (d + 1) 205 111 [some (vr 7 0 0), some (vi x1), none, some (vi x3), some (vi x4), none, some (vi (r1.1 - x5))] [vi x4] r1.2)
else
(ex (d + 1) 205 111 [some (vr 7 0 0), some (vi x1), none, some (vi x3), some (vi x4), none, some (vi (r1.1 - x5))] [vi x2] r1.2))) := (ex_un d 205 300 27 [some (vr 7 0 0), some (vi x1), some (vi x2), some (vi x3), some (vi x4), some (vi x5), some (vi x6)] [] O).trans rfl
set_option maxRecDepth 100000 in
theorem sX7_toAsk_111 (d : Nat) (O : Mem_) (x1 : Int32) (x3 : Int32) (x4 : Int32) (x6 : Int32) (y0 : Int32) : ex (d + 1) 205 111 [some (vr 7 0 0), some (vi x1), none, some (vi x3), some (vi x4), none, some (vi x6)] [vi y0] O =
if x3 < x6 then
(ex (d + 1) 205 8 [some (vr 7 0 0), some (vi x1), some (vi y0), some (vi x6), some (vi (x4 + (nI 1)))] [] O)
else
(ex (d + 1) 205 8 [some (vr 7 0 0), some (vi x1), some (vi y0), some (vi x3), some (vi (x4 + (nI 1)))] [] O) := (ex_un d 205 300 111 [some (vr 7 0 0), some (vi x1), none, some (vi x3), some (vi x4), none, some (vi x6)] [vi y0] O).trans rfl
set_option maxRecDepth 100000 in
theorem sX7_meant_0 (d : Nat) (O : Mem_) (x1 : Int32) : ex (d + 1) 206 0 [some (vr 7 0 0), some (vi x1)] [] O =
(ex d 204 0 [some (vr 7 0 0)] [] O).bind fun r0 =>
if x1 = (nI 0) then
((ex d 123 0 [some (vi r0.1)] [] r0.2).bind fun r1 =>
some (r1.1, r1.2))
else if x1 = (nI 1) then
((ex d 156 0 [some (vr 7 0 0), some (vi r0.1)] [] r0.2).bind fun r2 =>
some (r2.1, r2.2))
else if x1 = (nI 2) then
(some (r0.1, r0.2))
else if x1 = (nI 3) then
((ex d 205 0 [some (vr 7 0 0), some (vi r0.1)] [] r0.2).bind fun r3 =>
some (r3.1, r3.2))
else 
(some ((-1), r0.2)) := (ex_un d 206 300 0 [some (vr 7 0 0), some (vi x1)] [] O).trans rfl
set_option maxRecDepth 100000 in
theorem sX7_build_0 (d : Nat) (O : Mem_) (x1 : Int32) (x2 : Int32) : ex (d + 1) 207 0 [some (vr 7 0 0), some (vi x1), some (vi x2)] [] O =
(ex d 121 0 [some (vl (Int32.toInt64 x1)), none, some (vl 0), none, some (vl (Int32.toInt64 ((O 7 0 0 2) - (nI 1)))), none] [] O).bind fun r0 =>
if r0.1 = nI 0 then
(some ((-1), r0.2))
else
((ex d 121 0 [some (vl (Int32.toInt64 x2)), none, some (vl 0), none, some (vl (2)), none] [] r0.2).bind fun r1 =>
if r1.1 = nI 0 then
(some ((-1), r1.2))
else
(ex (d + 1) 207 42 [some (vr 7 0 0), some (vi x1), some (vi x2), some (vi (((nI 1) <<< ((r1.2 7 0 0 0) &&& (31:Int32))) - (nI 1))), some (vi (nI 1))] [] r1.2)) := (ex_un d 207 300 0 [some (vr 7 0 0), some (vi x1), some (vi x2)] [] O).trans rfl
set_option maxRecDepth 100000 in
theorem sX7_build_42 (d : Nat) (O : Mem_) (x1 : Int32) (x2 : Int32) (x3 : Int32) (x4 : Int32) : ex (d + 1) 207 42 [some (vr 7 0 0), some (vi x1), some (vi x2), some (vi x3), some (vi x4)] [] O =
if x4 < (nI 4) then
(ex (d + 1) 207 51 [some (vr 7 0 0), some (vi x1), some (vi x2), some (vi x3), some (vi x4), some (vi (nI 0))] [] O)
else
(some ((oI none), O)) := (ex_un d 207 300 42 [some (vr 7 0 0), some (vi x1), some (vi x2), some (vi x3), some (vi x4)] [] O).trans rfl
set_option maxRecDepth 100000 in
theorem sX7_build_51 (d : Nat) (O : Mem_) (x1 : Int32) (x2 : Int32) (x3 : Int32) (x4 : Int32) (x5 : Int32) : ex (d + 1) 207 51 [some (vr 7 0 0), some (vi x1), some (vi x2), some (vi x3), some (vi x4), some (vi x5)] [] O =
if x5 < (O 7 0 0 5) then
(ex (d + 1) 207 63 [some (vr 7 0 0), some (vi x1), some (vi x2), some (vi x3), some (vi x4), some (vi x5), some (vi (nI 0))] [] O)
else
(ex (d + 1) 207 42 [some (vr 7 0 0), some (vi x1), some (vi x2), some (vi x3), some (vi (x4 + (nI 1)))] [] O) := (ex_un d 207 300 51 [some (vr 7 0 0), some (vi x1), some (vi x2), some (vi x3), some (vi x4), some (vi x5)] [] O).trans rfl
set_option maxRecDepth 100000 in
theorem sX7_build_63 (d : Nat) (O : Mem_) (x1 : Int32) (x2 : Int32) (x3 : Int32) (x4 : Int32) (x5 : Int32) (x6 : Int32) : ex (d + 1) 207 63 [some (vr 7 0 0), some (vi x1), some (vi x2), some (vi x3), some (vi x4), some (vi x5), some (vi x6)] [] O =
if x4 = (nI 1) then
(ex (d + 1) 207 79 [some (vr 7 0 0), some (vi x1), some (vi x2), some (vi x3), some (vi x4), some (vi x5), some (vi x6)] [vi (nI 1), vi x6] O)
else
(ex (d + 1) 207 79 [some (vr 7 0 0), some (vi x1), some (vi x2), some (vi x3), some (vi x4), some (vi x5), some (vi x6)] [vi (O 7 0 0 5), vi x6] O) := (ex_un d 207 300 63 [some (vr 7 0 0), some (vi x1), some (vi x2), some (vi x3), some (vi x4), some (vi x5), some (vi x6)] [] O).trans rfl
set_option maxRecDepth 100000 in
theorem sX7_build_79 (d : Nat) (O : Mem_) (x1 : Int32) (x2 : Int32) (x3 : Int32) (x4 : Int32) (x5 : Int32) (x6 : Int32) (y0 : Int32) (y1 : Int32) : ex (d + 1) 207 79 [some (vr 7 0 0), some (vi x1), some (vi x2), some (vi x3), some (vi x4), some (vi x5), some (vi x6)] [vi y0, vi y1] O =
if y1 < y0 then
(if x4 = (nI 1) then
((ex d 148 0 [some (vr 7 0 0), some (vi x5)] [] O).bind fun r0 =>
ex (d + 1) 207 136 [some (vr 7 0 0), some (vi x1), some (vi x2), some (vi x3), some (vi x4), some (vi x5), some (vi x6)] [vi r0.1] r0.2)
else
(if x4 = (nI 2) then
((ex d 148 0 [some (vr 7 0 0), some (vi x5)] [] O).bind fun r1 =>
(ex d 148 0 [some (vr 7 0 0), some (vi x6)] [] r1.2).bind fun r2 =>
ex (d + 1) 207 136 [some (vr 7 0 0), some (vi x1), some (vi x2), some (vi x3), some (vi x4), some (vi x5), some (vi x6)] [vi (r1.1 &&& r2.1)] r2.2)
else
((ex d 148 0 [some (vr 7 0 0), some (vi x5)] [] O).bind fun r3 =>
(ex d 148 0 [some (vr 7 0 0), some (vi x6)] [] r3.2).bind fun r4 =>
ex (d + 1) 207 136 [some (vr 7 0 0), some (vi x1), some (vi x2), some (vi x3), some (vi x4), some (vi x5), some (vi x6)] [vi ((r3.1 &&& (r4.1 ^^^ (-1))) &&& x3)] r4.2)))
else
(ex (d + 1) 207 51 [some (vr 7 0 0), some (vi x1), some (vi x2), some (vi x3), some (vi x4), some (vi (x5 + (nI 1)))] [] O) := (ex_un d 207 300 79 [some (vr 7 0 0), some (vi x1), some (vi x2), some (vi x3), some (vi x4), some (vi x5), some (vi x6)] [vi y0, vi y1] O).trans rfl
set_option maxRecDepth 100000 in
theorem sX7_build_136 (d : Nat) (O : Mem_) (x1 : Int32) (x2 : Int32) (x3 : Int32) (x4 : Int32) (x5 : Int32) (x6 : Int32) (y0 : Int32) : ex (d + 1) 207 136 [some (vr 7 0 0), some (vi x1), some (vi x2), some (vi x3), some (vi x4), some (vi x5), some (vi x6)] [vi y0] O =
if x4 = (nI 1) then
(ex (d + 1) 207 151 [some (vr 7 0 0), some (vi x1), some (vi x2), some (vi x3), some (vi x4), some (vi x5), some (vi x6), some (vi y0)] [] O)
else
(if x5 = x6 then
(ex (d + 1) 207 63 [some (vr 7 0 0), some (vi x1), some (vi x2), some (vi x3), some (vi x4), some (vi x5), some (vi (x6 + (nI 1)))] [] O)
else
(ex (d + 1) 207 151 [some (vr 7 0 0), some (vi x1), some (vi x2), some (vi x3), some (vi x4), some (vi x5), some (vi x6), some (vi y0)] [] O)) := (ex_un d 207 300 136 [some (vr 7 0 0), some (vi x1), some (vi x2), some (vi x3), some (vi x4), some (vi x5), some (vi x6)] [vi y0] O).trans rfl
set_option maxRecDepth 100000 in
theorem sX7_build_151 (d : Nat) (O : Mem_) (x1 : Int32) (x2 : Int32) (x3 : Int32) (x4 : Int32) (x5 : Int32) (x6 : Int32) (x7 : Int32) : ex (d + 1) 207 151 [some (vr 7 0 0), some (vi x1), some (vi x2), some (vi x3), some (vi x4), some (vi x5), some (vi x6), some (vi x7)] [] O =
if ib x1 12 then
(if x7 = (O 7 0 19 (Int32.toNatClampNeg x1)) then
(if x2 = nI 0 then
(some (x4, O))
else
(if x2 = (nI 1) then
(some (x5, O))
else
(if x4 = (nI 1) then
(some ((oI none), O))
else
(some (x6, O)))))
else
(ex (d + 1) 207 63 [some (vr 7 0 0), some (vi x1), some (vi x2), some (vi x3), some (vi x4), some (vi x5), some (vi (x6 + (nI 1)))] [] O))
else none := (ex_un d 207 300 151 [some (vr 7 0 0), some (vi x1), some (vi x2), some (vi x3), some (vi x4), some (vi x5), some (vi x6), some (vi x7)] [] O).trans rfl
set_option maxRecDepth 100000 in
theorem sX7_draw_0 (d : Nat) (O : Mem_) (x1 : Int32) : ex (d + 1) 208 0 [some (vr 7 0 0), some (vi x1)] [] O =
(ex d 189 0 [some (vr 7 0 0)] [] O).bind fun r0 =>
if r0.1 = nI 0 then
(some ((oI none), r0.2))
else
((ex d 189 0 [some (vr 7 0 0)] [] r0.2).bind fun r1 =>
if r1.1 = nI 0 then none else ex (d + 1) 208 34 [some (vr 7 0 0), none, some (vi (((((x1 * (nI 1103515245)) + (nI 12345)) >>> ((nI 16) &&& (31:Int32))) &&& (nI 32767)) - ((((x1 * (nI 1103515245)) + (nI 12345)) >>> ((nI 16) &&& (31:Int32))) &&& (nI 32767)) / r1.1 * r1.1)), some (vi (nI 0))] [] r1.2) := (ex_un d 208 300 0 [some (vr 7 0 0), some (vi x1)] [] O).trans rfl
set_option maxRecDepth 100000 in
theorem sX7_draw_34 (d : Nat) (O : Mem_) (x2 : Int32) (x3 : Int32) : ex (d + 1) 208 34 [some (vr 7 0 0), none, some (vi x2), some (vi x3)] [] O =
if ib (((nI 5) * x3) + (nI 4)) 30 then
(if x2 < (O 7 0 9 (Int32.toNatClampNeg (((nI 5) * x3) + (nI 4)))) then
(some (x3, O))
else
(if ib (((nI 5) * x3) + (nI 4)) 30 then
(ex (d + 1) 208 34 [some (vr 7 0 0), none, some (vi (x2 - (O 7 0 9 (Int32.toNatClampNeg (((nI 5) * x3) + (nI 4)))))), some (vi (x3 + (nI 1)))] [] O)
else none))
else none := (ex_un d 208 300 34 [some (vr 7 0 0), none, some (vi x2), some (vi x3)] [] O).trans rfl
set_option maxRecDepth 100000 in
theorem sX7_keep_0 (d : Nat) (O : Mem_) (x1 : Int32) : ex (d + 1) 209 0 [some (vr 7 0 0), some (vi x1)] [] O =
(ex d 121 0 [some (vl (Int32.toInt64 x1)), none, some (vl 0), none, some (vl 1), none] [] O).bind fun r0 =>
if r0.1 = nI 0 then
(some ((-1), r0.2))
else
(if ib x1 2 then
((ex d 122 0 [some (vi (r0.2 7 0 38 (Int32.toNatClampNeg x1)))] [] r0.2).bind fun r1 =>
if ib x1 2 then
(if (nI 1) = nI 0 ∨ (nI 1) = nI 1 then
(if ib ((nI 3) * x1) 6 then
(if ib (((nI 3) * x1) + (nI 1)) 6 then
(if ib (((nI 3) * x1) + (nI 2)) 6 then
(ex (d + 1) 209 71 [some (vr 7 0 0), some (vi x1), some (vi r1.1), some (vi (nI 0))] [] (up (up (up (up r1.2 7 0 38 (Int32.toNatClampNeg x1) (nI 1)) 7 0 39 (Int32.toNatClampNeg ((nI 3) * x1)) ((up r1.2 7 0 38 (Int32.toNatClampNeg x1) (nI 1)) 7 0 0 28)) 7 0 39 (Int32.toNatClampNeg (((nI 3) * x1) + (nI 1))) ((up (up r1.2 7 0 38 (Int32.toNatClampNeg x1) (nI 1)) 7 0 39 (Int32.toNatClampNeg ((nI 3) * x1)) ((up r1.2 7 0 38 (Int32.toNatClampNeg x1) (nI 1)) 7 0 0 28)) 7 0 0 33)) 7 0 39 (Int32.toNatClampNeg (((nI 3) * x1) + (nI 2))) ((up (up (up r1.2 7 0 38 (Int32.toNatClampNeg x1) (nI 1)) 7 0 39 (Int32.toNatClampNeg ((nI 3) * x1)) ((up r1.2 7 0 38 (Int32.toNatClampNeg x1) (nI 1)) 7 0 0 28)) 7 0 39 (Int32.toNatClampNeg (((nI 3) * x1) + (nI 1))) ((up (up r1.2 7 0 38 (Int32.toNatClampNeg x1) (nI 1)) 7 0 39 (Int32.toNatClampNeg ((nI 3) * x1)) ((up r1.2 7 0 38 (Int32.toNatClampNeg x1) (nI 1)) 7 0 0 28)) 7 0 0 33)) 7 0 0 34)))
else none)
else none)
else none)
else none)
else none)
else none) := (ex_un d 209 300 0 [some (vr 7 0 0), some (vi x1)] [] O).trans rfl
set_option maxRecDepth 100000 in
theorem sX7_keep_71 (d : Nat) (O : Mem_) (x1 : Int32) (x2 : Int32) (x3 : Int32) : ex (d + 1) 209 71 [some (vr 7 0 0), some (vi x1), some (vi x2), some (vi x3)] [] O =
if x3 < (nI 72) then
(if ib x3 72 then
(if ib (((nI 72) * x1) + x3) 144 then
(ex (d + 1) 209 71 [some (vr 7 0 0), some (vi x1), some (vi x2), some (vi (x3 + (nI 1)))] [] (up O 7 0 40 (Int32.toNatClampNeg (((nI 72) * x1) + x3)) (O 7 0 30 (Int32.toNatClampNeg x3))))
else none)
else none)
else
(ex (d + 1) 209 102 [some (vr 7 0 0), some (vi x1), some (vi x2), some (vi (nI 0))] [] O) := (ex_un d 209 300 71 [some (vr 7 0 0), some (vi x1), some (vi x2), some (vi x3)] [] O).trans rfl
set_option maxRecDepth 100000 in
theorem sX7_keep_102 (d : Nat) (O : Mem_) (x1 : Int32) (x2 : Int32) (x3 : Int32) : ex (d + 1) 209 102 [some (vr 7 0 0), some (vi x1), some (vi x2), some (vi x3)] [] O =
if x3 < (nI 12) then
(if ib x3 12 then
(if ib (((nI 24) * x1) + ((nI 2) * x3)) 48 then
(if ib x3 12 then
((ex d 122 0 [some (vi ((up O 7 0 41 (Int32.toNatClampNeg (((nI 24) * x1) + ((nI 2) * x3))) (O 7 0 36 (Int32.toNatClampNeg x3))) 7 0 37 (Int32.toNatClampNeg x3)))] [] (up O 7 0 41 (Int32.toNatClampNeg (((nI 24) * x1) + ((nI 2) * x3))) (O 7 0 36 (Int32.toNatClampNeg x3)))).bind fun r0 =>
if ib ((((nI 24) * x1) + ((nI 2) * x3)) + (nI 1)) 48 then
(ex (d + 1) 209 102 [some (vr 7 0 0), some (vi x1), some (vi x2), some (vi (x3 + (nI 1)))] [] (up r0.2 7 0 41 (Int32.toNatClampNeg ((((nI 24) * x1) + ((nI 2) * x3)) + (nI 1))) r0.1))
else none)
else none)
else none)
else none)
else
(some (x2, O)) := (ex_un d 209 300 102 [some (vr 7 0 0), some (vi x1), some (vi x2), some (vi x3)] [] O).trans rfl
set_option maxRecDepth 100000 in
theorem sX7_back_0 (d : Nat) (O : Mem_) (x1 : Int32) : ex (d + 1) 210 0 [some (vr 7 0 0), some (vi x1)] [] O =
(ex d 121 0 [some (vl (Int32.toInt64 x1)), none, some (vl 0), none, some (vl 1), none] [] O).bind fun r0 =>
if r0.1 = nI 0 then
(some ((-1), r0.2))
else
(if ib x1 2 then
(if (r0.2 7 0 38 (Int32.toNatClampNeg x1)) = nI 0 then
(some ((-2), r0.2))
else
(if ib ((nI 3) * x1) 6 then
(if ib (((nI 3) * x1) + (nI 1)) 6 then
(if ib (((nI 3) * x1) + (nI 2)) 6 then
(ex (d + 1) 210 66 [some (vr 7 0 0), some (vi x1), some (vi (nI 0))] [] (up (up (up r0.2 7 0 0 28 (r0.2 7 0 39 (Int32.toNatClampNeg ((nI 3) * x1)))) 7 0 0 33 ((up r0.2 7 0 0 28 (r0.2 7 0 39 (Int32.toNatClampNeg ((nI 3) * x1)))) 7 0 39 (Int32.toNatClampNeg (((nI 3) * x1) + (nI 1))))) 7 0 0 34 ((up (up r0.2 7 0 0 28 (r0.2 7 0 39 (Int32.toNatClampNeg ((nI 3) * x1)))) 7 0 0 33 ((up r0.2 7 0 0 28 (r0.2 7 0 39 (Int32.toNatClampNeg ((nI 3) * x1)))) 7 0 39 (Int32.toNatClampNeg (((nI 3) * x1) + (nI 1))))) 7 0 39 (Int32.toNatClampNeg (((nI 3) * x1) + (nI 2))))))
else none)
else none)
else none))
else none) := (ex_un d 210 300 0 [some (vr 7 0 0), some (vi x1)] [] O).trans rfl
set_option maxRecDepth 100000 in
theorem sX7_back_66 (d : Nat) (O : Mem_) (x1 : Int32) (x2 : Int32) : ex (d + 1) 210 66 [some (vr 7 0 0), some (vi x1), some (vi x2)] [] O =
if x2 < (nI 72) then
(if ib (((nI 72) * x1) + x2) 144 then
(if ib x2 72 then
(ex (d + 1) 210 66 [some (vr 7 0 0), some (vi x1), some (vi (x2 + (nI 1)))] [] (up O 7 0 30 (Int32.toNatClampNeg x2) (O 7 0 40 (Int32.toNatClampNeg (((nI 72) * x1) + x2)))))
else none)
else none)
else
(ex (d + 1) 210 97 [some (vr 7 0 0), some (vi x1), some (vi (nI 0))] [] O) := (ex_un d 210 300 66 [some (vr 7 0 0), some (vi x1), some (vi x2)] [] O).trans rfl
set_option maxRecDepth 100000 in
theorem sX7_back_97 (d : Nat) (O : Mem_) (x1 : Int32) (x2 : Int32) : ex (d + 1) 210 97 [some (vr 7 0 0), some (vi x1), some (vi x2)] [] O =
if x2 < (nI 12) then
(if ib (((nI 24) * x1) + ((nI 2) * x2)) 48 then
(if ib x2 12 then
(if ib ((((nI 24) * x1) + ((nI 2) * x2)) + (nI 1)) 48 then
(if ((up O 7 0 36 (Int32.toNatClampNeg x2) (O 7 0 41 (Int32.toNatClampNeg (((nI 24) * x1) + ((nI 2) * x2))))) 7 0 41 (Int32.toNatClampNeg ((((nI 24) * x1) + ((nI 2) * x2)) + (nI 1)))) = (nI 1) then
(if ib x2 12 then
(ex (d + 1) 210 97 [some (vr 7 0 0), some (vi x1), some (vi (x2 + (nI 1)))] [] (up (up O 7 0 36 (Int32.toNatClampNeg x2) (O 7 0 41 (Int32.toNatClampNeg (((nI 24) * x1) + ((nI 2) * x2))))) 7 0 37 (Int32.toNatClampNeg x2) (nI 1)))
else none)
else
(if ib x2 12 then
(ex (d + 1) 210 97 [some (vr 7 0 0), some (vi x1), some (vi (x2 + (nI 1)))] [] (up (up O 7 0 36 (Int32.toNatClampNeg x2) (O 7 0 41 (Int32.toNatClampNeg (((nI 24) * x1) + ((nI 2) * x2))))) 7 0 37 (Int32.toNatClampNeg x2) (nI 0)))
else none))
else none)
else none)
else none)
else
((ex d 162 0 [some (vr 7 0 0)] [] O).bind fun r0 =>
some ((r0.2 7 0 0 28), r0.2)) := (ex_un d 210 300 97 [some (vr 7 0 0), some (vi x1), some (vi x2)] [] O).trans rfl
set_option maxRecDepth 100000 in
theorem sX7_isSheet_0 (d : Nat) (O : Mem_) (x0 : Int32) (x1 : Int32) : ex (d + 1) 211 0 [some (vi x0), some (vi x1)] [] O =
(ex d 121 0 [some (vl (Int32.toInt64 x0)), none, some (vl 0), none, some (vl (3)), none] [] O).bind fun r0 =>
if r0.1 = nI 0 then
(some ((nI 0), r0.2))
else
((ex d 121 0 [some (vl (Int32.toInt64 x1)), none, some (vl 0), none, some (vl (2)), none] [] r0.2).bind fun r1 =>
if r1.1 = nI 0 then
(some ((nI 0), r1.2))
else
(some ((nI 1), r1.2))) := (ex_un d 211 300 0 [some (vi x0), some (vi x1)] [] O).trans rfl
set_option maxRecDepth 100000 in
theorem sX7_sheet_0 (d : Nat) (O : Mem_) (x1 : Int32) (x2 : Int32) (x3 : Int32) : ex (d + 1) 212 0 [some (vr 7 0 0), some (vi x1), some (vi x2), some (vi x3)] [] O =
(ex d 211 0 [some (vi x1), some (vi x2)] [] O).bind fun r0 =>
if r0.1 = nI 0 then
(some ((-1), r0.2))
else
(if (nI 40) < x3 then
(some ((-1), r0.2))
else
(if x3 < nI 0 then
(some ((-14), r0.2))
else
(if ib x1 4 then
(if ib x1 4 then
(ex (d + 1) 212 40 [some (vr 7 0 0), some (vi x1), none, none, some (vi (nI 0))] [] (up (up r0.2 7 0 42 (Int32.toNatClampNeg x1) x2) 7 0 43 (Int32.toNatClampNeg x1) x3))
else none)
else none))) := (ex_un d 212 300 0 [some (vr 7 0 0), some (vi x1), some (vi x2), some (vi x3)] [] O).trans rfl
set_option maxRecDepth 100000 in
theorem sX7_sheet_40 (d : Nat) (O : Mem_) (x1 : Int32) (x4 : Int32) : ex (d + 1) 212 40 [some (vr 7 0 0), some (vi x1), none, none, some (vi x4)] [] O =
if x4 < (nI 40) then
(if ib (((nI 40) * x1) + x4) 160 then
(ex (d + 1) 212 40 [some (vr 7 0 0), some (vi x1), none, none, some (vi (x4 + (nI 1)))] [] (up O 7 0 44 (Int32.toNatClampNeg (((nI 40) * x1) + x4)) (nI 0)))
else none)
else
(some ((nI 1), O)) := (ex_un d 212 300 40 [some (vr 7 0 0), some (vi x1), none, none, some (vi x4)] [] O).trans rfl
set_option maxRecDepth 100000 in
theorem sX7_lay_0 (d : Nat) (O : Mem_) (x1 : Int32) (x2 : Int32) (x3 : Int32) : ex (d + 1) 213 0 [some (vr 7 0 0), some (vi x1), some (vi x2), some (vi x3)] [] O =
(ex d 211 0 [some (vi x1), some (vi (nI 0))] [] O).bind fun r0 =>
if r0.1 = nI 0 then
(some ((-1), r0.2))
else
(if ib x1 4 then
(if (r0.2 7 0 42 (Int32.toNatClampNeg x1)) = (oI none) then
(some ((-11), r0.2))
else
(if ib x1 4 then
((ex d 121 0 [some (vl (Int32.toInt64 x2)), none, some (vl 0), none, some (vl (Int32.toInt64 ((r0.2 7 0 43 (Int32.toNatClampNeg x1)) - (nI 1)))), none] [] r0.2).bind fun r1 =>
if r1.1 = nI 0 then
(some ((-12), r1.2))
else
(if ib x1 4 then
(if (r1.2 7 0 42 (Int32.toNatClampNeg x1)) = nI 0 then
(if ib (((nI 40) * x1) + x2) 160 then
(some ((nI 1), (up r1.2 7 0 44 (Int32.toNatClampNeg (((nI 40) * x1) + x2)) ((Int32.toInt8 x3).toInt32))))
else none)
else
(if ib x1 4 then
(if (r1.2 7 0 42 (Int32.toNatClampNeg x1)) = (nI 1) then
(if ib (((nI 40) * x1) + x2) 160 then
(some ((nI 1), (up r1.2 7 0 44 (Int32.toNatClampNeg (((nI 40) * x1) + x2)) ((Int32.toInt16 x3).toInt32))))
else none)
else
(if ib (((nI 40) * x1) + x2) 160 then
(some ((nI 1), (up r1.2 7 0 44 (Int32.toNatClampNeg (((nI 40) * x1) + x2)) x3)))
else none))
else none))
else none))
else none))
else none) := (ex_un d 213 300 0 [some (vr 7 0 0), some (vi x1), some (vi x2), some (vi x3)] [] O).trans rfl
set_option maxRecDepth 100000 in
theorem sX7_read_0 (d : Nat) (O : Mem_) (x1 : Int32) (x2 : Int32) (x3 : Int32) (x4 : Int32) : ex (d + 1) 214 0 [some (vr 7 0 0), some (vi x1), some (vi x2), some (vi x3), some (vi x4)] [] O =
(ex d 211 0 [some (vi x1), some (vi x2)] [] O).bind fun r0 =>
if r0.1 = nI 0 then
(some ((-1), r0.2))
else
((ex d 121 0 [some (vl (Int32.toInt64 x4)), none, some (vl 0), none, some (vl (13)), none] [] r0.2).bind fun r1 =>
if r1.1 = nI 0 then
(some ((-1), r1.2))
else
(ex (d + 1) 214 32 [some (vr 7 0 0), some (vi x1), some (vi x2), some (vi x3), some (vi x4), some (vi (nI 0)), some (vi (nI 0)), some (vi (nI 0))] [] r1.2)) := (ex_un d 214 300 0 [some (vr 7 0 0), some (vi x1), some (vi x2), some (vi x3), some (vi x4)] [] O).trans rfl
set_option maxRecDepth 100000 in
theorem sX7_read_32 (d : Nat) (O : Mem_) (x1 : Int32) (x2 : Int32) (x3 : Int32) (x4 : Int32) (x5 : Int32) (x6 : Int32) (x7 : Int32) : ex (d + 1) 214 32 [some (vr 7 0 0), some (vi x1), some (vi x2), some (vi x3), some (vi x4), some (vi x5), some (vi x6), some (vi x7)] [] O =
if x7 < x4 then
(if x5 = nI 0 then
(ex (d + 1) 214 47 [some (vr 7 0 0), some (vi x1), some (vi x2), some (vi x3), some (vi x4), some (vi x5), some (vi x6), some (vi x7), some (vi (nI 0))] [] O)
else
(ex (d + 1) 214 239 [some (vr 7 0 0), some (vi x1), none, some (vi x3), none, none, some (vi x6), some (vi (nI 0))] [] (up O 7 0 0 44 x5)))
else
(ex (d + 1) 214 239 [some (vr 7 0 0), some (vi x1), none, some (vi x3), none, none, some (vi x6), some (vi (nI 0))] [] (up O 7 0 0 44 x5)) := (ex_un d 214 300 32 [some (vr 7 0 0), some (vi x1), some (vi x2), some (vi x3), some (vi x4), some (vi x5), some (vi x6), some (vi x7)] [] O).trans rfl
set_option maxRecDepth 100000 in
theorem sX7_read_47 (d : Nat) (O : Mem_) (x1 : Int32) (x2 : Int32) (x3 : Int32) (x4 : Int32) (x5 : Int32) (x6 : Int32) (x7 : Int32) (x8 : Int32) : ex (d + 1) 214 47 [some (vr 7 0 0), some (vi x1), some (vi x2), some (vi x3), some (vi x4), some (vi x5), some (vi x6), some (vi x7), some (vi x8)] [] O =
if x8 < (nI 3) then
(if x5 = nI 0 then
(if ib x1 4 then
(if (O 7 0 42 (Int32.toNatClampNeg x1)) = (oI none) then
(ex (d + 1) 214 47 [some (vr 7 0 0), some (vi x1), some (vi x2), some (vi x3), some (vi x4), some (vi (nI 1)), some (vi x6), some (vi x7), some (vi (x8 + (nI 1)))] [] O)
else
(if ib x1 4 then
(if (O 7 0 42 (Int32.toNatClampNeg x1)) = x2 then
(if (lg_cmp (((Int32.toInt64 x3) + (Int32.toInt64 ((nI 3) * x7))) + (Int32.toInt64 x8)) 0) < nI 0 then
(ex (d + 1) 214 47 [some (vr 7 0 0), some (vi x1), some (vi x2), some (vi x3), some (vi x4), some (vi (nI 2)), some (vi x6), some (vi x7), some (vi (x8 + (nI 1)))] [] O)
else
(if ib x1 4 then
(if (lg_cmp (((Int32.toInt64 x3) + (Int32.toInt64 ((nI 3) * x7))) + (Int32.toInt64 x8)) (Int32.toInt64 (O 7 0 43 (Int32.toNatClampNeg x1)))) < nI 0 then
(ex (d + 1) 214 47 [some (vr 7 0 0), some (vi x1), some (vi x2), some (vi x3), some (vi x4), some (vi (nI 0)), some (vi x6), some (vi x7), some (vi (x8 + (nI 1)))] [] O)
else
(ex (d + 1) 214 47 [some (vr 7 0 0), some (vi x1), some (vi x2), some (vi x3), some (vi x4), some (vi (nI 2)), some (vi x6), some (vi x7), some (vi (x8 + (nI 1)))] [] O))
else none))
else
(ex (d + 1) 214 47 [some (vr 7 0 0), some (vi x1), some (vi x2), some (vi x3), some (vi x4), some (vi (nI 3)), some (vi x6), some (vi x7), some (vi (x8 + (nI 1)))] [] O))
else none))
else none)
else
(ex (d + 1) 214 134 [some (vr 7 0 0), some (vi x1), some (vi x2), some (vi x3), some (vi x4), some (vi x5), some (vi x6), some (vi x7)] [] O))
else
(ex (d + 1) 214 134 [some (vr 7 0 0), some (vi x1), some (vi x2), some (vi x3), some (vi x4), some (vi x5), some (vi x6), some (vi x7)] [] O) := (ex_un d 214 300 47 [some (vr 7 0 0), some (vi x1), some (vi x2), some (vi x3), some (vi x4), some (vi x5), some (vi x6), some (vi x7), some (vi x8)] [] O).trans rfl
set_option maxRecDepth 100000 in
theorem sX7_read_134 (d : Nat) (O : Mem_) (x1 : Int32) (x2 : Int32) (x3 : Int32) (x4 : Int32) (x5 : Int32) (x6 : Int32) (x7 : Int32) : ex (d + 1) 214 134 [some (vr 7 0 0), some (vi x1), some (vi x2), some (vi x3), some (vi x4), some (vi x5), some (vi x6), some (vi x7)] [] O =
if x5 = nI 0 then
(if ib ((((nI 40) * x1) + x3) + ((nI 3) * x7)) 160 then
((ex d 143 0 [some (vr 7 0 0), some (vi (O 7 0 44 (Int32.toNatClampNeg ((((nI 40) * x1) + x3) + ((nI 3) * x7)))))] [] O).bind fun r0 =>
if r0.1 = nI 0 then
(some (((-20) - x7), r0.2))
else
(if ib (((((nI 40) * x1) + x3) + ((nI 3) * x7)) + (nI 1)) 160 then
((ex d 142 0 [some (vr 7 0 0), some (vi (r0.2 7 0 44 (Int32.toNatClampNeg (((((nI 40) * x1) + x3) + ((nI 3) * x7)) + (nI 1)))))] [] r0.2).bind fun r1 =>
if r1.1 = nI 0 then
(some (((-20) - x7), r1.2))
else
(if ib (((((nI 40) * x1) + x3) + ((nI 3) * x7)) + (nI 2)) 160 then
((ex d 121 0 [some (vl (Int32.toInt64 (r1.2 7 0 44 (Int32.toNatClampNeg (((((nI 40) * x1) + x3) + ((nI 3) * x7)) + (nI 2)))))), none, some (vl 0), none, some (vl 1), none] [] r1.2).bind fun r2 =>
if r2.1 = nI 0 then
(some (((-20) - x7), r2.2))
else
(if ((r2.2 7 0 0 28) + x6) = (nI 24) then
(some ((-3), r2.2))
else
(ex (d + 1) 214 32 [some (vr 7 0 0), some (vi x1), some (vi x2), some (vi x3), some (vi x4), some (vi x5), some (vi (x6 + (nI 1))), some (vi (x7 + (nI 1)))] [] r2.2)))
else none))
else none))
else none)
else
(ex (d + 1) 214 32 [some (vr 7 0 0), some (vi x1), some (vi x2), some (vi x3), some (vi x4), some (vi x5), some (vi x6), some (vi (x7 + (nI 1)))] [] O) := (ex_un d 214 300 134 [some (vr 7 0 0), some (vi x1), some (vi x2), some (vi x3), some (vi x4), some (vi x5), some (vi x6), some (vi x7)] [] O).trans rfl
set_option maxRecDepth 100000 in
theorem sX7_read_239 (d : Nat) (O : Mem_) (x1 : Int32) (x3 : Int32) (x6 : Int32) (x7 : Int32) : ex (d + 1) 214 239 [some (vr 7 0 0), some (vi x1), none, some (vi x3), none, none, some (vi x6), some (vi x7)] [] O =
if x7 < x6 then
(if ib ((((nI 40) * x1) + x3) + ((nI 3) * x7)) 160 then
(if ib (((((nI 40) * x1) + x3) + ((nI 3) * x7)) + (nI 1)) 160 then
(if ib (((((nI 40) * x1) + x3) + ((nI 3) * x7)) + (nI 2)) 160 then
(if (O 7 0 44 (Int32.toNatClampNeg (((((nI 40) * x1) + x3) + ((nI 3) * x7)) + (nI 2)))) = (nI 1) then
(ex (d + 1) 214 294 [some (vr 7 0 0), some (vi x1), none, some (vi x3), none, none, some (vi x6), some (vi x7)] [vi (nI 1), vi (O 7 0 44 (Int32.toNatClampNeg (((((nI 40) * x1) + x3) + ((nI 3) * x7)) + (nI 1)))), vi (O 7 0 44 (Int32.toNatClampNeg ((((nI 40) * x1) + x3) + ((nI 3) * x7)))), vr 7 0 0] O)
else
(ex (d + 1) 214 294 [some (vr 7 0 0), some (vi x1), none, some (vi x3), none, none, some (vi x6), some (vi x7)] [vi (nI 0), vi (O 7 0 44 (Int32.toNatClampNeg (((((nI 40) * x1) + x3) + ((nI 3) * x7)) + (nI 1)))), vi (O 7 0 44 (Int32.toNatClampNeg ((((nI 40) * x1) + x3) + ((nI 3) * x7)))), vr 7 0 0] O))
else none)
else none)
else none)
else
(some (x6, O)) := (ex_un d 214 300 239 [some (vr 7 0 0), some (vi x1), none, some (vi x3), none, none, some (vi x6), some (vi x7)] [] O).trans rfl
set_option maxRecDepth 100000 in
theorem sX7_read_294 (d : Nat) (O : Mem_) (x1 : Int32) (x3 : Int32) (x6 : Int32) (x7 : Int32) (y0 : Int32) (y1 : Int32) (y2 : Int32) : ex (d + 1) 214 294 [some (vr 7 0 0), some (vi x1), none, some (vi x3), none, none, some (vi x6), some (vi x7)] [vi y0, vi y1, vi y2, vr 7 0 0] O =
(ex d 163 0 [some (vr 7 0 0), some (vi y2), some (vi y1), some (vi y0)] [] O).bind fun r0 =>
ex (d + 1) 214 239 [some (vr 7 0 0), some (vi x1), none, some (vi x3), none, none, some (vi x6), some (vi (x7 + (nI 1)))] [] r0.2 := (ex_un d 214 300 294 [some (vr 7 0 0), some (vi x1), none, some (vi x3), none, none, some (vi x6), some (vi x7)] [vi y0, vi y1, vi y2, vr 7 0 0] O).trans rfl
set_option maxRecDepth 100000 in
theorem sX7_torn_0 (d : Nat) (O : Mem_)  : ex (d + 1) 215 0 [some (vr 7 0 0)] [] O =
some ((O 7 0 0 44), O) := (ex_un d 215 300 0 [some (vr 7 0 0)] [] O).trans rfl
set_option maxRecDepth 100000 in
theorem sX7_count_0 (d : Nat) (O : Mem_) (x1 : Int32) : ex (d + 1) 216 0 [some (vr 7 0 0), some (vi x1)] [] O =
if x1 = (nI 0) then
(some ((O 7 0 0 0), O))
else if x1 = (nI 1) then
(some ((O 7 0 0 2), O))
else if x1 = (nI 2) then
(some ((O 7 0 0 5), O))
else if x1 = (nI 3) then
(some ((O 7 0 0 7), O))
else if x1 = (nI 4) then
(some ((O 7 0 0 28), O))
else if x1 = (nI 5) then
(some ((O 7 0 0 34), O))
else if x1 = (nI 6) then
(if ib (nI 0) 2 then
((ex d 122 0 [some (vi (O 7 0 38 (Int32.toNatClampNeg (nI 0))))] [] O).bind fun r0 =>
if ib (nI 1) 2 then
((ex d 122 0 [some (vi (r0.2 7 0 38 (Int32.toNatClampNeg (nI 1))))] [] r0.2).bind fun r1 =>
some ((r0.1 + r1.1), r1.2))
else none)
else none)
else if x1 = (nI 7) then
(some ((O 7 0 0 20), O))
else if x1 = (nI 8) then
(if ib (nI 0) 4 then
(if (O 7 0 42 (Int32.toNatClampNeg (nI 0))) = (oI none) then
(some ((oI none), O))
else
(if ib (nI 0) 4 then
(some ((O 7 0 43 (Int32.toNatClampNeg (nI 0))), O))
else none))
else none)
else 
(some ((-1), O)) := (ex_un d 216 300 0 [some (vr 7 0 0), some (vi x1)] [] O).trans rfl
