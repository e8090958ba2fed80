set_option maxRecDepth 100000 in
theorem sX6_feed_0 (d : Nat) (O : Mem_) (x1 : Int64) : ex (d + 1) 67 0 [some (vr 6 0 0), some (vl x1), none] [] O =
if (nI 392) < (O 3 0 0 1) then
(some ((-3), O))
else
(ex (d + 1) 67 19 [some (vr 6 0 0), some (vl x1), none, some (vi (nI 7))] [] O) := (ex_un d 67 300 0 [some (vr 6 0 0), some (vl x1), none] [] O).trans rfl
set_option maxRecDepth 100000 in
theorem sX6_feed_19 (d : Nat) (O : Mem_) (x1 : Int64) (x3 : Int32) : ex (d + 1) 67 19 [some (vr 6 0 0), some (vl x1), none, some (vi x3)] [] O =
if x3 < nI 0 then
(some ((O 3 0 0 1), O))
else
((ex d 20 0 [some (vr 3 0 0), some (vi ((Int64.toInt32 (((Int64.toUInt64 x1) >>> ((Int32.toInt64 ((nI 8) * x3)).toUInt64 &&& Int64.toUInt64 63)).toInt64)) &&& (nI 255)))] [] O).bind fun r0 =>
ex (d + 1) 67 19 [some (vr 6 0 0), some (vl x1), none, some (vi (x3 + (-1)))] [] r0.2) := (ex_un d 67 300 19 [some (vr 6 0 0), some (vl x1), none, some (vi x3)] [] O).trans rfl
set_option maxRecDepth 100000 in
theorem sX6_end_0 (d : Nat) (O : Mem_) (x1 : Int32) : ex (d + 1) 68 0 [some (vr 6 0 0), some (vi x1)] [] O =
if x1 < nI 0 then
(some ((-1), O))
else
(if (O 3 0 0 1) < x1 then
(some ((-1), O))
else
(some ((O 3 0 0 1), (up O 3 0 0 1 x1)))) := (ex_un d 68 300 0 [some (vr 6 0 0), some (vi x1)] [] O).trans rfl
set_option maxRecDepth 100000 in
theorem sX6_text_0 (d : Nat) (O : Mem_)  : ex (d + 1) 69 0 [some (vr 6 0 0)] [] O =
(ex d 21 0 [some (vr 3 0 0), some (vr 4 (sel (O 6 0 0 2)) 0)] [] O).bind fun r0 =>
if r0.1 = nI 0 then
(some (((-10) - ((up r0.2 3 0 0 1 (nI 0)) 3 0 0 3)), (up r0.2 3 0 0 1 (nI 0))))
else
(ex (d + 1) 69 55 [some (vr 6 0 0), none, none, some (vi (nI 0))] [] (up (up (up r0.2 3 0 0 1 (nI 0)) 6 0 0 1 (nI (sel ((up r0.2 3 0 0 1 (nI 0)) 6 0 0 2)))) 6 0 0 2 (nI (sel ((up r0.2 3 0 0 1 (nI 0)) 6 0 0 1))))) := (ex_un d 69 300 0 [some (vr 6 0 0)] [] O).trans rfl
set_option maxRecDepth 100000 in
theorem sX6_text_55 (d : Nat) (O : Mem_) (x3 : Int32) : ex (d + 1) 69 55 [some (vr 6 0 0), none, none, some (vi x3)] [] O =
if x3 < (nI 2) then
(if ib x3 2 then
(ex (d + 1) 69 55 [some (vr 6 0 0), none, none, some (vi (x3 + (nI 1)))] [] (up O 1 (1 + (Int32.toNatClampNeg x3)) 0 8 (nI 0)))
else none)
else
((ex d 13 0 [some (vr 1 0 0), some (vr 4 (sel (O 6 0 0 1)) 0)] [] O).bind fun r0 =>
(ex d 0 0 [some (vr 0 0 0), some (vr 4 (sel (r0.2 6 0 0 1)) 0)] [] r0.2).bind fun r1 =>
some ((r1.2 3 0 0 4), r1.2)) := (ex_un d 69 300 55 [some (vr 6 0 0), none, none, some (vi x3)] [] O).trans rfl
set_option maxRecDepth 100000 in
theorem sX6_thing_0 (d : Nat) (O : Mem_) (x1 : Int32) : ex (d + 1) 71 0 [some (vr 6 0 0), some (vi x1)] [] O =
(ex d 43 0 [some (vr 4 (sel (O 6 0 0 1)) 0), some (vi x1)] [] O).bind fun r0 =>
if r0.1 = nI 0 then
(some ((-1), r0.2))
else
(if ib x1 8 then
(some ((r0.2 4 (sel (r0.2 6 0 0 1)) 5 (Int32.toNatClampNeg x1)), r0.2))
else none) := (ex_un d 71 300 0 [some (vr 6 0 0), some (vi x1)] [] O).trans rfl
set_option maxRecDepth 100000 in
theorem sX6_meaning_0 (d : Nat) (O : Mem_) (x1 : Int32) (x2 : Int32) : ex (d + 1) 72 0 [some (vr 6 0 0), some (vi x1), some (vi x2)] [] O =
(ex d 44 0 [some (vr 4 (sel (O 6 0 0 1)) 0), some (vi x1)] [] O).bind fun r0 =>
if r0.1 = nI 0 then
(some ((-1), r0.2))
else
(if x2 = (nI 0) then
(if ib x1 12 then
(some ((r0.2 4 (sel (r0.2 6 0 0 1)) 7 (Int32.toNatClampNeg x1)), r0.2))
else none)
else if x2 = (nI 1) then
(if ib x1 12 then
(some ((r0.2 4 (sel (r0.2 6 0 0 1)) 8 (Int32.toNatClampNeg x1)), r0.2))
else none)
else if x2 = (nI 2) then
(if ib x1 12 then
(some ((r0.2 4 (sel (r0.2 6 0 0 1)) 9 (Int32.toNatClampNeg x1)), r0.2))
else none)
else if x2 = (nI 3) then
(if ib x1 12 then
(some ((r0.2 4 (sel (r0.2 6 0 0 1)) 10 (Int32.toNatClampNeg x1)), r0.2))
else none)
else if x2 = (nI 4) then
((ex d 56 0 [some (vr 4 (sel (r0.2 6 0 0 1)) 0), some (vi x1)] [] r0.2).bind fun r1 =>
some (r1.1, r1.2))
else 
(some ((-1), r0.2))) := (ex_un d 72 300 0 [some (vr 6 0 0), some (vi x1), some (vi x2)] [] O).trans rfl
set_option maxRecDepth 100000 in
theorem sX6_word_0 (d : Nat) (O : Mem_) (x1 : Int32) : ex (d + 1) 73 0 [some (vr 6 0 0), some (vi x1)] [] O =
(ex d 45 0 [some (vr 4 (sel (O 6 0 0 1)) 0), some (vi x1)] [] O).bind fun r0 =>
if r0.1 = nI 0 then
(some ((-1), r0.2))
else
(if ib x1 4 then
(some ((r0.2 4 (sel (r0.2 6 0 0 1)) 13 (Int32.toNatClampNeg x1)), r0.2))
else none) := (ex_un d 73 300 0 [some (vr 6 0 0), some (vi x1)] [] O).trans rfl
set_option maxRecDepth 100000 in
theorem sX6_kind_0 (d : Nat) (O : Mem_) (x1 : Int32) (x2 : Int32) : ex (d + 1) 74 0 [some (vr 6 0 0), some (vi x1), some (vi x2)] [] O =
(ex d 46 0 [some (vr 4 (sel (O 6 0 0 1)) 0), some (vi x1)] [] O).bind fun r0 =>
if r0.1 = nI 0 then
(some ((-1), r0.2))
else
(if x2 = (nI 0) then
(if ib x1 6 then
(some ((r0.2 4 (sel (r0.2 6 0 0 1)) 14 (Int32.toNatClampNeg x1)), r0.2))
else none)
else if x2 = (nI 1) then
(if ib x1 6 then
(some ((r0.2 4 (sel (r0.2 6 0 0 1)) 15 (Int32.toNatClampNeg x1)), r0.2))
else none)
else if x2 = (nI 2) then
(if ib x1 6 then
(some ((r0.2 4 (sel (r0.2 6 0 0 1)) 16 (Int32.toNatClampNeg x1)), r0.2))
else none)
else if x2 = (nI 3) then
(if ib x1 6 then
(if (r0.2 4 (sel (r0.2 6 0 0 1)) 17 (Int32.toNatClampNeg x1)) = nI 0 then
(some ((nI 0), r0.2))
else
(some ((nI 1), r0.2)))
else none)
else if x2 = (nI 4) then
(if ib x1 6 then
(some ((r0.2 4 (sel (r0.2 6 0 0 1)) 18 (Int32.toNatClampNeg x1)), r0.2))
else none)
else if x2 = (nI 5) then
(if ib x1 6 then
(some ((r0.2 4 (sel (r0.2 6 0 0 1)) 19 (Int32.toNatClampNeg x1)), r0.2))
else none)
else 
(some ((-1), r0.2))) := (ex_un d 74 300 0 [some (vr 6 0 0), some (vi x1), some (vi x2)] [] O).trans rfl
set_option maxRecDepth 100000 in
theorem sX6_show_0 (d : Nat) (O : Mem_) (x1 : Int32) (x2 : Int32) (x3 : Int32) : ex (d + 1) 75 0 [some (vr 6 0 0), some (vi x1), some (vi x2), some (vi x3)] [] O =
(ex d 45 0 [some (vr 4 (sel (O 6 0 0 1)) 0), some (vi x1)] [] O).bind fun r0 =>
if r0.1 = nI 0 then
(some ((-1), r0.2))
else
((ex d 43 0 [some (vr 4 (sel (r0.2 6 0 0 1)) 0), some (vi x2)] [] r0.2).bind fun r1 =>
if r1.1 = nI 0 then
(some ((-1), r1.2))
else
(if (r1.2 1 0 0 0) < (nI 24) then
((ex d 111 0 [some (vr 6 0 0), some (vi x1), some (vi x2), some (vi x3)] [] r1.2).bind fun r2 =>
some ((r2.2 1 0 0 0), r2.2))
else
(some ((-3), r1.2)))) := (ex_un d 75 300 0 [some (vr 6 0 0), some (vi x1), some (vi x2), some (vi x3)] [] O).trans rfl
set_option maxRecDepth 100000 in
theorem sX6_teach_0 (d : Nat) (O : Mem_) (x1 : Int32) (x2 : Int32) : ex (d + 1) 76 0 [some (vr 6 0 0), some (vi x1), some (vi x2)] [] O =
(ex d 55 0 [some (vr 4 (sel (O 6 0 0 1)) 0), some (vi x1), some (vi x2)] [] O).bind fun r0 =>
(ex d 75 0 [some (vr 6 0 0), some (vi x1), some (vi x2), some (vi r0.1)] [] r0.2).bind fun r1 =>
some (r1.1, r1.2) := (ex_un d 76 300 0 [some (vr 6 0 0), some (vi x1), some (vi x2)] [] O).trans rfl
set_option maxRecDepth 100000 in
theorem sX6_undo_0 (d : Nat) (O : Mem_)  : ex (d + 1) 77 0 [some (vr 6 0 0)] [] O =
if nI 0 < (O 1 0 0 0) then
((ex d 112 0 [some (vr 6 0 0)] [] (up O 1 0 0 0 ((O 1 0 0 0) - (nI 1)))).bind fun r0 =>
some ((r0.2 1 0 0 0), r0.2))
else
(some ((oI none), O)) := (ex_un d 77 300 0 [some (vr 6 0 0)] [] O).trans rfl
set_option maxRecDepth 100000 in
theorem sX6_clear_0 (d : Nat) (O : Mem_)  : ex (d + 1) 78 0 [some (vr 6 0 0)] [] O =
(ex d 50 0 [some (vr 4 (sel ((up O 1 0 0 0 (nI 0)) 6 0 0 1)) 0)] [] (up O 1 0 0 0 (nI 0))).bind fun r0 =>
(ex d 112 0 [some (vr 6 0 0)] [] (up r0.2 1 0 0 4 r0.1)).bind fun r1 =>
some ((O 1 0 0 0), r1.2) := (ex_un d 78 300 0 [some (vr 6 0 0)] [] O).trans rfl
set_option maxRecDepth 100000 in
theorem sX6_shown_0 (d : Nat) (O : Mem_) (x1 : Int32) (x2 : Int32) : ex (d + 1) 79 0 [some (vr 6 0 0), some (vi x1), some (vi x2)] [] O =
if x1 < nI 0 then
(some ((-1), O))
else
(if x1 < (O 1 0 0 0) then
(if x1 < (nI 24) then
(if x2 = (nI 0) then
(if ib x1 24 then
(some ((O 1 0 2 (Int32.toNatClampNeg x1)), O))
else none)
else if x2 = (nI 1) then
(if ib x1 24 then
(some ((O 1 0 3 (Int32.toNatClampNeg x1)), O))
else none)
else if x2 = (nI 2) then
(if ib x1 24 then
(if (O 1 0 4 (Int32.toNatClampNeg x1)) = nI 0 then
(some ((nI 0), O))
else
(some ((nI 1), O)))
else none)
else 
(some ((-1), O)))
else
(some ((-1), O)))
else
(some ((-1), O))) := (ex_un d 79 300 0 [some (vr 6 0 0), some (vi x1), some (vi x2)] [] O).trans rfl
set_option maxRecDepth 100000 in
theorem sX6_thinks_0 (d : Nat) (O : Mem_) (x1 : Int32) (x2 : Int32) : ex (d + 1) 80 0 [some (vr 6 0 0), some (vi x1), some (vi x2)] [] O =
(ex d 46 0 [some (vr 4 (sel (O 6 0 0 1)) 0), some (vi x1)] [] O).bind fun r0 =>
if r0.1 = nI 0 then
(some ((-1), r0.2))
else
((ex d 45 0 [some (vr 4 (sel (r0.2 6 0 0 1)) 0), some (vi x2)] [] r0.2).bind fun r1 =>
if r1.1 = nI 0 then
(some ((-1), r1.2))
else
((ex d 7 0 [some (vr 0 0 0), some (vi x1), some (vi x2)] [] r1.2).bind fun r2 =>
some (r2.1, r2.2))) := (ex_un d 80 300 0 [some (vr 6 0 0), some (vi x1), some (vi x2)] [] O).trans rfl
set_option maxRecDepth 100000 in
theorem sX6_fits_0 (d : Nat) (O : Mem_) (x1 : Int32) (x2 : Int32) : ex (d + 1) 81 0 [some (vr 6 0 0), some (vi x1), some (vi x2)] [] O =
(ex d 46 0 [some (vr 4 (sel (O 6 0 0 1)) 0), some (vi x1)] [] O).bind fun r0 =>
if r0.1 = nI 0 then
(some ((-1), r0.2))
else
((ex d 45 0 [some (vr 4 (sel (r0.2 6 0 0 1)) 0), some (vi x2)] [] r0.2).bind fun r1 =>
if r1.1 = nI 0 then
(some ((-1), r1.2))
else
(if ib x2 4 then
(if ib x1 6 then
(some (((r1.2 0 0 6 (Int32.toNatClampNeg x2)) &&& (r1.2 4 (sel (r1.2 6 0 0 1)) 19 (Int32.toNatClampNeg x1))), r1.2))
else none)
else none)) := (ex_un d 81 300 0 [some (vr 6 0 0), some (vi x1), some (vi x2)] [] O).trans rfl
set_option maxRecDepth 100000 in
theorem sX6_same_0 (d : Nat) (O : Mem_) (x1 : Int32) (x2 : Int32) : ex (d + 1) 82 0 [some (vr 6 0 0), some (vi x1), some (vi x2)] [] O =
(ex d 46 0 [some (vr 4 (sel (O 6 0 0 1)) 0), some (vi x1)] [] O).bind fun r0 =>
if r0.1 = nI 0 then
(some ((-1), r0.2))
else
((ex d 45 0 [some (vr 4 (sel (r0.2 6 0 0 1)) 0), some (vi x2)] [] r0.2).bind fun r1 =>
if r1.1 = nI 0 then
(some ((-1), r1.2))
else
((ex d 8 0 [some (vr 0 0 0), some (vr 4 (sel (r1.2 6 0 0 1)) 0), some (vi x1), some (vi x2)] [] r1.2).bind fun r2 =>
if r2.1 = nI 0 then
(some ((nI 0), r2.2))
else
(some ((nI 1), r2.2)))) := (ex_un d 82 300 0 [some (vr 6 0 0), some (vi x1), some (vi x2)] [] O).trans rfl
set_option maxRecDepth 100000 in
theorem sX6_fled_0 (d : Nat) (O : Mem_) (x1 : Int32) : ex (d + 1) 83 0 [some (vr 6 0 0), some (vi x1)] [] O =
(ex d 46 0 [some (vr 4 (sel (O 6 0 0 1)) 0), some (vi x1)] [] O).bind fun r0 =>
if r0.1 = nI 0 then
(some ((-1), r0.2))
else
(if ib x1 6 then
(some ((r0.2 0 0 5 (Int32.toNatClampNeg x1)), r0.2))
else none) := (ex_un d 83 300 0 [some (vr 6 0 0), some (vi x1)] [] O).trans rfl
set_option maxRecDepth 100000 in
theorem sX6_against_0 (d : Nat) (O : Mem_) (x1 : Int32) (x2 : Int32) : ex (d + 1) 84 0 [some (vr 6 0 0), some (vi x1), some (vi x2)] [] O =
(ex d 46 0 [some (vr 4 (sel (O 6 0 0 1)) 0), some (vi x1)] [] O).bind fun r0 =>
if r0.1 = nI 0 then
(some ((-1), r0.2))
else
((ex d 45 0 [some (vr 4 (sel (r0.2 6 0 0 1)) 0), some (vi x2)] [] r0.2).bind fun r1 =>
if r1.1 = nI 0 then
(some ((-1), r1.2))
else
(if ib ((x1 * (nI 4)) + x2) 24 then
(some ((r1.2 0 0 3 (Int32.toNatClampNeg ((x1 * (nI 4)) + x2))), r1.2))
else none)) := (ex_un d 84 300 0 [some (vr 6 0 0), some (vi x1), some (vi x2)] [] O).trans rfl
set_option maxRecDepth 100000 in
theorem sX6_common_0 (d : Nat) (O : Mem_) (x1 : Int32) : ex (d + 1) 85 0 [some (vr 6 0 0), some (vi x1)] [] O =
(ex d 47 0 [some (vr 4 (sel (O 6 0 0 1)) 0), some (vi x1)] [] O).bind fun r0 =>
if r0.1 = nI 0 then
(some ((-1), r0.2))
else
(ex (d + 1) 85 17 [some (vr 6 0 0), some (vi x1), some (vi (nI 0)), some (vi (nI 0))] [] r0.2) := (ex_un d 85 300 0 [some (vr 6 0 0), some (vi x1)] [] O).trans rfl
set_option maxRecDepth 100000 in
theorem sX6_common_17 (d : Nat) (O : Mem_) (x1 : Int32) (x2 : Int32) (x3 : Int32) : ex (d + 1) 85 17 [some (vr 6 0 0), some (vi x1), some (vi x2), some (vi x3)] [] O =
if x3 < (O 4 (sel (O 6 0 0 1)) 0 2) then
((ex d 9 0 [some (vr 0 0 0), some (vr 4 (sel (O 6 0 0 1)) 0), some (vi x1), some (vi x3)] [] O).bind fun r0 =>
if r0.1 = nI 0 then
(ex (d + 1) 85 17 [some (vr 6 0 0), some (vi x1), some (vi x2), some (vi (x3 + (nI 1)))] [] r0.2)
else
(ex (d + 1) 85 17 [some (vr 6 0 0), some (vi x1), some (vi (x2 ||| ((nI 1) <<< (x3 &&& (31:Int32))))), some (vi (x3 + (nI 1)))] [] r0.2))
else
(some (x2, O)) := (ex_un d 85 300 17 [some (vr 6 0 0), some (vi x1), some (vi x2), some (vi x3)] [] O).trans rfl
set_option maxRecDepth 100000 in
theorem sX6_answer_0 (d : Nat) (O : Mem_) (x1 : Int32) (x2 : Int32) (x3 : Int32) : ex (d + 1) 91 0 [some (vr 6 0 0), some (vi x1), some (vi x2), some (vi x3)] [] O =
(ex d 46 0 [some (vr 4 (sel (O 6 0 0 1)) 0), some (vi x1)] [] O).bind fun r0 =>
if r0.1 = nI 0 then
(some ((-1), r0.2))
else
((ex d 45 0 [some (vr 4 (sel (r0.2 6 0 0 1)) 0), some (vi x2)] [] r0.2).bind fun r1 =>
if r1.1 = nI 0 then
(some ((-1), r1.2))
else
((ex d 43 0 [some (vr 4 (sel (r1.2 6 0 0 1)) 0), some (vi x3)] [] r1.2).bind fun r2 =>
if r2.1 = nI 0 then
(some ((-1), r2.2))
else
((ex d 11 0 [some (vr 0 0 0), some (vr 4 (sel (r2.2 6 0 0 1)) 0), some (vi x1), some (vi x2), some (vi x3)] [] r2.2).bind fun r3 =>
some (r3.1, r3.2)))) := (ex_un d 91 300 0 [some (vr 6 0 0), some (vi x1), some (vi x2), some (vi x3)] [] O).trans rfl
set_option maxRecDepth 100000 in
theorem sX6_likely_0 (d : Nat) (O : Mem_) (x1 : Int32) (x2 : Int32) : ex (d + 1) 96 0 [some (vr 6 0 0), some (vi x1), some (vi x2)] [] O =
(ex d 45 0 [some (vr 4 (sel (O 6 0 0 1)) 0), some (vi x1)] [] O).bind fun r0 =>
if r0.1 = nI 0 then
(some ((-1), r0.2))
else
(if x2 < nI 0 then
(some ((-1), r0.2))
else
(if (nI 1) < x2 then
(some ((-1), r0.2))
else
((ex d 50 0 [some (vr 4 (sel (r0.2 6 0 0 1)) 0)] [] r0.2).bind fun r1 =>
(ex d 58 0 [some (vr 4 (sel (r0.2 6 0 0 1)) 0), some (vi r1.1)] [] r1.2).bind fun r2 =>
if r2.1 = nI 0 then
(some ((oI none), r2.2))
else
((ex d 10 0 [some (vr 0 0 0), some (vr 4 (sel (r2.2 6 0 0 1)) 0), some (vi x1)] [] r2.2).bind fun r3 =>
if x2 = (nI 1) then
((ex d 110 0 [some (vi r3.1), some (vi r2.1), some (vi (nI 1))] [] r3.2).bind fun r4 =>
some (r4.1, r4.2))
else
((ex d 110 0 [some (vi r3.1), some (vi r2.1), some (vi (nI 0))] [] r3.2).bind fun r5 =>
some (r5.1, r5.2)))))) := (ex_un d 96 300 0 [some (vr 6 0 0), some (vi x1), some (vi x2)] [] O).trans rfl
set_option maxRecDepth 100000 in
theorem sX6_keep_0 (d : Nat) (O : Mem_) (x1 : Int32) : ex (d + 1) 102 0 [some (vr 6 0 0), some (vi x1)] [] O =
if x1 < nI 0 then
(some ((-1), O))
else
(if x1 < (nI 2) then
(if ib x1 2 then
(if (O 1 (1 + (Int32.toNatClampNeg x1)) 0 8) = nI 0 then
(ex (d + 1) 102 28 [some (vr 6 0 0), some (vi x1)] [vi (nI 0)] O)
else
(ex (d + 1) 102 28 [some (vr 6 0 0), some (vi x1)] [vi (nI 1)] O))
else none)
else
(some ((-1), O))) := (ex_un d 102 300 0 [some (vr 6 0 0), some (vi x1)] [] O).trans rfl
set_option maxRecDepth 100000 in
theorem sX6_keep_28 (d : Nat) (O : Mem_) (x1 : Int32) (y0 : Int32) : ex (d + 1) 102 28 [some (vr 6 0 0), some (vi x1)] [vi y0] O =
if ib x1 2 then
((ex d 14 0 [some (vr 1 (1 + (Int32.toNatClampNeg x1)) 0), some (vr 1 0 0)] [] O).bind fun r0 =>
if ib x1 2 then
(some (y0, (up r0.2 1 (1 + (Int32.toNatClampNeg x1)) 0 8 (nI 1))))
else none)
else none := (ex_un d 102 300 28 [some (vr 6 0 0), some (vi x1)] [vi y0] O).trans rfl
set_option maxRecDepth 100000 in
theorem sX6_back_0 (d : Nat) (O : Mem_) (x1 : Int32) : ex (d + 1) 103 0 [some (vr 6 0 0), some (vi x1)] [] O =
if x1 < nI 0 then
(some ((-1), O))
else
(if x1 < (nI 2) then
(if ib x1 2 then
(if (O 1 (1 + (Int32.toNatClampNeg x1)) 0 8) = nI 0 then
(some ((-2), O))
else
(if ib x1 2 then
((ex d 14 0 [some (vr 1 0 0), some (vr 1 (1 + (Int32.toNatClampNeg x1)) 0)] [] O).bind fun r0 =>
(ex d 112 0 [some (vr 6 0 0)] [] r0.2).bind fun r1 =>
some ((r1.2 1 0 0 0), r1.2))
else none))
else none)
else
(some ((-1), O))) := (ex_un d 103 300 0 [some (vr 6 0 0), some (vi x1)] [] O).trans rfl
set_option maxRecDepth 100000 in
theorem sX6_count_0 (d : Nat) (O : Mem_) (x1 : Int32) : ex (d + 1) 108 0 [some (vr 6 0 0), some (vi x1)] [] O =
if x1 = (nI 0) then
(some ((O 4 (sel (O 6 0 0 1)) 0 0), O))
else if x1 = (nI 1) then
(some ((O 4 (sel (O 6 0 0 1)) 0 1), O))
else if x1 = (nI 2) then
(some ((O 4 (sel (O 6 0 0 1)) 0 2), O))
else if x1 = (nI 3) then
(some ((O 4 (sel (O 6 0 0 1)) 0 3), O))
else if x1 = (nI 4) then
(some ((O 1 0 0 0), O))
else if x1 = (nI 5) then
(some ((O 1 0 0 5), O))
else if x1 = (nI 6) then
((ex d 120 0 [some (vr 6 0 0)] [] O).bind fun r0 =>
some (r0.1, r0.2))
else if x1 = (nI 7) then
(some ((O 3 0 0 1), O))
else if x1 = (nI 8) then
(if ib (nI 0) 4 then
(some ((O 2 0 1 (Int32.toNatClampNeg (nI 0))), O))
else none)
else 
(some ((-1), O)) := (ex_un d 108 300 0 [some (vr 6 0 0), some (vi x1)] [] O).trans rfl
set_option maxRecDepth 100000 in
theorem sX6_isIn_0 (d : Nat) (O : Mem_) (x0 : Int32) (x1 : Int32) : ex (d + 1) 109 0 [some (vi x0), some (vi x1)] [] O =
if x0 < nI 0 then
(some ((nI 0), O))
else
(if x0 < (nI 31) then
(if ((x1 >>> (x0 &&& (31:Int32))) &&& (nI 1)) = (nI 1) then
(some ((nI 1), O))
else
(some ((nI 0), O)))
else
(some ((nI 0), O))) := (ex_un d 109 300 0 [some (vi x0), some (vi x1)] [] O).trans rfl
set_option maxRecDepth 100000 in
theorem sX6_ofLowestTerms_0 (d : Nat) (O : Mem_) (x0 : Int32) (x1 : Int32) (x2 : Int32) : ex (d + 1) 110 0 [some (vi x0), some (vi x1), some (vi x2)] [] O =
ex (d + 1) 110 8 [some (vi x0), some (vi x1), some (vi x2), some (vi x1), some (vi x0), some (vi (nI 0))] [] O := (ex_un d 110 300 0 [some (vi x0), some (vi x1), some (vi x2)] [] O).trans rfl
set_option maxRecDepth 100000 in
theorem sX6_ofLowestTerms_8 (d : Nat) (O : Mem_) (x0 : Int32) (x1 : Int32) (x2 : Int32) (x3 : Int32) (x4 : Int32) (x5 : Int32) : ex (d + 1) 110 8 [some (vi x0), some (vi x1), some (vi x2), some (vi x3), some (vi x4), some (vi x5)] [] O =
if x5 < (nI 64) then
(if x4 = nI 0 then
(ex (d + 1) 110 39 [some (vi x0), some (vi x1), some (vi x2), some (vi x3)] [] O)
else
(if x4 = nI 0 then none else ex (d + 1) 110 8 [some (vi x0), some (vi x1), some (vi x2), some (vi x4), some (vi (x3 - x3 / x4 * x4)), some (vi (x5 + (nI 1)))] [] O))
else
(ex (d + 1) 110 39 [some (vi x0), some (vi x1), some (vi x2), some (vi x3)] [] O) := (ex_un d 110 300 8 [some (vi x0), some (vi x1), some (vi x2), some (vi x3), some (vi x4), some (vi x5)] [] O).trans rfl
set_option maxRecDepth 100000 in
theorem sX6_ofLowestTerms_39 (d : Nat) (O : Mem_) (x0 : Int32) (x1 : Int32) (x2 : Int32) (x3 : Int32) : ex (d + 1) 110 39 [some (vi x0), some (vi x1), some (vi x2), some (vi x3)] [] O =
if x3 = nI 0 then
(some ((nI 0), O))
else
(if x2 = nI 0 then
(if x3 = nI 0 then none else some ((x0 / x3), O))
else
(if x3 = nI 0 then none else some ((x1 / x3), O))) := (ex_un d 110 300 39 [some (vi x0), some (vi x1), some (vi x2), some (vi x3)] [] O).trans rfl
set_option maxRecDepth 100000 in
theorem sX6_takeShowing_0 (d : Nat) (O : Mem_) (x1 : Int32) (x2 : Int32) (x3 : Int32) : ex (d + 1) 111 0 [some (vr 6 0 0), some (vi x1), some (vi x2), some (vi x3)] [] O =
if (O 1 0 0 0) < nI 0 then
(some (nI 0, O))
else
(if (O 1 0 0 0) < (nI 24) then
(if ib (O 1 0 0 0) 24 then
(if ib (O 1 0 0 0) 24 then
(if ib (O 1 0 0 0) 24 then
(if x3 = nI 0 ∨ x3 = nI 1 then
((ex d 50 0 [some (vr 4 (sel ((up (up (up (up O 1 0 2 (Int32.toNatClampNeg (O 1 0 0 0)) x1) 1 0 3 (Int32.toNatClampNeg (O 1 0 0 0)) x2) 1 0 4 (Int32.toNatClampNeg (O 1 0 0 0)) x3) 1 0 0 0 (((up (up (up O 1 0 2 (Int32.toNatClampNeg (O 1 0 0 0)) x1) 1 0 3 (Int32.toNatClampNeg (O 1 0 0 0)) x2) 1 0 4 (Int32.toNatClampNeg (O 1 0 0 0)) x3) 1 0 0 0) + (nI 1))) 6 0 0 1)) 0)] [] (up (up (up (up O 1 0 2 (Int32.toNatClampNeg (O 1 0 0 0)) x1) 1 0 3 (Int32.toNatClampNeg (O 1 0 0 0)) x2) 1 0 4 (Int32.toNatClampNeg (O 1 0 0 0)) x3) 1 0 0 0 (((up (up (up O 1 0 2 (Int32.toNatClampNeg (O 1 0 0 0)) x1) 1 0 3 (Int32.toNatClampNeg (O 1 0 0 0)) x2) 1 0 4 (Int32.toNatClampNeg (O 1 0 0 0)) x3) 1 0 0 0) + (nI 1)))).bind fun r0 =>
(ex d 2 0 [some (vr 0 0 0), some (vr 4 (sel ((up (up (up (up O 1 0 2 (Int32.toNatClampNeg (O 1 0 0 0)) x1) 1 0 3 (Int32.toNatClampNeg (O 1 0 0 0)) x2) 1 0 4 (Int32.toNatClampNeg (O 1 0 0 0)) x3) 1 0 0 0 (((up (up (up O 1 0 2 (Int32.toNatClampNeg (O 1 0 0 0)) x1) 1 0 3 (Int32.toNatClampNeg (O 1 0 0 0)) x2) 1 0 4 (Int32.toNatClampNeg (O 1 0 0 0)) x3) 1 0 0 0) + (nI 1))) 6 0 0 1)) 0), some (vi r0.1), some (vi x1), some (vi x2), some (vi x3)] [] r0.2).bind fun r1 =>
some (nI 0, r1.2))
else none)
else none)
else none)
else none)
else
(some (nI 0, O))) := (ex_un d 111 300 0 [some (vr 6 0 0), some (vi x1), some (vi x2), some (vi x3)] [] O).trans rfl
set_option maxRecDepth 100000 in
theorem sX6_thinkAgain_0 (d : Nat) (O : Mem_)  : ex (d + 1) 112 0 [some (vr 6 0 0)] [] O =
(ex d 0 0 [some (vr 0 0 0), some (vr 4 (sel (O 6 0 0 1)) 0)] [] O).bind fun r0 =>
ex (d + 1) 112 13 [some (vr 6 0 0), some (vi (nI 0))] [] r0.2 := (ex_un d 112 300 0 [some (vr 6 0 0)] [] O).trans rfl
set_option maxRecDepth 100000 in
theorem sX6_thinkAgain_13 (d : Nat) (O : Mem_) (x1 : Int32) : ex (d + 1) 112 13 [some (vr 6 0 0), some (vi x1)] [] O =
if x1 < (O 1 0 0 0) then
(if x1 < (nI 24) then
((ex d 50 0 [some (vr 4 (sel (O 6 0 0 1)) 0)] [] O).bind fun r0 =>
if ib x1 24 then
(if ib x1 24 then
(if ib x1 24 then
((ex d 2 0 [some (vr 0 0 0), some (vr 4 (sel (O 6 0 0 1)) 0), some (vi r0.1), some (vi (r0.2 1 0 2 (Int32.toNatClampNeg x1))), some (vi (r0.2 1 0 3 (Int32.toNatClampNeg x1))), some (vi (r0.2 1 0 4 (Int32.toNatClampNeg x1)))] [] r0.2).bind fun r1 =>
ex (d + 1) 112 13 [some (vr 6 0 0), some (vi (x1 + (nI 1)))] [] r1.2)
else none)
else none)
else none)
else
(some (nI 0, O)))
else
(some (nI 0, O)) := (ex_un d 112 300 13 [some (vr 6 0 0), some (vi x1)] [] O).trans rfl
set_option maxRecDepth 100000 in
theorem sX6_imagesKept_0 (d : Nat) (O : Mem_)  : ex (d + 1) 120 0 [some (vr 6 0 0)] [] O =
ex (d + 1) 120 4 [some (vr 6 0 0), some (vi (nI 0)), some (vi (nI 0))] [] O := (ex_un d 120 300 0 [some (vr 6 0 0)] [] O).trans rfl
set_option maxRecDepth 100000 in
theorem sX6_imagesKept_4 (d : Nat) (O : Mem_) (x1 : Int32) (x2 : Int32) : ex (d + 1) 120 4 [some (vr 6 0 0), some (vi x1), some (vi x2)] [] O =
if x2 < (nI 2) then
(if ib x2 2 then
(if (O 1 (1 + (Int32.toNatClampNeg x2)) 0 8) = nI 0 then
(ex (d + 1) 120 4 [some (vr 6 0 0), some (vi x1), some (vi (x2 + (nI 1)))] [] O)
else
(ex (d + 1) 120 4 [some (vr 6 0 0), some (vi (x1 + (nI 1))), some (vi (x2 + (nI 1)))] [] O))
else none)
else
(some (x1, O)) := (ex_un d 120 300 4 [some (vr 6 0 0), some (vi x1), some (vi x2)] [] O).trans rfl
