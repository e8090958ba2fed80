set_option maxRecDepth 100000 in
theorem sX6_feed_0 (d : Nat) (O : Mem_) (x1 : Int64) : ex (d + 1) 67 0 [some (vr 6 0 0), some (vl x1), none] [] O =
if (nI 392) < (O 3 0 0 1) then
(some ((-3), O))
else
(ex (d + 1) 67 19 [some (vr 6 0 0), some (vl x1), none, some (vi (nI 7))] [] O) := (ex_un d 67 300 0 [some (vr 6 0 0), some (vl x1), none] [] O).trans rfl
set_option maxRecDepth 100000 in
theorem sX6_feed_19 (d : Nat) (O : Mem_) (x1 : Int64) (x3 : Int32) : ex (d + 1) 67 19 [some (vr 6 0 0), some (vl x1), none, some (vi x3)] [] O =
if x3 < nI 0 then
(some ((O 3 0 0 1), O))
else
((ex d 20 0 [some (vr 3 0 0), some (vi ((Int64.toInt32 (((Int64.toUInt64 x1) >>> ((Int32.toInt64 ((nI 8) * x3)).toUInt64 &&& Int64.toUInt64 63)).toInt64)) &&& (nI 255)))] [] O).bind fun r0 =>
ex (d + 1) 67 19 [some (vr 6 0 0), some (vl x1), none, some (vi (x3 + (-1)))] [] r0.2) := (ex_un d 67 300 19 [some (vr 6 0 0), some (vl x1), none, some (vi x3)] [] O).trans rfl
set_option maxRecDepth 100000 in
theorem sX6_end_0 (d : Nat) (O : Mem_) (x1 : Int32) : ex (d + 1) 68 0 [some (vr 6 0 0), some (vi x1)] [] O =
if x1 < nI 0 then
(some ((-1), O))
else
(if (O 3 0 0 1) < x1 then
(some ((-1), O))
else
(some ((O 3 0 0 1), (up O 3 0 0 1 x1)))) := (ex_un d 68 300 0 [some (vr 6 0 0), some (vi x1)] [] O).trans rfl
set_option maxRecDepth 100000 in
theorem sX6_text_0 (d : Nat) (O : Mem_)  : ex (d + 1) 69 0 [some (vr 6 0 0)] [] O =
(ex d 21 0 [some (vr 3 0 0), some (vr 4 (sel (O 6 0 0 2)) 0)] [] O).bind fun r0 =>
if r0.1 = nI 0 then
(some (((-10) - ((up r0.2 3 0 0 1 (nI 0)) 3 0 0 3)), (up r0.2 3 0 0 1 (nI 0))))
else
(ex (d + 1) 69 55 [some (vr 6 0 0), none, none, some (vi (nI 0))] [] (up (up (up r0.2 3 0 0 1 (nI 0)) 6 0 0 1 (nI (sel ((up r0.2 3 0 0 1 (nI 0)) 6 0 0 2)))) 6 0 0 2 (nI (sel ((up r0.2 3 0 0 1 (nI 0)) 6 0 0 1))))) := (ex_un d 69 300 0 [some (vr 6 0 0)] [] O).trans rfl
set_option maxRecDepth 100000 in
theorem sX6_text_55 (d : Nat) (O : Mem_) (x3 : Int32) : ex (d + 1) 69 55 [some (vr 6 0 0), none, none, some (vi x3)] [] O =
if x3 < (nI 2) then
(if ib x3 2 then
(ex (d + 1) 69 55 [some (vr 6 0 0), none, none, some (vi (x3 + (nI 1)))] [] (up O 1 (1 + (Int32.toNatClampNeg x3)) 0 8 (nI 0)))
else none)
else
((ex d 13 0 [some (vr 1 0 0), some (vr 4 (sel (O 6 0 0 1)) 0)] [] O).bind fun r0 =>
(ex d 0 0 [some (vr 0 0 0), some (vr 4 (sel (r0.2 6 0 0 1)) 0)] [] r0.2).bind fun r1 =>
some ((r1.2 3 0 0 4), r1.2)) := (ex_un d 69 300 55 [some (vr 6 0 0), none, none, some (vi x3)] [] O).trans rfl
set_option maxRecDepth 100000 in
theorem sX6_fault_0 (d : Nat) (O : Mem_)  : ex (d + 1) 70 0 [some (vr 6 0 0)] [] O =
some ((O 3 0 0 2), O) := (ex_un d 70 300 0 [some (vr 6 0 0)] [] O).trans rfl
set_option maxRecDepth 100000 in
theorem sX6_thing_0 (d : Nat) (O : Mem_) (x1 : Int32) : ex (d + 1) 71 0 [some (vr 6 0 0), some (vi x1)] [] O =
(ex d 43 0 [some (vr 4 (sel (O 6 0 0 1)) 0), some (vi x1)] [] O).bind fun r0 =>
if r0.1 = nI 0 then
(some ((-1), r0.2))
else
(if ib x1 8 then
(some ((r0.2 4 (sel (r0.2 6 0 0 1)) 5 (Int32.toNatClampNeg x1)), r0.2))
else none) := (ex_un d 71 300 0 [some (vr 6 0 0), some (vi x1)] [] O).trans rfl
set_option maxRecDepth 100000 in
theorem sX6_meaning_0 (d : Nat) (O : Mem_) (x1 : Int32) (x2 : Int32) : ex (d + 1) 72 0 [some (vr 6 0 0), some (vi x1), some (vi x2)] [] O =
(ex d 44 0 [some (vr 4 (sel (O 6 0 0 1)) 0), some (vi x1)] [] O).bind fun r0 =>
if r0.1 = nI 0 then
(some ((-1), r0.2))
else
(if x2 = (nI 0) then
(if ib x1 12 then
(some ((r0.2 4 (sel (r0.2 6 0 0 1)) 7 (Int32.toNatClampNeg x1)), r0.2))
else none)
else if x2 = (nI 1) then
(if ib x1 12 then
(some ((r0.2 4 (sel (r0.2 6 0 0 1)) 8 (Int32.toNatClampNeg x1)), r0.2))
else none)
else if x2 = (nI 2) then
(if ib x1 12 then
(some ((r0.2 4 (sel (r0.2 6 0 0 1)) 9 (Int32.toNatClampNeg x1)), r0.2))
else none)
else if x2 = (nI 3) then
(if ib x1 12 then
(some ((r0.2 4 (sel (r0.2 6 0 0 1)) 10 (Int32.toNatClampNeg x1)), r0.2))
else none)
else if x2 = (nI 4) then
((ex d 56 0 [some (vr 4 (sel (r0.2 6 0 0 1)) 0), some (vi x1)] [] r0.2).bind fun r1 =>
some (r1.1, r1.2))
else 
(some ((-1), r0.2))) := (ex_un d 72 300 0 [some (vr 6 0 0), some (vi x1), some (vi x2)] [] O).trans rfl
set_option maxRecDepth 100000 in
theorem sX6_word_0 (d : Nat) (O : Mem_) (x1 : Int32) : ex (d + 1) 73 0 [some (vr 6 0 0), some (vi x1)] [] O =
(ex d 45 0 [some (vr 4 (sel (O 6 0 0 1)) 0), some (vi x1)] [] O).bind fun r0 =>
if r0.1 = nI 0 then
(some ((-1), r0.2))
else
(if ib x1 4 then
(some ((r0.2 4 (sel (r0.2 6 0 0 1)) 13 (Int32.toNatClampNeg x1)), r0.2))
else none) := (ex_un d 73 300 0 [some (vr 6 0 0), some (vi x1)] [] O).trans rfl
set_option maxRecDepth 100000 in
theorem sX6_kind_0 (d : Nat) (O : Mem_) (x1 : Int32) (x2 : Int32) : ex (d + 1) 74 0 [some (vr 6 0 0), some (vi x1), some (vi x2)] [] O =
(ex d 46 0 [some (vr 4 (sel (O 6 0 0 1)) 0), some (vi x1)] [] O).bind fun r0 =>
if r0.1 = nI 0 then
(some ((-1), r0.2))
else
(if x2 = (nI 0) then
(if ib x1 6 then
(some ((r0.2 4 (sel (r0.2 6 0 0 1)) 14 (Int32.toNatClampNeg x1)), r0.2))
else none)
else if x2 = (nI 1) then
(if ib x1 6 then
(some ((r0.2 4 (sel (r0.2 6 0 0 1)) 15 (Int32.toNatClampNeg x1)), r0.2))
else none)
else if x2 = (nI 2) then
(if ib x1 6 then
(some ((r0.2 4 (sel (r0.2 6 0 0 1)) 16 (Int32.toNatClampNeg x1)), r0.2))
else none)
else if x2 = (nI 3) then
(if ib x1 6 then
(if (r0.2 4 (sel (r0.2 6 0 0 1)) 17 (Int32.toNatClampNeg x1)) = nI 0 then
(some ((nI 0), r0.2))
else
(some ((nI 1), r0.2)))
else none)
else if x2 = (nI 4) then
(if ib x1 6 then
(some ((r0.2 4 (sel (r0.2 6 0 0 1)) 18 (Int32.toNatClampNeg x1)), r0.2))
else none)
else if x2 = (nI 5) then
(if ib x1 6 then
(some ((r0.2 4 (sel (r0.2 6 0 0 1)) 19 (Int32.toNatClampNeg x1)), r0.2))
else none)
else 
(some ((-1), r0.2))) := (ex_un d 74 300 0 [some (vr 6 0 0), some (vi x1), some (vi x2)] [] O).trans rfl
set_option maxRecDepth 100000 in
theorem sX6_show_0 (d : Nat) (O : Mem_) (x1 : Int32) (x2 : Int32) (x3 : Int32) : ex (d + 1) 75 0 [some (vr 6 0 0), some (vi x1), some (vi x2), some (vi x3)] [] O =
(ex d 45 0 [some (vr 4 (sel (O 6 0 0 1)) 0), some (vi x1)] [] O).bind fun r0 =>
if r0.1 = nI 0 then
(some ((-1), r0.2))
else
((ex d 43 0 [some (vr 4 (sel (r0.2 6 0 0 1)) 0), some (vi x2)] [] r0.2).bind fun r1 =>
if r1.1 = nI 0 then
(some ((-1), r1.2))
else
(if (r1.2 1 0 0 0) < (nI 24) then
((ex d 111 0 [some (vr 6 0 0), some (vi x1), some (vi x2), some (vi x3)] [] r1.2).bind fun r2 =>
some ((r2.2 1 0 0 0), r2.2))
else
(some ((-3), r1.2)))) := (ex_un d 75 300 0 [some (vr 6 0 0), some (vi x1), some (vi x2), some (vi x3)] [] O).trans rfl
set_option maxRecDepth 100000 in
theorem sX6_teach_0 (d : Nat) (O : Mem_) (x1 : Int32) (x2 : Int32) : ex (d + 1) 76 0 [some (vr 6 0 0), some (vi x1), some (vi x2)] [] O =
(ex d 55 0 [some (vr 4 (sel (O 6 0 0 1)) 0), some (vi x1), some (vi x2)] [] O).bind fun r0 =>
(ex d 75 0 [some (vr 6 0 0), some (vi x1), some (vi x2), some (vi r0.1)] [] r0.2).bind fun r1 =>
some (r1.1, r1.2) := (ex_un d 76 300 0 [some (vr 6 0 0), some (vi x1), some (vi x2)] [] O).trans rfl
set_option maxRecDepth 100000 in
theorem sX6_undo_0 (d : Nat) (O : Mem_)  : ex (d + 1) 77 0 [some (vr 6 0 0)] [] O =
if nI 0 < (O 1 0 0 0) then
((ex d 112 0 [some (vr 6 0 0)] [] (up O 1 0 0 0 ((O 1 0 0 0) - (nI 1)))).bind fun r0 =>
some ((r0.2 1 0 0 0), r0.2))
else
(some ((oI none), O)) := (ex_un d 77 300 0 [some (vr 6 0 0)] [] O).trans rfl
set_option maxRecDepth 100000 in
theorem sX6_clear_0 (d : Nat) (O : Mem_)  : ex (d + 1) 78 0 [some (vr 6 0 0)] [] O =
(ex d 50 0 [some (vr 4 (sel ((up O 1 0 0 0 (nI 0)) 6 0 0 1)) 0)] [] (up O 1 0 0 0 (nI 0))).bind fun r0 =>
(ex d 112 0 [some (vr 6 0 0)] [] (up r0.2 1 0 0 4 r0.1)).bind fun r1 =>
some ((O 1 0 0 0), r1.2) := (ex_un d 78 300 0 [some (vr 6 0 0)] [] O).trans rfl
set_option maxRecDepth 100000 in
theorem sX6_shown_0 (d : Nat) (O : Mem_) (x1 : Int32) (x2 : Int32) : ex (d + 1) 79 0 [some (vr 6 0 0), some (vi x1), some (vi x2)] [] O =
if x1 < nI 0 then
(some ((-1), O))
else
(if x1 < (O 1 0 0 0) then
(if x1 < (nI 24) then
(if x2 = (nI 0) then
(if ib x1 24 then
(some ((O 1 0 2 (Int32.toNatClampNeg x1)), O))
else none)
else if x2 = (nI 1) then
(if ib x1 24 then
(some ((O 1 0 3 (Int32.toNatClampNeg x1)), O))
else none)
else if x2 = (nI 2) then
(if ib x1 24 then
(if (O 1 0 4 (Int32.toNatClampNeg x1)) = nI 0 then
(some ((nI 0), O))
else
(some ((nI 1), O)))
else none)
else 
(some ((-1), O)))
else
(some ((-1), O)))
else
(some ((-1), O))) := (ex_un d 79 300 0 [some (vr 6 0 0), some (vi x1), some (vi x2)] [] O).trans rfl
set_option maxRecDepth 100000 in
theorem sX6_thinks_0 (d : Nat) (O : Mem_) (x1 : Int32) (x2 : Int32) : ex (d + 1) 80 0 [some (vr 6 0 0), some (vi x1), some (vi x2)] [] O =
(ex d 46 0 [some (vr 4 (sel (O 6 0 0 1)) 0), some (vi x1)] [] O).bind fun r0 =>
if r0.1 = nI 0 then
(some ((-1), r0.2))
else
((ex d 45 0 [some (vr 4 (sel (r0.2 6 0 0 1)) 0), some (vi x2)] [] r0.2).bind fun r1 =>
if r1.1 = nI 0 then
(some ((-1), r1.2))
else
((ex d 7 0 [some (vr 0 0 0), some (vi x1), some (vi x2)] [] r1.2).bind fun r2 =>
some (r2.1, r2.2))) := (ex_un d 80 300 0 [some (vr 6 0 0), some (vi x1), some (vi x2)] [] O).trans rfl
set_option maxRecDepth 100000 in
theorem sX6_fits_0 (d : Nat) (O : Mem_) (x1 : Int32) (x2 : Int32) : ex (d + 1) 81 0 [some (vr 6 0 0), some (vi x1), some (vi x2)] [] O =
(ex d 46 0 [some (vr 4 (sel (O 6 0 0 1)) 0), some (vi x1)] [] O).bind fun r0 =>
if r0.1 = nI 0 then
(some ((-1), r0.2))
else
((ex d 45 0 [some (vr 4 (sel (r0.2 6 0 0 1)) 0), some (vi x2)] [] r0.2).bind fun r1 =>
if r1.1 = nI 0 then
(some ((-1), r1.2))
else
(if ib x2 4 then
(if ib x1 6 then
(some (((r1.2 0 0 6 (Int32.toNatClampNeg x2)) &&& (r1.2 4 (sel (r1.2 6 0 0 1)) 19 (Int32.toNatClampNeg x1))), r1.2))
else none)
else none)) := (ex_un d 81 300 0 [some (vr 6 0 0), some (vi x1), some (vi x2)] [] O).trans rfl
set_option maxRecDepth 100000 in
theorem sX6_same_0 (d : Nat) (O : Mem_) (x1 : Int32) (x2 : Int32) : ex (d + 1) 82 0 [some (vr 6 0 0), some (vi x1), some (vi x2)] [] O =
(ex d 46 0 [some (vr 4 (sel (O 6 0 0 1)) 0), some (vi x1)] [] O).bind fun r0 =>
if r0.1 = nI 0 then
(some ((-1), r0.2))
else
((ex d 45 0 [some (vr 4 (sel (r0.2 6 0 0 1)) 0), some (vi x2)] [] r0.2).bind fun r1 =>
if r1.1 = nI 0 then
(some ((-1), r1.2))
else
((ex d 8 0 [some (vr 0 0 0), some (vr 4 (sel (r1.2 6 0 0 1)) 0), some (vi x1), some (vi x2)] [] r1.2).bind fun r2 =>
if r2.1 = nI 0 then
(some ((nI 0), r2.2))
else
(some ((nI 1), r2.2)))) := (ex_un d 82 300 0 [some (vr 6 0 0), some (vi x1), some (vi x2)] [] O).trans rfl
set_option maxRecDepth 100000 in
theorem sX6_fled_0 (d : Nat) (O : Mem_) (x1 : Int32) : ex (d + 1) 83 0 [some (vr 6 0 0), some (vi x1)] [] O =
(ex d 46 0 [some (vr 4 (sel (O 6 0 0 1)) 0), some (vi x1)] [] O).bind fun r0 =>
if r0.1 = nI 0 then
(some ((-1), r0.2))
else
(if ib x1 6 then
(some ((r0.2 0 0 5 (Int32.toNatClampNeg x1)), r0.2))
else none) := (ex_un d 83 300 0 [some (vr 6 0 0), some (vi x1)] [] O).trans rfl
set_option maxRecDepth 100000 in
theorem sX6_against_0 (d : Nat) (O : Mem_) (x1 : Int32) (x2 : Int32) : ex (d + 1) 84 0 [some (vr 6 0 0), some (vi x1), some (vi x2)] [] O =
(ex d 46 0 [some (vr 4 (sel (O 6 0 0 1)) 0), some (vi x1)] [] O).bind fun r0 =>
if r0.1 = nI 0 then
(some ((-1), r0.2))
else
((ex d 45 0 [some (vr 4 (sel (r0.2 6 0 0 1)) 0), some (vi x2)] [] r0.2).bind fun r1 =>
if r1.1 = nI 0 then
(some ((-1), r1.2))
else
(if ib ((x1 * (nI 4)) + x2) 24 then
(some ((r1.2 0 0 3 (Int32.toNatClampNeg ((x1 * (nI 4)) + x2))), r1.2))
else none)) := (ex_un d 84 300 0 [some (vr 6 0 0), some (vi x1), some (vi x2)] [] O).trans rfl
set_option maxRecDepth 100000 in
theorem sX6_common_0 (d : Nat) (O : Mem_) (x1 : Int32) : ex (d + 1) 85 0 [some (vr 6 0 0), some (vi x1)] [] O =
(ex d 47 0 [some (vr 4 (sel (O 6 0 0 1)) 0), some (vi x1)] [] O).bind fun r0 =>
if r0.1 = nI 0 then
(some ((-1), r0.2))
else
(ex (d + 1) 85 17 [some (vr 6 0 0), some (vi x1), some (vi (nI 0)), some (vi (nI 0))] [] r0.2) := (ex_un d 85 300 0 [some (vr 6 0 0), some (vi x1)] [] O).trans rfl
set_option maxRecDepth 100000 in
theorem sX6_common_17 (d : Nat) (O : Mem_) (x1 : Int32) (x2 : Int32) (x3 : Int32) : ex (d + 1) 85 17 [some (vr 6 0 0), some (vi x1), some (vi x2), some (vi x3)] [] O =
if x3 < (O 4 (sel (O 6 0 0 1)) 0 2) then
((ex d 9 0 [some (vr 0 0 0), some (vr 4 (sel (O 6 0 0 1)) 0), some (vi x1), some (vi x3)] [] O).bind fun r0 =>
if r0.1 = nI 0 then
(ex (d + 1) 85 17 [some (vr 6 0 0), some (vi x1), some (vi x2), some (vi (x3 + (nI 1)))] [] r0.2)
else
(ex (d + 1) 85 17 [some (vr 6 0 0), some (vi x1), some (vi (x2 ||| ((nI 1) <<< (x3 &&& (31:Int32))))), some (vi (x3 + (nI 1)))] [] r0.2))
else
(some (x2, O)) := (ex_un d 85 300 17 [some (vr 6 0 0), some (vi x1), some (vi x2), some (vi x3)] [] O).trans rfl
set_option maxRecDepth 100000 in
theorem sX6_teaching_0 (d : Nat) (O : Mem_) (x1 : Int32) (x2 : Int32) (x3 : Int32) : ex (d + 1) 86 0 [some (vr 6 0 0), some (vi x1), some (vi x2), some (vi x3)] [] O =
(ex d 47 0 [some (vr 4 (sel (O 6 0 0 1)) 0), some (vi x1)] [] O).bind fun r0 =>
if r0.1 = nI 0 then
(some ((-1), r0.2))
else
((ex d 45 0 [some (vr 4 (sel (r0.2 6 0 0 1)) 0), some (vi x2)] [] r0.2).bind fun r1 =>
if r1.1 = nI 0 then
(some ((-1), r1.2))
else
(if x3 = nI 0 then
(ex (d + 1) 86 48 [some (vr 6 0 0), some (vi x1), some (vi x2), some (vi x3), some (vi (x3 - (nI 10)))] [] r1.2)
else
(if x3 < (nI 10) then
(some ((-1), r1.2))
else
(if (x3 - (nI 10)) < (nI 5) then
(ex (d + 1) 86 48 [some (vr 6 0 0), some (vi x1), some (vi x2), some (vi x3), some (vi (x3 - (nI 10)))] [] r1.2)
else
(some ((-1), r1.2)))))) := (ex_un d 86 300 0 [some (vr 6 0 0), some (vi x1), some (vi x2), some (vi x3)] [] O).trans rfl
set_option maxRecDepth 100000 in
theorem sX6_teaching_48 (d : Nat) (O : Mem_) (x1 : Int32) (x2 : Int32) (x3 : Int32) (x4 : Int32) : ex (d + 1) 86 48 [some (vr 6 0 0), some (vi x1), some (vi x2), some (vi x3), some (vi x4)] [] O =
(ex d 60 0 [some (vr 5 0 0), some (vr 4 (sel (O 6 0 0 1)) 0), some (vr 0 0 0), some (vi x1), some (vi x2), some (vi (nI 5))] [] O).bind fun r0 =>
if x3 = nI 0 then
(if r0.1 = nI 0 then
(some ((oI none), r0.2))
else
(some ((r0.2 5 0 0 1), r0.2)))
else
(if r0.1 = nI 0 then
(some ((-1), r0.2))
else
(if x4 < (r0.2 5 0 0 1) then
(if ib x4 5 then
(some ((r0.2 5 0 1 (Int32.toNatClampNeg x4)), r0.2))
else none)
else
(some ((-1), r0.2)))) := (ex_un d 86 300 48 [some (vr 6 0 0), some (vi x1), some (vi x2), some (vi x3), some (vi x4)] [] O).trans rfl
set_option maxRecDepth 100000 in
theorem sX6_never_0 (d : Nat) (O : Mem_) (x1 : Int32) (x2 : Int32) : ex (d + 1) 87 0 [some (vr 6 0 0), some (vi x1), some (vi x2)] [] O =
(ex d 46 0 [some (vr 4 (sel (O 6 0 0 1)) 0), some (vi x1)] [] O).bind fun r0 =>
if r0.1 = nI 0 then
(some ((-1), r0.2))
else
((ex d 45 0 [some (vr 4 (sel (r0.2 6 0 0 1)) 0), some (vi x2)] [] r0.2).bind fun r1 =>
if r1.1 = nI 0 then
(some ((-1), r1.2))
else
(if ib x1 6 then
((ex d 54 0 [some (vr 4 (sel (r1.2 6 0 0 1)) 0), some (vi x2)] [] r1.2).bind fun r2 =>
if ((r1.2 4 (sel (r1.2 6 0 0 1)) 19 (Int32.toNatClampNeg x1)) &&& r2.1) = nI 0 then
(some ((nI 1), r2.2))
else
(some ((nI 0), r2.2)))
else none)) := (ex_un d 87 300 0 [some (vr 6 0 0), some (vi x1), some (vi x2)] [] O).trans rfl
set_option maxRecDepth 100000 in
theorem sX6_order_0 (d : Nat) (O : Mem_) (x1 : Int32) (x2 : Int32) : ex (d + 1) 88 0 [some (vr 6 0 0), some (vi x1), some (vi x2)] [] O =
(ex d 47 0 [some (vr 4 (sel (O 6 0 0 1)) 0), some (vi x1)] [] O).bind fun r0 =>
if r0.1 = nI 0 then
(some ((-1), r0.2))
else
(if x2 = nI 0 then
(ex (d + 1) 88 41 [some (vr 6 0 0), some (vi x1), some (vi x2), some (vi (x2 - (nI 10)))] [] r0.2)
else
(if x2 < (nI 10) then
(some ((-1), r0.2))
else
(if (x2 - (nI 10)) < (r0.2 4 (sel (r0.2 6 0 0 1)) 0 2) then
(ex (d + 1) 88 41 [some (vr 6 0 0), some (vi x1), some (vi x2), some (vi (x2 - (nI 10)))] [] r0.2)
else
(some ((-1), r0.2))))) := (ex_un d 88 300 0 [some (vr 6 0 0), some (vi x1), some (vi x2)] [] O).trans rfl
set_option maxRecDepth 100000 in
theorem sX6_order_41 (d : Nat) (O : Mem_) (x1 : Int32) (x2 : Int32) (x3 : Int32) : ex (d + 1) 88 41 [some (vr 6 0 0), some (vi x1), some (vi x2), some (vi x3)] [] O =
(ex d 64 0 [some (vr 5 0 0), some (vr 4 (sel (O 6 0 0 1)) 0)] [] O).bind fun r0 =>
(ex d 66 0 [some (vr 5 0 0), some (vr 4 (sel (r0.2 6 0 0 1)) 0), some (vi x1), some (vi (nI 0)), some (vi (nI 0)), some (vi (nI 0))] [] r0.2).bind fun r1 =>
(ex d 65 0 [some (vr 5 0 0)] [] r1.2).bind fun r2 =>
if r2.1 = nI 0 then
(some ((oI none), r2.2))
else
(if x2 = nI 0 then
(some ((r2.2 5 0 0 3), r2.2))
else
(if ib x3 4 then
(some ((r2.2 5 0 3 (Int32.toNatClampNeg x3)), r2.2))
else none)) := (ex_un d 88 300 41 [some (vr 6 0 0), some (vi x1), some (vi x2), some (vi x3)] [] O).trans rfl
set_option maxRecDepth 100000 in
theorem sX6_first_0 (d : Nat) (O : Mem_) (x1 : Int32) (x2 : Int32) : ex (d + 1) 89 0 [some (vr 6 0 0), some (vi x1), some (vi x2)] [] O =
(ex d 45 0 [some (vr 4 (sel (O 6 0 0 1)) 0), some (vi x1)] [] O).bind fun r0 =>
if r0.1 = nI 0 then
(some ((-1), r0.2))
else
(if x2 < nI 0 then
(some ((-1), r0.2))
else
(if (nI 2) < x2 then
(some ((-1), r0.2))
else
((ex d 57 0 [some (vr 4 (sel (r0.2 6 0 0 1)) 0)] [] r0.2).bind fun r1 =>
(ex d 59 0 [some (vr 4 (sel (r0.2 6 0 0 1)) 0), some (vi r1.1)] [] r1.2).bind fun r2 =>
ex (d + 1) 89 47 [some (vr 6 0 0), some (vi x1), some (vi x2), some (vi r2.1), some (vi (oI none)), some (vi (-1)), some (vi (nI 0))] [] r2.2))) := (ex_un d 89 300 0 [some (vr 6 0 0), some (vi x1), some (vi x2)] [] O).trans rfl
set_option maxRecDepth 100000 in
theorem sX6_first_47 (d : Nat) (O : Mem_) (x1 : Int32) (x2 : Int32) (x3 : Int32) (x4 : Int32) (x5 : Int32) (x6 : Int32) : ex (d + 1) 89 47 [some (vr 6 0 0), some (vi x1), some (vi x2), some (vi x3), some (vi x4), some (vi x5), some (vi x6)] [] O =
if x6 < (O 4 (sel (O 6 0 0 1)) 0 0) then
((ex d 109 0 [some (vi x6), some (vi x3)] [] O).bind fun r0 =>
if r0.1 = nI 0 then
((ex d 113 0 [some (vr 6 0 0), some (vi x1), some (vi x6)] [] r0.2).bind fun r1 =>
if x5 < r1.1 then
(ex (d + 1) 89 47 [some (vr 6 0 0), some (vi x1), some (vi x2), some (vi x3), some (vi x6), some (vi r1.1), some (vi (x6 + (nI 1)))] [] r1.2)
else
(ex (d + 1) 89 47 [some (vr 6 0 0), some (vi x1), some (vi x2), some (vi x3), some (vi x4), some (vi x5), some (vi (x6 + (nI 1)))] [] r1.2))
else
(ex (d + 1) 89 47 [some (vr 6 0 0), some (vi x1), some (vi x2), some (vi x3), some (vi x4), some (vi x5), some (vi (x6 + (nI 1)))] [] r0.2))
else
((ex d 50 0 [some (vr 4 (sel (O 6 0 0 1)) 0)] [] O).bind fun r2 =>
(ex d 58 0 [some (vr 4 (sel (O 6 0 0 1)) 0), some (vi r2.1)] [] r2.2).bind fun r3 =>
if x4 = (oI none) then
(some ((oI none), r3.2))
else
(if r3.1 = nI 0 then
(some ((oI none), r3.2))
else
(if x2 = nI 0 then
(some (x4, r3.2))
else
(if x2 = (nI 2) then
((ex d 110 0 [some (vi x5), some (vi r3.1), some (vi (nI 1))] [] r3.2).bind fun r4 =>
some (r4.1, r4.2))
else
((ex d 110 0 [some (vi x5), some (vi r3.1), some (vi (nI 0))] [] r3.2).bind fun r5 =>
some (r5.1, r5.2)))))) := (ex_un d 89 300 47 [some (vr 6 0 0), some (vi x1), some (vi x2), some (vi x3), some (vi x4), some (vi x5), some (vi x6)] [] O).trans rfl
set_option maxRecDepth 100000 in
theorem sX6_fears_0 (d : Nat) (O : Mem_) (x1 : Int32) : ex (d + 1) 90 0 [some (vr 6 0 0), some (vi x1)] [] O =
if x1 = (nI 0) then
((ex d 57 0 [some (vr 4 (sel (O 6 0 0 1)) 0)] [] O).bind fun r0 =>
(ex d 59 0 [some (vr 4 (sel (O 6 0 0 1)) 0), some (vi r0.1)] [] r0.2).bind fun r1 =>
some (r1.1, r1.2))
else if x1 = (nI 1) then
((ex d 48 0 [some (vr 4 (sel (O 6 0 0 1)) 0)] [] O).bind fun r2 =>
(ex d 50 0 [some (vr 4 (sel (r2.2 6 0 0 1)) 0)] [] r2.2).bind fun r3 =>
(ex d 59 0 [some (vr 4 (sel (r2.2 6 0 0 1)) 0), some (vi r3.1)] [] r3.2).bind fun r4 =>
some ((r2.1 &&& (r4.1 ^^^ (-1))), r4.2))
else 
(some ((-1), O)) := (ex_un d 90 300 0 [some (vr 6 0 0), some (vi x1)] [] O).trans rfl
set_option maxRecDepth 100000 in
theorem sX6_answer_0 (d : Nat) (O : Mem_) (x1 : Int32) (x2 : Int32) (x3 : Int32) : ex (d + 1) 91 0 [some (vr 6 0 0), some (vi x1), some (vi x2), some (vi x3)] [] O =
(ex d 46 0 [some (vr 4 (sel (O 6 0 0 1)) 0), some (vi x1)] [] O).bind fun r0 =>
if r0.1 = nI 0 then
(some ((-1), r0.2))
else
((ex d 45 0 [some (vr 4 (sel (r0.2 6 0 0 1)) 0), some (vi x2)] [] r0.2).bind fun r1 =>
if r1.1 = nI 0 then
(some ((-1), r1.2))
else
((ex d 43 0 [some (vr 4 (sel (r1.2 6 0 0 1)) 0), some (vi x3)] [] r1.2).bind fun r2 =>
if r2.1 = nI 0 then
(some ((-1), r2.2))
else
((ex d 11 0 [some (vr 0 0 0), some (vr 4 (sel (r2.2 6 0 0 1)) 0), some (vi x1), some (vi x2), some (vi x3)] [] r2.2).bind fun r3 =>
some (r3.1, r3.2)))) := (ex_un d 91 300 0 [some (vr 6 0 0), some (vi x1), some (vi x2), some (vi x3)] [] O).trans rfl
set_option maxRecDepth 100000 in
theorem sX6_heard_0 (d : Nat) (O : Mem_) (x1 : Int32) (x2 : Int32) (x3 : Int32) : ex (d + 1) 92 0 [some (vr 6 0 0), some (vi x1), some (vi x2), some (vi x3)] [] O =
(ex d 45 0 [some (vr 4 (sel (O 6 0 0 1)) 0), some (vi x1)] [] O).bind fun r0 =>
if r0.1 = nI 0 then
(some ((-1), r0.2))
else
((ex d 43 0 [some (vr 4 (sel (r0.2 6 0 0 1)) 0), some (vi x2)] [] r0.2).bind fun r1 =>
if r1.1 = nI 0 then
(some ((-1), r1.2))
else
(if x3 = nI 0 then
(ex (d + 1) 92 41 [some (vr 6 0 0), some (vi x1), some (vi x2), some (vi x3)] [] r1.2)
else
(if x3 = (nI 1) then
(ex (d + 1) 92 41 [some (vr 6 0 0), some (vi x1), some (vi x2), some (vi x3)] [] r1.2)
else
(if x3 = (oI none) then
(ex (d + 1) 92 41 [some (vr 6 0 0), some (vi x1), some (vi x2), some (vi x3)] [] r1.2)
else
(some ((-1), r1.2)))))) := (ex_un d 92 300 0 [some (vr 6 0 0), some (vi x1), some (vi x2), some (vi x3)] [] O).trans rfl
set_option maxRecDepth 100000 in
theorem sX6_heard_41 (d : Nat) (O : Mem_) (x1 : Int32) (x2 : Int32) (x3 : Int32) : ex (d + 1) 92 41 [some (vr 6 0 0), some (vi x1), some (vi x2), some (vi x3)] [] O =
(ex d 12 0 [some (vr 0 0 0), some (vr 4 (sel (O 6 0 0 1)) 0), some (vi x1), some (vi x2), some (vi x3)] [] O).bind fun r0 =>
some (((up r0.2 1 0 0 4 ((O 1 0 0 4) &&& r0.1)) 1 0 0 4), (up r0.2 1 0 0 4 ((O 1 0 0 4) &&& r0.1))) := (ex_un d 92 300 41 [some (vr 6 0 0), some (vi x1), some (vi x2), some (vi x3)] [] O).trans rfl
set_option maxRecDepth 100000 in
theorem sX6_left_0 (d : Nat) (O : Mem_) (x1 : Int32) : ex (d + 1) 93 0 [some (vr 6 0 0), some (vi x1)] [] O =
if x1 = (nI 0) then
(some ((O 1 0 0 4), O))
else if x1 = (nI 1) then
((ex d 58 0 [some (vr 4 (sel (O 6 0 0 1)) 0), some (vi (O 1 0 0 4))] [] O).bind fun r0 =>
some (r0.1, r0.2))
else if x1 = (nI 2) then
((ex d 50 0 [some (vr 4 (sel (O 6 0 0 1)) 0)] [] O).bind fun r1 =>
(ex d 58 0 [some (vr 4 (sel (O 6 0 0 1)) 0), some (vi r1.1)] [] r1.2).bind fun r2 =>
some (r2.1, r2.2))
else 
(some ((-1), O)) := (ex_un d 93 300 0 [some (vr 6 0 0), some (vi x1)] [] O).trans rfl
set_option maxRecDepth 100000 in
theorem sX6_ask_0 (d : Nat) (O : Mem_) (x1 : Int32) : ex (d + 1) 94 0 [some (vr 6 0 0), some (vi x1)] [] O =
if x1 < nI 0 then
(some ((-1), O))
else
(if (nI 2) < x1 then
(some ((-1), O))
else
(if (O 1 0 0 4) = nI 0 then
(some ((oI none), O))
else
(ex (d + 1) 94 37 [some (vr 6 0 0), some (vi x1), some (vi (oI none)), some (vi (oI none)), some (vi (oI none)), some (vi (nI 0))] [] O))) := (ex_un d 94 300 0 [some (vr 6 0 0), some (vi x1)] [] O).trans rfl
set_option maxRecDepth 100000 in
theorem sX6_ask_37 (d : Nat) (O : Mem_) (x1 : Int32) (x2 : Int32) (x3 : Int32) (x4 : Int32) (x5 : Int32) : ex (d + 1) 94 37 [some (vr 6 0 0), some (vi x1), some (vi x2), some (vi x3), some (vi x4), some (vi x5)] [] O =
if x5 < (O 4 (sel (O 6 0 0 1)) 0 2) then
(ex (d + 1) 94 52 [some (vr 6 0 0), some (vi x1), some (vi x2), some (vi x3), some (vi x4), some (vi x5), some (vi (nI 0))] [] O)
else
(if x1 = nI 0 then
(some (x2, O))
else
(if x1 = (nI 1) then
(some (x3, O))
else
(some (x4, O)))) := (ex_un d 94 300 37 [some (vr 6 0 0), some (vi x1), some (vi x2), some (vi x3), some (vi x4), some (vi x5)] [] O).trans rfl
set_option maxRecDepth 100000 in
theorem sX6_ask_52 (d : Nat) (O : Mem_) (x1 : Int32) (x2 : Int32) (x3 : Int32) (x4 : Int32) (x5 : Int32) (x6 : Int32) : ex (d + 1) 94 52 [some (vr 6 0 0), some (vi x1), some (vi x2), some (vi x3), some (vi x4), some (vi x5), some (vi x6)] [] O =
if x6 < (O 4 (sel (O 6 0 0 1)) 0 0) then
((ex d 114 0 [some (vr 6 0 0), some (vi x5), some (vi x6)] [] O).bind fun r0 =>
if x4 = (oI none) then
(ex (d + 1) 94 52 [some (vr 6 0 0), some (vi x1), some (vi x5), some (vi x6), some (vi r0.1), some (vi x5), some (vi (x6 + (nI 1)))] [] r0.2)
else
(if r0.1 < x4 then
(ex (d + 1) 94 52 [some (vr 6 0 0), some (vi x1), some (vi x5), some (vi x6), some (vi r0.1), some (vi x5), some (vi (x6 + (nI 1)))] [] r0.2)
else
(ex (d + 1) 94 52 [some (vr 6 0 0), some (vi x1), some (vi x2), some (vi x3), some (vi x4), some (vi x5), some (vi (x6 + (nI 1)))] [] r0.2)))
else
(ex (d + 1) 94 37 [some (vr 6 0 0), some (vi x1), some (vi x2), some (vi x3), some (vi x4), some (vi (x5 + (nI 1)))] [] O) := (ex_un d 94 300 52 [some (vr 6 0 0), some (vi x1), some (vi x2), some (vi x3), some (vi x4), some (vi x5), some (vi x6)] [] O).trans rfl
set_option maxRecDepth 100000 in
theorem sX6_sure_0 (d : Nat) (O : Mem_) (x1 : Int32) (x2 : Int32) : ex (d + 1) 95 0 [some (vr 6 0 0), some (vi x1), some (vi x2)] [] O =
(ex d 45 0 [some (vr 4 (sel (O 6 0 0 1)) 0), some (vi x1)] [] O).bind fun r0 =>
if r0.1 = nI 0 then
(some ((-1), r0.2))
else
(if x2 < nI 0 then
(some ((-1), r0.2))
else
(if (nI 1) < x2 then
(some ((-1), r0.2))
else
((ex d 48 0 [some (vr 4 (sel (r0.2 6 0 0 1)) 0)] [] r0.2).bind fun r1 =>
ex (d + 1) 95 33 [some (vr 6 0 0), some (vi x1), some (vi x2), some (vi r1.1), some (vi (nI 0))] [] r1.2))) := (ex_un d 95 300 0 [some (vr 6 0 0), some (vi x1), some (vi x2)] [] O).trans rfl
set_option maxRecDepth 100000 in
theorem sX6_sure_33 (d : Nat) (O : Mem_) (x1 : Int32) (x2 : Int32) (x3 : Int32) (x4 : Int32) : ex (d + 1) 95 33 [some (vr 6 0 0), some (vi x1), some (vi x2), some (vi x3), some (vi x4)] [] O =
if x4 < ((nI 1) <<< ((O 4 (sel (O 6 0 0 1)) 0 0) &&& (31:Int32))) then
((ex d 217 0 [some (vi x4)] [] O).bind fun r0 =>
(ex d 217 0 [some (vi x3)] [] r0.2).bind fun r1 =>
if r0.1 < r1.1 then
((ex d 115 0 [some (vr 6 0 0), some (vi x1), some (vi x4)] [] r1.2).bind fun r2 =>
if r2.1 = nI 0 then
(ex (d + 1) 95 33 [some (vr 6 0 0), some (vi x1), some (vi x2), some (vi x3), some (vi (x4 + (nI 1)))] [] r2.2)
else
(ex (d + 1) 95 33 [some (vr 6 0 0), some (vi x1), some (vi x2), some (vi x4), some (vi (x4 + (nI 1)))] [] r2.2))
else
(ex (d + 1) 95 33 [some (vr 6 0 0), some (vi x1), some (vi x2), some (vi x3), some (vi (x4 + (nI 1)))] [] r1.2))
else
(if x2 = nI 0 then
((ex d 217 0 [some (vi x3)] [] O).bind fun r3 =>
some (r3.1, r3.2))
else
(some (x3, O))) := (ex_un d 95 300 33 [some (vr 6 0 0), some (vi x1), some (vi x2), some (vi x3), some (vi x4)] [] O).trans rfl
set_option maxRecDepth 100000 in
theorem sX6_likely_0 (d : Nat) (O : Mem_) (x1 : Int32) (x2 : Int32) : ex (d + 1) 96 0 [some (vr 6 0 0), some (vi x1), some (vi x2)] [] O =
(ex d 45 0 [some (vr 4 (sel (O 6 0 0 1)) 0), some (vi x1)] [] O).bind fun r0 =>
if r0.1 = nI 0 then
(some ((-1), r0.2))
else
(if x2 < nI 0 then
(some ((-1), r0.2))
else
(if (nI 1) < x2 then
(some ((-1), r0.2))
else
((ex d 50 0 [some (vr 4 (sel (r0.2 6 0 0 1)) 0)] [] r0.2).bind fun r1 =>
(ex d 58 0 [some (vr 4 (sel (r0.2 6 0 0 1)) 0), some (vi r1.1)] [] r1.2).bind fun r2 =>
if r2.1 = nI 0 then
(some ((oI none), r2.2))
else
((ex d 10 0 [some (vr 0 0 0), some (vr 4 (sel (r2.2 6 0 0 1)) 0), some (vi x1)] [] r2.2).bind fun r3 =>
if x2 = (nI 1) then
((ex d 110 0 [some (vi r3.1), some (vi r2.1), some (vi (nI 1))] [] r3.2).bind fun r4 =>
some (r4.1, r4.2))
else
((ex d 110 0 [some (vi r3.1), some (vi r2.1), some (vi (nI 0))] [] r3.2).bind fun r5 =>
some (r5.1, r5.2)))))) := (ex_un d 96 300 0 [some (vr 6 0 0), some (vi x1), some (vi x2)] [] O).trans rfl
set_option maxRecDepth 100000 in
theorem sX6_theirs_0 (d : Nat) (O : Mem_) (x1 : Int32) (x2 : Int32) : ex (d + 1) 97 0 [some (vr 6 0 0), some (vi x1), some (vi x2)] [] O =
(ex d 43 0 [some (vr 4 (sel (O 6 0 0 1)) 0), some (vi x1)] [] O).bind fun r0 =>
if r0.1 = nI 0 then
(some ((-1), r0.2))
else
(if (r0.2 1 0 0 5) < (nI 12) then
(if ib (r0.2 1 0 0 5) 12 then
(if ib ((up r0.2 1 0 7 (Int32.toNatClampNeg (r0.2 1 0 0 5)) x1) 1 0 0 5) 12 then
(if x2 = nI 0 ∨ x2 = nI 1 then
(some (((up (up (up r0.2 1 0 7 (Int32.toNatClampNeg (r0.2 1 0 0 5)) x1) 1 0 8 (Int32.toNatClampNeg ((up r0.2 1 0 7 (Int32.toNatClampNeg (r0.2 1 0 0 5)) x1) 1 0 0 5)) x2) 1 0 0 5 (((up (up r0.2 1 0 7 (Int32.toNatClampNeg (r0.2 1 0 0 5)) x1) 1 0 8 (Int32.toNatClampNeg ((up r0.2 1 0 7 (Int32.toNatClampNeg (r0.2 1 0 0 5)) x1) 1 0 0 5)) x2) 1 0 0 5) + (nI 1))) 1 0 0 5), (up (up (up r0.2 1 0 7 (Int32.toNatClampNeg (r0.2 1 0 0 5)) x1) 1 0 8 (Int32.toNatClampNeg ((up r0.2 1 0 7 (Int32.toNatClampNeg (r0.2 1 0 0 5)) x1) 1 0 0 5)) x2) 1 0 0 5 (((up (up r0.2 1 0 7 (Int32.toNatClampNeg (r0.2 1 0 0 5)) x1) 1 0 8 (Int32.toNatClampNeg ((up r0.2 1 0 7 (Int32.toNatClampNeg (r0.2 1 0 0 5)) x1) 1 0 0 5)) x2) 1 0 0 5) + (nI 1)))))
else none)
else none)
else none)
else
(some ((-3), r0.2))) := (ex_un d 97 300 0 [some (vr 6 0 0), some (vi x1), some (vi x2)] [] O).trans rfl
set_option maxRecDepth 100000 in
theorem sX6_hush_0 (d : Nat) (O : Mem_)  : ex (d + 1) 98 0 [some (vr 6 0 0)] [] O =
some ((O 1 0 0 5), (up O 1 0 0 5 (nI 0))) := (ex_un d 98 300 0 [some (vr 6 0 0)] [] O).trans rfl
set_option maxRecDepth 100000 in
theorem sX6_meant_0 (d : Nat) (O : Mem_) (x1 : Int32) : ex (d + 1) 99 0 [some (vr 6 0 0), some (vi x1)] [] O =
(ex d 116 0 [some (vr 6 0 0)] [] O).bind fun r0 =>
if x1 = (nI 0) then
((ex d 217 0 [some (vi r0.1)] [] r0.2).bind fun r1 =>
some (r1.1, r1.2))
else if x1 = (nI 1) then
((ex d 51 0 [some (vr 4 (sel (r0.2 6 0 0 1)) 0), some (vi r0.1)] [] r0.2).bind fun r2 =>
some (r2.1, r2.2))
else if x1 = (nI 2) then
(some (r0.1, r0.2))
else if x1 = (nI 3) then
(if r0.1 = nI 0 then
(some ((oI none), r0.2))
else
((ex d 117 0 [some (vr 6 0 0), some (vi r0.1)] [] r0.2).bind fun r3 =>
some (r3.1, r3.2)))
else 
(some ((-1), r0.2)) := (ex_un d 99 300 0 [some (vr 6 0 0), some (vi x1)] [] O).trans rfl
set_option maxRecDepth 100000 in
theorem sX6_build_0 (d : Nat) (O : Mem_) (x1 : Int32) (x2 : Int32) : ex (d + 1) 100 0 [some (vr 6 0 0), some (vi x1), some (vi x2)] [] O =
(ex d 44 0 [some (vr 4 (sel (O 6 0 0 1)) 0), some (vi x1)] [] O).bind fun r0 =>
if r0.1 = nI 0 then
(some ((-1), r0.2))
else
(if x2 < nI 0 then
(some ((-1), r0.2))
else
(if (nI 2) < x2 then
(some ((-1), r0.2))
else
(ex (d + 1) 100 24 [some (vr 6 0 0), some (vi x1), some (vi x2), some (vi (nI 1))] [] r0.2))) := (ex_un d 100 300 0 [some (vr 6 0 0), some (vi x1), some (vi x2)] [] O).trans rfl
set_option maxRecDepth 100000 in
theorem sX6_build_24 (d : Nat) (O : Mem_) (x1 : Int32) (x2 : Int32) (x3 : Int32) : ex (d + 1) 100 24 [some (vr 6 0 0), some (vi x1), some (vi x2), some (vi x3)] [] O =
if (nI 3) < x3 then
(some ((oI none), O))
else
(ex (d + 1) 100 32 [some (vr 6 0 0), some (vi x1), some (vi x2), some (vi x3), some (vi (nI 0))] [] O) := (ex_un d 100 300 24 [some (vr 6 0 0), some (vi x1), some (vi x2), some (vi x3)] [] O).trans rfl
set_option maxRecDepth 100000 in
theorem sX6_build_32 (d : Nat) (O : Mem_) (x1 : Int32) (x2 : Int32) (x3 : Int32) (x4 : Int32) : ex (d + 1) 100 32 [some (vr 6 0 0), some (vi x1), some (vi x2), some (vi x3), some (vi x4)] [] O =
if x4 < (O 4 (sel (O 6 0 0 1)) 0 2) then
(if ib x1 12 then
((ex d 118 0 [some (vr 6 0 0), some (vi (O 4 (sel (O 6 0 0 1)) 10 (Int32.toNatClampNeg x1))), some (vi x3), some (vi x4)] [] O).bind fun r0 =>
if r0.1 = (-1) then
(ex (d + 1) 100 32 [some (vr 6 0 0), some (vi x1), some (vi x2), some (vi x3), some (vi (x4 + (nI 1)))] [] r0.2)
else
(if x2 = nI 0 then
(some (x3, r0.2))
else
(if x2 = (nI 1) then
(some (x4, r0.2))
else
(some (r0.1, r0.2)))))
else none)
else
(ex (d + 1) 100 24 [some (vr 6 0 0), some (vi x1), some (vi x2), some (vi (x3 + (nI 1)))] [] O) := (ex_un d 100 300 32 [some (vr 6 0 0), some (vi x1), some (vi x2), some (vi x3), some (vi x4)] [] O).trans rfl
set_option maxRecDepth 100000 in
theorem sX6_draw_0 (d : Nat) (O : Mem_) (x1 : Int32) : ex (d + 1) 101 0 [some (vr 6 0 0), some (vi x1)] [] O =
(ex d 50 0 [some (vr 4 (sel (O 6 0 0 1)) 0)] [] O).bind fun r0 =>
(ex d 58 0 [some (vr 4 (sel (O 6 0 0 1)) 0), some (vi r0.1)] [] r0.2).bind fun r1 =>
if nI 0 < r1.1 then
(if r1.1 = nI 0 then none else ex (d + 1) 101 44 [some (vr 6 0 0), none, none, some (vi ((((Int32.toUInt32 ((x1 * (nI 1103515245)) + (nI 12345)) >>> (Int32.toUInt32 (nI 16) &&& Int32.toUInt32 31)).toInt32) &&& (nI 32767)) - (((Int32.toUInt32 ((x1 * (nI 1103515245)) + (nI 12345)) >>> (Int32.toUInt32 (nI 16) &&& Int32.toUInt32 31)).toInt32) &&& (nI 32767)) / r1.1 * r1.1)), some (vi (nI 0))] [] r1.2)
else
(some ((oI none), r1.2)) := (ex_un d 101 300 0 [some (vr 6 0 0), some (vi x1)] [] O).trans rfl
set_option maxRecDepth 100000 in
theorem sX6_draw_44 (d : Nat) (O : Mem_) (x3 : Int32) (x4 : Int32) : ex (d + 1) 101 44 [some (vr 6 0 0), none, none, some (vi x3), some (vi x4)] [] O =
if x4 < (O 4 (sel (O 6 0 0 1)) 0 3) then
(if ib x4 6 then
(if (x3 - (O 4 (sel (O 6 0 0 1)) 18 (Int32.toNatClampNeg x4))) < nI 0 then
(some (x4, O))
else
(ex (d + 1) 101 44 [some (vr 6 0 0), none, none, some (vi (x3 - (O 4 (sel (O 6 0 0 1)) 18 (Int32.toNatClampNeg x4)))), some (vi (x4 + (nI 1)))] [] O))
else none)
else
(some ((oI none), O)) := (ex_un d 101 300 44 [some (vr 6 0 0), none, none, some (vi x3), some (vi x4)] [] O).trans rfl
set_option maxRecDepth 100000 in
theorem sX6_keep_0 (d : Nat) (O : Mem_) (x1 : Int32) : ex (d + 1) 102 0 [some (vr 6 0 0), some (vi x1)] [] O =
if x1 < nI 0 then
(some ((-1), O))
else
(if x1 < (nI 2) then
(if ib x1 2 then
(if (O 1 (1 + (Int32.toNatClampNeg x1)) 0 8) = nI 0 then
(ex (d + 1) 102 28 [some (vr 6 0 0), some (vi x1)] [vi (nI 0)] O)
else
(ex (d + 1) 102 28 [some (vr 6 0 0), some (vi x1)] [vi (nI 1)] O))
else none)
else
(some ((-1), O))) := (ex_un d 102 300 0 [some (vr 6 0 0), some (vi x1)] [] O).trans rfl
set_option maxRecDepth 100000 in
theorem sX6_keep_28 (d : Nat) (O : Mem_) (x1 : Int32) (y0 : Int32) : ex (d + 1) 102 28 [some (vr 6 0 0), some (vi x1)] [vi y0] O =
if ib x1 2 then
((ex d 14 0 [some (vr 1 (1 + (Int32.toNatClampNeg x1)) 0), some (vr 1 0 0)] [] O).bind fun r0 =>
if ib x1 2 then
(some (y0, (up r0.2 1 (1 + (Int32.toNatClampNeg x1)) 0 8 (nI 1))))
else none)
else none := (ex_un d 102 300 28 [some (vr 6 0 0), some (vi x1)] [vi y0] O).trans rfl
set_option maxRecDepth 100000 in
theorem sX6_back_0 (d : Nat) (O : Mem_) (x1 : Int32) : ex (d + 1) 103 0 [some (vr 6 0 0), some (vi x1)] [] O =
if x1 < nI 0 then
(some ((-1), O))
else
(if x1 < (nI 2) then
(if ib x1 2 then
(if (O 1 (1 + (Int32.toNatClampNeg x1)) 0 8) = nI 0 then
(some ((-2), O))
else
(if ib x1 2 then
((ex d 14 0 [some (vr 1 0 0), some (vr 1 (1 + (Int32.toNatClampNeg x1)) 0)] [] O).bind fun r0 =>
(ex d 112 0 [some (vr 6 0 0)] [] r0.2).bind fun r1 =>
some ((r1.2 1 0 0 0), r1.2))
else none))
else none)
else
(some ((-1), O))) := (ex_un d 103 300 0 [some (vr 6 0 0), some (vi x1)] [] O).trans rfl
set_option maxRecDepth 100000 in
theorem sX6_sheet_0 (d : Nat) (O : Mem_) (x1 : Int32) (x2 : Int32) (x3 : Int32) : ex (d + 1) 104 0 [some (vr 6 0 0), some (vi x1), some (vi x2), some (vi x3)] [] O =
if x1 < nI 0 then
(some ((-1), O))
else
(if x1 < (nI 4) then
(if x2 < nI 0 then
(some ((-1), O))
else
(if x2 < (nI 3) then
(if (nI 40) < x3 then
(some ((-1), O))
else
(if x3 < nI 0 then
(some ((-14), O))
else
((ex d 15 0 [some (vr 2 0 0), some (vi x1), some (vi x2), some (vi x3)] [] O).bind fun r0 =>
some ((nI 1), r0.2))))
else
(some ((-1), O))))
else
(some ((-1), O))) := (ex_un d 104 300 0 [some (vr 6 0 0), some (vi x1), some (vi x2), some (vi x3)] [] O).trans rfl
set_option maxRecDepth 100000 in
theorem sX6_lay_0 (d : Nat) (O : Mem_) (x1 : Int32) (x2 : Int32) (x3 : Int32) : ex (d + 1) 105 0 [some (vr 6 0 0), some (vi x1), some (vi x2), some (vi x3)] [] O =
if x1 < nI 0 then
(some ((-1), O))
else
(if x1 < (nI 4) then
((ex d 16 0 [some (vr 2 0 0), some (vi x1), some (vi x2), some (vi x3)] [] O).bind fun r0 =>
if r0.1 = nI 0 then
(some ((nI 1), r0.2))
else
(some (((-10) - r0.1), r0.2)))
else
(some ((-1), O))) := (ex_un d 105 300 0 [some (vr 6 0 0), some (vi x1), some (vi x2), some (vi x3)] [] O).trans rfl
set_option maxRecDepth 100000 in
theorem sX6_read_0 (d : Nat) (O : Mem_) (x1 : Int32) (x2 : Int32) (x3 : Int32) (x4 : Int32) : ex (d + 1) 106 0 [some (vr 6 0 0), some (vi x1), some (vi x2), some (vi x3), some (vi x4)] [] O =
if x1 < nI 0 then
(some ((-1), O))
else
(if x1 < (nI 4) then
(if x2 < nI 0 then
(some ((-1), O))
else
(if x2 < (nI 3) then
(if x4 < nI 0 then
(some ((-1), O))
else
(if (nI 13) < x4 then
(some ((-1), O))
else
(if x4 = nI 0 then
(ex (d + 1) 106 50 [some (vr 6 0 0), some (vi x1), none, some (vi x3), some (vi x4)] [vi (nI 0)] O)
else
((ex d 17 0 [some (vr 2 0 0), some (vi x1), some (vi x2)] [] O).bind fun r0 =>
ex (d + 1) 106 50 [some (vr 6 0 0), some (vi x1), none, some (vi x3), some (vi x4)] [vi r0.1] r0.2))))
else
(some ((-1), O))))
else
(some ((-1), O))) := (ex_un d 106 300 0 [some (vr 6 0 0), some (vi x1), some (vi x2), some (vi x3), some (vi x4)] [] O).trans rfl
set_option maxRecDepth 100000 in
theorem sX6_read_50 (d : Nat) (O : Mem_) (x1 : Int32) (x3 : Int32) (x4 : Int32) (y0 : Int32) : ex (d + 1) 106 50 [some (vr 6 0 0), some (vi x1), none, some (vi x3), some (vi x4)] [vi y0] O =
if y0 = nI 0 then
((ex d 18 0 [some (vr 2 0 0), some (vi x1), some (vi x3), some (vi x4)] [] O).bind fun r0 =>
ex (d + 1) 106 72 [some (vr 6 0 0), some (vi x1), none, some (vi x3), some (vi x4), some (vi y0)] [vi r0.1] r0.2)
else
(ex (d + 1) 106 72 [some (vr 6 0 0), some (vi x1), none, some (vi x3), some (vi x4), some (vi y0)] [vi (nI 0)] O) := (ex_un d 106 300 50 [some (vr 6 0 0), some (vi x1), none, some (vi x3), some (vi x4)] [vi y0] O).trans rfl
set_option maxRecDepth 100000 in
theorem sX6_read_72 (d : Nat) (O : Mem_) (x1 : Int32) (x3 : Int32) (x4 : Int32) (x5 : Int32) (y0 : Int32) : ex (d + 1) 106 72 [some (vr 6 0 0), some (vi x1), none, some (vi x3), some (vi x4), some (vi x5)] [vi y0] O =
(ex d 119 0 [some (vr 6 0 0), some (vi x1), some (vi x3), some (vi y0)] [] O).bind fun r0 =>
if r0.1 = nI 0 then
(ex (d + 1) 106 95 [some (vr 6 0 0), some (vi x1), none, some (vi x3), some (vi x4), some (vi x5), some (vi y0), none, some (vi (nI 0))] [] r0.2)
else
(some (r0.1, r0.2)) := (ex_un d 106 300 72 [some (vr 6 0 0), some (vi x1), none, some (vi x3), some (vi x4), some (vi x5)] [vi y0] O).trans rfl
set_option maxRecDepth 100000 in
theorem sX6_read_95 (d : Nat) (O : Mem_) (x1 : Int32) (x3 : Int32) (x4 : Int32) (x5 : Int32) (x6 : Int32) (x8 : Int32) : ex (d + 1) 106 95 [some (vr 6 0 0), some (vi x1), none, some (vi x3), some (vi x4), some (vi x5), some (vi x6), none, some (vi x8)] [] O =
if x8 < x6 then
((ex d 19 0 [some (vr 2 0 0), some (vi x1), some (vi (x3 + ((nI 3) * x8)))] [] O).bind fun r0 =>
(ex d 19 0 [some (vr 2 0 0), some (vi x1), some (vi ((x3 + ((nI 3) * x8)) + (nI 1)))] [] r0.2).bind fun r1 =>
(ex d 19 0 [some (vr 2 0 0), some (vi x1), some (vi ((x3 + ((nI 3) * x8)) + (nI 2)))] [] r1.2).bind fun r2 =>
if r2.1 = (nI 1) then
(ex (d + 1) 106 154 [some (vr 6 0 0), some (vi x1), none, some (vi x3), some (vi x4), some (vi x5), some (vi x6), none, some (vi x8)] [vi (nI 1), vi r1.1, vi r0.1, vr 6 0 0] r2.2)
else
(ex (d + 1) 106 154 [some (vr 6 0 0), some (vi x1), none, some (vi x3), some (vi x4), some (vi x5), some (vi x6), none, some (vi x8)] [vi (nI 0), vi r1.1, vi r0.1, vr 6 0 0] r2.2))
else
(if x5 = nI 0 then
(if x6 < x4 then
(some (x6, (up O 6 0 0 9 (nI 2))))
else
(some (x6, (up O 6 0 0 9 (nI 0)))))
else
(some (x6, (up O 6 0 0 9 x5)))) := (ex_un d 106 300 95 [some (vr 6 0 0), some (vi x1), none, some (vi x3), some (vi x4), some (vi x5), some (vi x6), none, some (vi x8)] [] O).trans rfl
set_option maxRecDepth 100000 in
theorem sX6_read_154 (d : Nat) (O : Mem_) (x1 : Int32) (x3 : Int32) (x4 : Int32) (x5 : Int32) (x6 : Int32) (x8 : Int32) (y0 : Int32) (y1 : Int32) (y2 : Int32) : ex (d + 1) 106 154 [some (vr 6 0 0), some (vi x1), none, some (vi x3), some (vi x4), some (vi x5), some (vi x6), none, some (vi x8)] [vi y0, vi y1, vi y2, vr 6 0 0] O =
(ex d 111 0 [some (vr 6 0 0), some (vi y2), some (vi y1), some (vi y0)] [] O).bind fun r0 =>
ex (d + 1) 106 95 [some (vr 6 0 0), some (vi x1), none, some (vi x3), some (vi x4), some (vi x5), some (vi x6), none, some (vi (x8 + (nI 1)))] [] r0.2 := (ex_un d 106 300 154 [some (vr 6 0 0), some (vi x1), none, some (vi x3), some (vi x4), some (vi x5), some (vi x6), none, some (vi x8)] [vi y0, vi y1, vi y2, vr 6 0 0] O).trans rfl
set_option maxRecDepth 100000 in
theorem sX6_torn_0 (d : Nat) (O : Mem_)  : ex (d + 1) 107 0 [some (vr 6 0 0)] [] O =
some ((O 6 0 0 9), O) := (ex_un d 107 300 0 [some (vr 6 0 0)] [] O).trans rfl
set_option maxRecDepth 100000 in
theorem sX6_count_0 (d : Nat) (O : Mem_) (x1 : Int32) : ex (d + 1) 108 0 [some (vr 6 0 0), some (vi x1)] [] O =
if x1 = (nI 0) then
(some ((O 4 (sel (O 6 0 0 1)) 0 0), O))
else if x1 = (nI 1) then
(some ((O 4 (sel (O 6 0 0 1)) 0 1), O))
else if x1 = (nI 2) then
(some ((O 4 (sel (O 6 0 0 1)) 0 2), O))
else if x1 = (nI 3) then
(some ((O 4 (sel (O 6 0 0 1)) 0 3), O))
else if x1 = (nI 4) then
(some ((O 1 0 0 0), O))
else if x1 = (nI 5) then
(some ((O 1 0 0 5), O))
else if x1 = (nI 6) then
((ex d 120 0 [some (vr 6 0 0)] [] O).bind fun r0 =>
some (r0.1, r0.2))
else if x1 = (nI 7) then
(some ((O 3 0 0 1), O))
else if x1 = (nI 8) then
(if ib (nI 0) 4 then
(some ((O 2 0 1 (Int32.toNatClampNeg (nI 0))), O))
else none)
else 
(some ((-1), O)) := (ex_un d 108 300 0 [some (vr 6 0 0), some (vi x1)] [] O).trans rfl
set_option maxRecDepth 100000 in
theorem sX6_isIn_0 (d : Nat) (O : Mem_) (x0 : Int32) (x1 : Int32) : ex (d + 1) 109 0 [some (vi x0), some (vi x1)] [] O =
if x0 < nI 0 then
(some ((nI 0), O))
else
(if x0 < (nI 31) then
(if ((x1 >>> (x0 &&& (31:Int32))) &&& (nI 1)) = (nI 1) then
(some ((nI 1), O))
else
(some ((nI 0), O)))
else
(some ((nI 0), O))) := (ex_un d 109 300 0 [some (vi x0), some (vi x1)] [] O).trans rfl
set_option maxRecDepth 100000 in
theorem sX6_ofLowestTerms_0 (d : Nat) (O : Mem_) (x0 : Int32) (x1 : Int32) (x2 : Int32) : ex (d + 1) 110 0 [some (vi x0), some (vi x1), some (vi x2)] [] O =
ex (d + 1) 110 8 [some (vi x0), some (vi x1), some (vi x2), some (vi x1), some (vi x0), some (vi (nI 0))] [] O := (ex_un d 110 300 0 [some (vi x0), some (vi x1), some (vi x2)] [] O).trans rfl
set_option maxRecDepth 100000 in
theorem sX6_ofLowestTerms_8 (d : Nat) (O : Mem_) (x0 : Int32) (x1 : Int32) (x2 : Int32) (x3 : Int32) (x4 : Int32) (x5 : Int32) : ex (d + 1) 110 8 [some (vi x0), some (vi x1), some (vi x2), some (vi x3), some (vi x4), some (vi x5)] [] O =
if x5 < (nI 64) then
(if x4 = nI 0 then
(ex (d + 1) 110 39 [some (vi x0), some (vi x1), some (vi x2), some (vi x3)] [] O)
else
(if x4 = nI 0 then none else ex (d + 1) 110 8 [some (vi x0), some (vi x1), some (vi x2), some (vi x4), some (vi (x3 - x3 / x4 * x4)), some (vi (x5 + (nI 1)))] [] O))
else
(ex (d + 1) 110 39 [some (vi x0), some (vi x1), some (vi x2), some (vi x3)] [] O) := (ex_un d 110 300 8 [some (vi x0), some (vi x1), some (vi x2), some (vi x3), some (vi x4), some (vi x5)] [] O).trans rfl
set_option maxRecDepth 100000 in
theorem sX6_ofLowestTerms_39 (d : Nat) (O : Mem_) (x0 : Int32) (x1 : Int32) (x2 : Int32) (x3 : Int32) : ex (d + 1) 110 39 [some (vi x0), some (vi x1), some (vi x2), some (vi x3)] [] O =
if x3 = nI 0 then
(some ((nI 0), O))
else
(if x2 = nI 0 then
(if x3 = nI 0 then none else some ((x0 / x3), O))
else
(if x3 = nI 0 then none else some ((x1 / x3), O))) := (ex_un d 110 300 39 [some (vi x0), some (vi x1), some (vi x2), some (vi x3)] [] O).trans rfl
set_option maxRecDepth 100000 in
theorem sX6_takeShowing_0 (d : Nat) (O : Mem_) (x1 : Int32) (x2 : Int32) (x3 : Int32) : ex (d + 1) 111 0 [some (vr 6 0 0), some (vi x1), some (vi x2), some (vi x3)] [] O =
if (O 1 0 0 0) < nI 0 then
(some (nI 0, O))
else
(if (O 1 0 0 0) < (nI 24) then
(if ib (O 1 0 0 0) 24 then
(if ib (O 1 0 0 0) 24 then
(if ib (O 1 0 0 0) 24 then
(if x3 = nI 0 ∨ x3 = nI 1 then
((ex d 50 0 [some (vr 4 (sel ((up (up (up (up O 1 0 2 (Int32.toNatClampNeg (O 1 0 0 0)) x1) 1 0 3 (Int32.toNatClampNeg (O 1 0 0 0)) x2) 1 0 4 (Int32.toNatClampNeg (O 1 0 0 0)) x3) 1 0 0 0 (((up (up (up O 1 0 2 (Int32.toNatClampNeg (O 1 0 0 0)) x1) 1 0 3 (Int32.toNatClampNeg (O 1 0 0 0)) x2) 1 0 4 (Int32.toNatClampNeg (O 1 0 0 0)) x3) 1 0 0 0) + (nI 1))) 6 0 0 1)) 0)] [] (up (up (up (up O 1 0 2 (Int32.toNatClampNeg (O 1 0 0 0)) x1) 1 0 3 (Int32.toNatClampNeg (O 1 0 0 0)) x2) 1 0 4 (Int32.toNatClampNeg (O 1 0 0 0)) x3) 1 0 0 0 (((up (up (up O 1 0 2 (Int32.toNatClampNeg (O 1 0 0 0)) x1) 1 0 3 (Int32.toNatClampNeg (O 1 0 0 0)) x2) 1 0 4 (Int32.toNatClampNeg (O 1 0 0 0)) x3) 1 0 0 0) + (nI 1)))).bind fun r0 =>
(ex d 2 0 [some (vr 0 0 0), some (vr 4 (sel ((up (up (up (up O 1 0 2 (Int32.toNatClampNeg (O 1 0 0 0)) x1) 1 0 3 (Int32.toNatClampNeg (O 1 0 0 0)) x2) 1 0 4 (Int32.toNatClampNeg (O 1 0 0 0)) x3) 1 0 0 0 (((up (up (up O 1 0 2 (Int32.toNatClampNeg (O 1 0 0 0)) x1) 1 0 3 (Int32.toNatClampNeg (O 1 0 0 0)) x2) 1 0 4 (Int32.toNatClampNeg (O 1 0 0 0)) x3) 1 0 0 0) + (nI 1))) 6 0 0 1)) 0), some (vi r0.1), some (vi x1), some (vi x2), some (vi x3)] [] r0.2).bind fun r1 =>
some (nI 0, r1.2))
else none)
else none)
else none)
else none)
else
(some (nI 0, O))) := (ex_un d 111 300 0 [some (vr 6 0 0), some (vi x1), some (vi x2), some (vi x3)] [] O).trans rfl
set_option maxRecDepth 100000 in
theorem sX6_thinkAgain_0 (d : Nat) (O : Mem_)  : ex (d + 1) 112 0 [some (vr 6 0 0)] [] O =
(ex d 0 0 [some (vr 0 0 0), some (vr 4 (sel (O 6 0 0 1)) 0)] [] O).bind fun r0 =>
ex (d + 1) 112 13 [some (vr 6 0 0), some (vi (nI 0))] [] r0.2 := (ex_un d 112 300 0 [some (vr 6 0 0)] [] O).trans rfl
set_option maxRecDepth 100000 in
theorem sX6_thinkAgain_13 (d : Nat) (O : Mem_) (x1 : Int32) : ex (d + 1) 112 13 [some (vr 6 0 0), some (vi x1)] [] O =
if x1 < (O 1 0 0 0) then
(if x1 < (nI 24) then
((ex d 50 0 [some (vr 4 (sel (O 6 0 0 1)) 0)] [] O).bind fun r0 =>
if ib x1 24 then
(if ib x1 24 then
(if ib x1 24 then
((ex d 2 0 [some (vr 0 0 0), some (vr 4 (sel (O 6 0 0 1)) 0), some (vi r0.1), some (vi (r0.2 1 0 2 (Int32.toNatClampNeg x1))), some (vi (r0.2 1 0 3 (Int32.toNatClampNeg x1))), some (vi (r0.2 1 0 4 (Int32.toNatClampNeg x1)))] [] r0.2).bind fun r1 =>
ex (d + 1) 112 13 [some (vr 6 0 0), some (vi (x1 + (nI 1)))] [] r1.2)
else none)
else none)
else none)
else
(some (nI 0, O)))
else
(some (nI 0, O)) := (ex_un d 112 300 13 [some (vr 6 0 0), some (vi x1)] [] O).trans rfl
set_option maxRecDepth 100000 in
theorem sX6_chanceOfFirst_0 (d : Nat) (O : Mem_) (x1 : Int32) (x2 : Int32) : ex (d + 1) 113 0 [some (vr 6 0 0), some (vi x1), some (vi x2)] [] O =
(ex d 0 0 [some (vr 0 1 0), some (vr 4 (sel (O 6 0 0 1)) 0)] [] O).bind fun r0 =>
(ex d 50 0 [some (vr 4 (sel (r0.2 6 0 0 1)) 0)] [] r0.2).bind fun r1 =>
(ex d 55 0 [some (vr 4 (sel (r1.2 6 0 0 1)) 0), some (vi x1), some (vi x2)] [] r1.2).bind fun r2 =>
(ex d 2 0 [some (vr 0 1 0), some (vr 4 (sel (r0.2 6 0 0 1)) 0), some (vi r1.1), some (vi x1), some (vi x2), some (vi r2.1)] [] r2.2).bind fun r3 =>
(ex d 10 0 [some (vr 0 1 0), some (vr 4 (sel (r3.2 6 0 0 1)) 0), some (vi x1)] [] r3.2).bind fun r4 =>
some (r4.1, r4.2) := (ex_un d 113 300 0 [some (vr 6 0 0), some (vi x1), some (vi x2)] [] O).trans rfl
set_option maxRecDepth 100000 in
theorem sX6_greatestLeft_0 (d : Nat) (O : Mem_) (x1 : Int32) (x2 : Int32) : ex (d + 1) 114 0 [some (vr 6 0 0), some (vi x1), some (vi x2)] [] O =
(ex d 12 0 [some (vr 0 0 0), some (vr 4 (sel (O 6 0 0 1)) 0), some (vi x1), some (vi x2), some (vi (nI 1))] [] O).bind fun r0 =>
(ex d 58 0 [some (vr 4 (sel (O 6 0 0 1)) 0), some (vi ((O 1 0 0 4) &&& r0.1))] [] r0.2).bind fun r1 =>
(ex d 12 0 [some (vr 0 0 0), some (vr 4 (sel (r1.2 6 0 0 1)) 0), some (vi x1), some (vi x2), some (vi (nI 0))] [] r1.2).bind fun r2 =>
(ex d 58 0 [some (vr 4 (sel (r1.2 6 0 0 1)) 0), some (vi ((r1.2 1 0 0 4) &&& r2.1))] [] r2.2).bind fun r3 =>
(ex d 12 0 [some (vr 0 0 0), some (vr 4 (sel (r3.2 6 0 0 1)) 0), some (vi x1), some (vi x2), some (vi (oI none))] [] r3.2).bind fun r4 =>
(ex d 58 0 [some (vr 4 (sel (r3.2 6 0 0 1)) 0), some (vi ((r3.2 1 0 0 4) &&& r4.1))] [] r4.2).bind fun r5 =>
some ((if r1.1 < (if r3.1 < r5.1 then r5.1 else r3.1) then (if r3.1 < r5.1 then r5.1 else r3.1) else r1.1), r5.2) := (ex_un d 114 300 0 [some (vr 6 0 0), some (vi x1), some (vi x2)] [] O).trans rfl
set_option maxRecDepth 100000 in
theorem sX6_areSure_0 (d : Nat) (O : Mem_) (x1 : Int32) (x2 : Int32) : ex (d + 1) 115 0 [some (vr 6 0 0), some (vi x1), some (vi x2)] [] O =
(ex d 53 0 [some (vr 4 (sel (O 6 0 0 1)) 0), some (vi x1)] [] O).bind fun r0 =>
ex (d + 1) 115 12 [some (vr 6 0 0), none, some (vi x2), some (vi r0.1), some (vi (nI 0))] [] r0.2 := (ex_un d 115 300 0 [some (vr 6 0 0), some (vi x1), some (vi x2)] [] O).trans rfl
set_option maxRecDepth 100000 in
theorem sX6_areSure_12 (d : Nat) (O : Mem_) (x2 : Int32) (x3 : Int32) (x4 : Int32) : ex (d + 1) 115 12 [some (vr 6 0 0), none, some (vi x2), some (vi x3), some (vi x4)] [] O =
if x4 < (O 4 (sel (O 6 0 0 1)) 0 1) then
(if ib x4 12 then
(if (O 4 (sel (O 6 0 0 1)) 10 (Int32.toNatClampNeg x4)) = x3 then
(ex (d + 1) 115 55 [some (vr 6 0 0), none, some (vi x2), some (vi x3), some (vi x4)] [vi (nI 0)] O)
else
((ex d 56 0 [some (vr 4 (sel (O 6 0 0 1)) 0), some (vi x4)] [] O).bind fun r0 =>
if r0.1 = nI 0 then
(ex (d + 1) 115 55 [some (vr 6 0 0), none, some (vi x2), some (vi x3), some (vi x4)] [vi (nI 0)] r0.2)
else
(ex (d + 1) 115 55 [some (vr 6 0 0), none, some (vi x2), some (vi x3), some (vi x4)] [vi (nI 1)] r0.2)))
else none)
else
(some ((nI 1), O)) := (ex_un d 115 300 12 [some (vr 6 0 0), none, some (vi x2), some (vi x3), some (vi x4)] [] O).trans rfl
set_option maxRecDepth 100000 in
theorem sX6_areSure_55 (d : Nat) (O : Mem_) (x2 : Int32) (x3 : Int32) (x4 : Int32) (y0 : Int32) : ex (d + 1) 115 55 [some (vr 6 0 0), none, some (vi x2), some (vi x3), some (vi x4)] [vi y0] O =
if y0 = nI 0 then
(ex (d + 1) 115 12 [some (vr 6 0 0), none, some (vi x2), some (vi x3), some (vi (x4 + (nI 1)))] [] O)
else
(if ib x4 12 then
(if (((O 4 (sel (O 6 0 0 1)) 10 (Int32.toNatClampNeg x4)) ^^^ x3) &&& x2) = nI 0 then
(some ((nI 0), O))
else
(ex (d + 1) 115 12 [some (vr 6 0 0), none, some (vi x2), some (vi x3), some (vi (x4 + (nI 1)))] [] O))
else none) := (ex_un d 115 300 55 [some (vr 6 0 0), none, some (vi x2), some (vi x3), some (vi x4)] [vi y0] O).trans rfl
set_option maxRecDepth 100000 in
theorem sX6_fittingTheirs_0 (d : Nat) (O : Mem_)  : ex (d + 1) 116 0 [some (vr 6 0 0)] [] O =
(ex d 49 0 [some (vr 4 (sel (O 6 0 0 1)) 0)] [] O).bind fun r0 =>
ex (d + 1) 116 10 [some (vr 6 0 0), some (vi r0.1), some (vi (nI 0))] [] r0.2 := (ex_un d 116 300 0 [some (vr 6 0 0)] [] O).trans rfl
set_option maxRecDepth 100000 in
theorem sX6_fittingTheirs_10 (d : Nat) (O : Mem_) (x1 : Int32) (x2 : Int32) : ex (d + 1) 116 10 [some (vr 6 0 0), some (vi x1), some (vi x2)] [] O =
if x2 < (O 1 0 0 5) then
(if x2 < (nI 12) then
(if ib x2 12 then
(if ib x2 12 then
((ex d 52 0 [some (vr 4 (sel (O 6 0 0 1)) 0), some (vi (O 1 0 7 (Int32.toNatClampNeg x2))), some (vi (O 1 0 8 (Int32.toNatClampNeg x2)))] [] O).bind fun r0 =>
ex (d + 1) 116 10 [some (vr 6 0 0), some (vi (x1 &&& r0.1)), some (vi (x2 + (nI 1)))] [] r0.2)
else none)
else none)
else
(some (x1, O)))
else
(some (x1, O)) := (ex_un d 116 300 10 [some (vr 6 0 0), some (vi x1), some (vi x2)] [] O).trans rfl
set_option maxRecDepth 100000 in
theorem sX6_mostTelling_0 (d : Nat) (O : Mem_) (x1 : Int32) : ex (d + 1) 117 0 [some (vr 6 0 0), some (vi x1)] [] O =
ex (d + 1) 117 8 [some (vr 6 0 0), some (vi x1), some (vi (oI none)), some (vi (-1)), some (vi (nI 0))] [] O := (ex_un d 117 300 0 [some (vr 6 0 0), some (vi x1)] [] O).trans rfl
set_option maxRecDepth 100000 in
theorem sX6_mostTelling_8 (d : Nat) (O : Mem_) (x1 : Int32) (x2 : Int32) (x3 : Int32) (x4 : Int32) : ex (d + 1) 117 8 [some (vr 6 0 0), some (vi x1), some (vi x2), some (vi x3), some (vi x4)] [] O =
if x4 < (O 4 (sel (O 6 0 0 1)) 0 0) then
(if ib x4 8 then
((ex d 217 0 [some (vi (x1 &&& ((O 4 (sel (O 6 0 0 1)) 6 (Int32.toNatClampNeg x4)) ^^^ (-1))))] [] O).bind fun r0 =>
if ib x4 8 then
((ex d 217 0 [some (vi (x1 &&& (r0.2 4 (sel (r0.2 6 0 0 1)) 6 (Int32.toNatClampNeg x4))))] [] r0.2).bind fun r1 =>
if x3 < (if r1.1 < r0.1 then r1.1 else r0.1) then
(ex (d + 1) 117 8 [some (vr 6 0 0), some (vi x1), some (vi x4), some (vi (if r1.1 < r0.1 then r1.1 else r0.1)), some (vi (x4 + (nI 1)))] [] r1.2)
else
(ex (d + 1) 117 8 [some (vr 6 0 0), some (vi x1), some (vi x2), some (vi x3), some (vi (x4 + (nI 1)))] [] r1.2))
else none)
else none)
else
(some (x2, O)) := (ex_un d 117 300 8 [some (vr 6 0 0), some (vi x1), some (vi x2), some (vi x3), some (vi x4)] [] O).trans rfl
set_option maxRecDepth 100000 in
theorem sX6_otherSound_0 (d : Nat) (O : Mem_) (x1 : Int32) (x2 : Int32) (x3 : Int32) : ex (d + 1) 118 0 [some (vr 6 0 0), some (vi x1), some (vi x2), some (vi x3)] [] O =
(ex d 53 0 [some (vr 4 (sel (O 6 0 0 1)) 0), some (vi x3)] [] O).bind fun r0 =>
if x2 = (nI 1) then
(if r0.1 = x1 then
(some ((oI none), r0.2))
else
(some ((-1), r0.2)))
else
(ex (d + 1) 118 31 [some (vr 6 0 0), some (vi x1), some (vi x2), some (vi x3), some (vi r0.1), some (vi (nI 0))] [] r0.2) := (ex_un d 118 300 0 [some (vr 6 0 0), some (vi x1), some (vi x2), some (vi x3)] [] O).trans rfl
set_option maxRecDepth 100000 in
theorem sX6_otherSound_31 (d : Nat) (O : Mem_) (x1 : Int32) (x2 : Int32) (x3 : Int32) (x4 : Int32) (x5 : Int32) : ex (d + 1) 118 31 [some (vr 6 0 0), some (vi x1), some (vi x2), some (vi x3), some (vi x4), some (vi x5)] [] O =
if x5 < (O 4 (sel (O 6 0 0 1)) 0 2) then
((ex d 53 0 [some (vr 4 (sel (O 6 0 0 1)) 0), some (vi x5)] [] O).bind fun r0 =>
if x2 = (nI 2) then
(ex (d + 1) 118 74 [some (vr 6 0 0), some (vi x1), some (vi x2), some (vi x3), some (vi x4), some (vi x5)] [vi (x4 &&& r0.1)] r0.2)
else
(ex (d + 1) 118 74 [some (vr 6 0 0), some (vi x1), some (vi x2), some (vi x3), some (vi x4), some (vi x5)] [vi (x4 &&& (r0.1 ^^^ (-1)))] r0.2))
else
(some ((-1), O)) := (ex_un d 118 300 31 [some (vr 6 0 0), some (vi x1), some (vi x2), some (vi x3), some (vi x4), some (vi x5)] [] O).trans rfl
set_option maxRecDepth 100000 in
theorem sX6_otherSound_74 (d : Nat) (O : Mem_) (x1 : Int32) (x2 : Int32) (x3 : Int32) (x4 : Int32) (x5 : Int32) (y0 : Int32) : ex (d + 1) 118 74 [some (vr 6 0 0), some (vi x1), some (vi x2), some (vi x3), some (vi x4), some (vi x5)] [vi y0] O =
if x5 = x3 then
(ex (d + 1) 118 31 [some (vr 6 0 0), some (vi x1), some (vi x2), some (vi x3), some (vi x4), some (vi (x5 + (nI 1)))] [] O)
else
(if y0 = x1 then
(some (x5, O))
else
(ex (d + 1) 118 31 [some (vr 6 0 0), some (vi x1), some (vi x2), some (vi x3), some (vi x4), some (vi (x5 + (nI 1)))] [] O)) := (ex_un d 118 300 74 [some (vr 6 0 0), some (vi x1), some (vi x2), some (vi x3), some (vi x4), some (vi x5)] [vi y0] O).trans rfl
set_option maxRecDepth 100000 in
theorem sX6_firstWrongRead_0 (d : Nat) (O : Mem_) (x1 : Int32) (x2 : Int32) (x3 : Int32) : ex (d + 1) 119 0 [some (vr 6 0 0), some (vi x1), some (vi x2), some (vi x3)] [] O =
ex (d + 1) 119 3 [some (vr 6 0 0), some (vi x1), some (vi x2), some (vi x3), some (vi (nI 0))] [] O := (ex_un d 119 300 0 [some (vr 6 0 0), some (vi x1), some (vi x2), some (vi x3)] [] O).trans rfl
set_option maxRecDepth 100000 in
theorem sX6_firstWrongRead_3 (d : Nat) (O : Mem_) (x1 : Int32) (x2 : Int32) (x3 : Int32) (x4 : Int32) : ex (d + 1) 119 3 [some (vr 6 0 0), some (vi x1), some (vi x2), some (vi x3), some (vi x4)] [] O =
if x4 < x3 then
((ex d 19 0 [some (vr 2 0 0), some (vi x1), some (vi ((x2 + ((nI 3) * x4)) + (nI 2)))] [] O).bind fun r0 =>
(ex d 19 0 [some (vr 2 0 0), some (vi x1), some (vi (x2 + ((nI 3) * x4)))] [] r0.2).bind fun r1 =>
(ex d 45 0 [some (vr 4 (sel (r0.2 6 0 0 1)) 0), some (vi r1.1)] [] r1.2).bind fun r2 =>
if r2.1 = nI 0 then
(ex (d + 1) 119 78 [some (vr 6 0 0), some (vi x1), some (vi x2), some (vi x3), some (vi x4), none, some (vi r0.1)] [vi (nI 0)] r2.2)
else
((ex d 19 0 [some (vr 2 0 0), some (vi x1), some (vi ((x2 + ((nI 3) * x4)) + (nI 1)))] [] r2.2).bind fun r3 =>
(ex d 43 0 [some (vr 4 (sel (r2.2 6 0 0 1)) 0), some (vi r3.1)] [] r3.2).bind fun r4 =>
if r4.1 = nI 0 then
(ex (d + 1) 119 78 [some (vr 6 0 0), some (vi x1), some (vi x2), some (vi x3), some (vi x4), none, some (vi r0.1)] [vi (nI 0)] r4.2)
else
(ex (d + 1) 119 78 [some (vr 6 0 0), some (vi x1), some (vi x2), some (vi x3), some (vi x4), none, some (vi r0.1)] [vi (nI 1)] r4.2)))
else
(some ((nI 0), O)) := (ex_un d 119 300 3 [some (vr 6 0 0), some (vi x1), some (vi x2), some (vi x3), some (vi x4)] [] O).trans rfl
set_option maxRecDepth 100000 in
theorem sX6_firstWrongRead_78 (d : Nat) (O : Mem_) (x1 : Int32) (x2 : Int32) (x3 : Int32) (x4 : Int32) (x6 : Int32) (y0 : Int32) : ex (d + 1) 119 78 [some (vr 6 0 0), some (vi x1), some (vi x2), some (vi x3), some (vi x4), none, some (vi x6)] [vi y0] O =
if y0 = nI 0 then
(some (((-20) - x4), O))
else
(if x6 = nI 0 then
(ex (d + 1) 119 102 [some (vr 6 0 0), some (vi x1), some (vi x2), some (vi x3), some (vi x4)] [] O)
else
(if x6 = (nI 1) then
(ex (d + 1) 119 102 [some (vr 6 0 0), some (vi x1), some (vi x2), some (vi x3), some (vi x4)] [] O)
else
(some (((-20) - x4), O)))) := (ex_un d 119 300 78 [some (vr 6 0 0), some (vi x1), some (vi x2), some (vi x3), some (vi x4), none, some (vi x6)] [vi y0] O).trans rfl
set_option maxRecDepth 100000 in
theorem sX6_firstWrongRead_102 (d : Nat) (O : Mem_) (x1 : Int32) (x2 : Int32) (x3 : Int32) (x4 : Int32) : ex (d + 1) 119 102 [some (vr 6 0 0), some (vi x1), some (vi x2), some (vi x3), some (vi x4)] [] O =
if ((O 1 0 0 0) + x4) < (nI 24) then
(ex (d + 1) 119 3 [some (vr 6 0 0), some (vi x1), some (vi x2), some (vi x3), some (vi (x4 + (nI 1)))] [] O)
else
(some ((-3), O)) := (ex_un d 119 300 102 [some (vr 6 0 0), some (vi x1), some (vi x2), some (vi x3), some (vi x4)] [] O).trans rfl
set_option maxRecDepth 100000 in
theorem sX6_imagesKept_0 (d : Nat) (O : Mem_)  : ex (d + 1) 120 0 [some (vr 6 0 0)] [] O =
ex (d + 1) 120 4 [some (vr 6 0 0), some (vi (nI 0)), some (vi (nI 0))] [] O := (ex_un d 120 300 0 [some (vr 6 0 0)] [] O).trans rfl
set_option maxRecDepth 100000 in
theorem sX6_imagesKept_4 (d : Nat) (O : Mem_) (x1 : Int32) (x2 : Int32) : ex (d + 1) 120 4 [some (vr 6 0 0), some (vi x1), some (vi x2)] [] O =
if x2 < (nI 2) then
(if ib x2 2 then
(if (O 1 (1 + (Int32.toNatClampNeg x2)) 0 8) = nI 0 then
(ex (d + 1) 120 4 [some (vr 6 0 0), some (vi x1), some (vi (x2 + (nI 1)))] [] O)
else
(ex (d + 1) 120 4 [some (vr 6 0 0), some (vi (x1 + (nI 1))), some (vi (x2 + (nI 1)))] [] O))
else none)
else
(some (x1, O)) := (ex_un d 120 300 4 [some (vr 6 0 0), some (vi x1), some (vi x2)] [] O).trans rfl
