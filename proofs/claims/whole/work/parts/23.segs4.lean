set_option maxRecDepth 100000 in
theorem sL_law_18 (d : Nat) (O : Mem_) (x3 : Int32) : ex (d + 1) 218 18 [some (vr 8 0 0), some (vr 6 0 0), some (vr 7 0 0), some (vi x3)] [] O =
if ((O 8 0 1 0) - (nI 5)) < x3 then
(some ((nI 1), O))
else
(if ib x3 (O 8 0 1 0).toNatClampNeg then
(if ((O 8 0 0 (Int32.toNatClampNeg x3)) &&& (nI 63)) = (nI 0) then
(if ib (x3 + (nI 1)) (O 8 0 1 0).toNatClampNeg then
(if ib (x3 + (nI 2)) (O 8 0 1 0).toNatClampNeg then
((ex d 67 0 [some (vr 6 0 0), some (vl (((Int32.toInt64 (O 8 0 0 (Int32.toNatClampNeg (x3 + (nI 1))))) <<< (Int32.toInt64 (nI 32) &&& 63)) ||| ((Int32.toInt64 (O 8 0 0 (Int32.toNatClampNeg (x3 + (nI 2))))) &&& (4294967295)))), none] [] O).bind fun r0 =>
if ib (x3 + (nI 1)) (r0.2 8 0 1 0).toNatClampNeg then
(if ib (x3 + (nI 2)) (r0.2 8 0 1 0).toNatClampNeg then
((ex d 126 0 [some (vr 7 0 0), some (vl (((Int32.toInt64 (r0.2 8 0 0 (Int32.toNatClampNeg (x3 + (nI 1))))) <<< (Int32.toInt64 (nI 32) &&& 63)) ||| ((Int32.toInt64 (r0.2 8 0 0 (Int32.toNatClampNeg (x3 + (nI 2))))) &&& (4294967295)))), none] [] r0.2).bind fun r1 =>
if r0.1 = r1.1 then
(ex (d + 1) 218 18 [some (vr 8 0 0), some (vr 6 0 0), some (vr 7 0 0), some (vi (x3 + (nI 5)))] [] r1.2)
else
(some ((nI 0), r1.2)))
else none)
else none)
else none)
else none)
else if ((O 8 0 0 (Int32.toNatClampNeg x3)) &&& (nI 63)) = (nI 1) then
(if ib (x3 + (nI 1)) (O 8 0 1 0).toNatClampNeg then
((ex d 68 0 [some (vr 6 0 0), some (vi (O 8 0 0 (Int32.toNatClampNeg (x3 + (nI 1)))))] [] O).bind fun r2 =>
if ib (x3 + (nI 1)) (r2.2 8 0 1 0).toNatClampNeg then
((ex d 127 0 [some (vr 7 0 0), some (vi (r2.2 8 0 0 (Int32.toNatClampNeg (x3 + (nI 1)))))] [] r2.2).bind fun r3 =>
if r2.1 = r3.1 then
(ex (d + 1) 218 18 [some (vr 8 0 0), some (vr 6 0 0), some (vr 7 0 0), some (vi (x3 + (nI 5)))] [] r3.2)
else
(some ((nI 0), r3.2)))
else none)
else none)
else if ((O 8 0 0 (Int32.toNatClampNeg x3)) &&& (nI 63)) = (nI 2) then
((ex d 69 0 [some (vr 6 0 0)] [] O).bind fun r4 =>
(ex d 140 0 [some (vr 7 0 0)] [] r4.2).bind fun r5 =>
if r4.1 = r5.1 then
(ex (d + 1) 218 18 [some (vr 8 0 0), some (vr 6 0 0), some (vr 7 0 0), some (vi (x3 + (nI 5)))] [] r5.2)
else
(some ((nI 0), r5.2)))
else if ((O 8 0 0 (Int32.toNatClampNeg x3)) &&& (nI 63)) = (nI 3) then
((ex d 70 0 [some (vr 6 0 0)] [] O).bind fun r6 =>
(ex d 141 0 [some (vr 7 0 0)] [] r6.2).bind fun r7 =>
if r6.1 = r7.1 then
(ex (d + 1) 218 18 [some (vr 8 0 0), some (vr 6 0 0), some (vr 7 0 0), some (vi (x3 + (nI 5)))] [] r7.2)
else
(some ((nI 0), r7.2)))
else if ((O 8 0 0 (Int32.toNatClampNeg x3)) &&& (nI 63)) = (nI 4) then
(if ib (x3 + (nI 1)) (O 8 0 1 0).toNatClampNeg then
((ex d 71 0 [some (vr 6 0 0), some (vi (O 8 0 0 (Int32.toNatClampNeg (x3 + (nI 1)))))] [] O).bind fun r8 =>
if ib (x3 + (nI 1)) (r8.2 8 0 1 0).toNatClampNeg then
((ex d 149 0 [some (vr 7 0 0), some (vi (r8.2 8 0 0 (Int32.toNatClampNeg (x3 + (nI 1)))))] [] r8.2).bind fun r9 =>
if r8.1 = r9.1 then
(ex (d + 1) 218 18 [some (vr 8 0 0), some (vr 6 0 0), some (vr 7 0 0), some (vi (x3 + (nI 5)))] [] r9.2)
else
(some ((nI 0), r9.2)))
else none)
else none)
else if ((O 8 0 0 (Int32.toNatClampNeg x3)) &&& (nI 63)) = (nI 5) then
(if ib (x3 + (nI 1)) (O 8 0 1 0).toNatClampNeg then
(if ib (x3 + (nI 2)) (O 8 0 1 0).toNatClampNeg then
((ex d 72 0 [some (vr 6 0 0), some (vi (O 8 0 0 (Int32.toNatClampNeg (x3 + (nI 1))))), some (vi (O 8 0 0 (Int32.toNatClampNeg (x3 + (nI 2)))))] [] O).bind fun r10 =>
if ib (x3 + (nI 1)) (r10.2 8 0 1 0).toNatClampNeg then
(if ib (x3 + (nI 2)) (r10.2 8 0 1 0).toNatClampNeg then
((ex d 150 0 [some (vr 7 0 0), some (vi (r10.2 8 0 0 (Int32.toNatClampNeg (x3 + (nI 1))))), some (vi (r10.2 8 0 0 (Int32.toNatClampNeg (x3 + (nI 2)))))] [] r10.2).bind fun r11 =>
if r10.1 = r11.1 then
(ex (d + 1) 218 18 [some (vr 8 0 0), some (vr 6 0 0), some (vr 7 0 0), some (vi (x3 + (nI 5)))] [] r11.2)
else
(some ((nI 0), r11.2)))
else none)
else none)
else none)
else none)
else if ((O 8 0 0 (Int32.toNatClampNeg x3)) &&& (nI 63)) = (nI 6) then
(if ib (x3 + (nI 1)) (O 8 0 1 0).toNatClampNeg then
((ex d 73 0 [some (vr 6 0 0), some (vi (O 8 0 0 (Int32.toNatClampNeg (x3 + (nI 1)))))] [] O).bind fun r12 =>
if ib (x3 + (nI 1)) (r12.2 8 0 1 0).toNatClampNeg then
((ex d 151 0 [some (vr 7 0 0), some (vi (r12.2 8 0 0 (Int32.toNatClampNeg (x3 + (nI 1)))))] [] r12.2).bind fun r13 =>
if r12.1 = r13.1 then
(ex (d + 1) 218 18 [some (vr 8 0 0), some (vr 6 0 0), some (vr 7 0 0), some (vi (x3 + (nI 5)))] [] r13.2)
else
(some ((nI 0), r13.2)))
else none)
else none)
else if ((O 8 0 0 (Int32.toNatClampNeg x3)) &&& (nI 63)) = (nI 7) then
(if ib (x3 + (nI 1)) (O 8 0 1 0).toNatClampNeg then
(if ib (x3 + (nI 2)) (O 8 0 1 0).toNatClampNeg then
((ex d 74 0 [some (vr 6 0 0), some (vi (O 8 0 0 (Int32.toNatClampNeg (x3 + (nI 1))))), some (vi (O 8 0 0 (Int32.toNatClampNeg (x3 + (nI 2)))))] [] O).bind fun r14 =>
if ib (x3 + (nI 1)) (r14.2 8 0 1 0).toNatClampNeg then
(if ib (x3 + (nI 2)) (r14.2 8 0 1 0).toNatClampNeg then
((ex d 152 0 [some (vr 7 0 0), some (vi (r14.2 8 0 0 (Int32.toNatClampNeg (x3 + (nI 1))))), some (vi (r14.2 8 0 0 (Int32.toNatClampNeg (x3 + (nI 2)))))] [] r14.2).bind fun r15 =>
if r14.1 = r15.1 then
(ex (d + 1) 218 18 [some (vr 8 0 0), some (vr 6 0 0), some (vr 7 0 0), some (vi (x3 + (nI 5)))] [] r15.2)
else
(some ((nI 0), r15.2)))
else none)
else none)
else none)
else none)
else if ((O 8 0 0 (Int32.toNatClampNeg x3)) &&& (nI 63)) = (nI 8) then
(if ib (x3 + (nI 1)) (O 8 0 1 0).toNatClampNeg then
(if ib (x3 + (nI 2)) (O 8 0 1 0).toNatClampNeg then
(if ib (x3 + (nI 3)) (O 8 0 1 0).toNatClampNeg then
(if (O 8 0 0 (Int32.toNatClampNeg (x3 + (nI 3)))) = nI 0 then
(ex (d + 1) 218 454 [some (vr 8 0 0), some (vr 6 0 0), some (vr 7 0 0), some (vi x3)] [vi (nI 0), vi (O 8 0 0 (Int32.toNatClampNeg (x3 + (nI 2)))), vi (O 8 0 0 (Int32.toNatClampNeg (x3 + (nI 1)))), vr 6 0 0] O)
else
(ex (d + 1) 218 454 [some (vr 8 0 0), some (vr 6 0 0), some (vr 7 0 0), some (vi x3)] [vi (nI 1), vi (O 8 0 0 (Int32.toNatClampNeg (x3 + (nI 2)))), vi (O 8 0 0 (Int32.toNatClampNeg (x3 + (nI 1)))), vr 6 0 0] O))
else none)
else none)
else none)
else if ((O 8 0 0 (Int32.toNatClampNeg x3)) &&& (nI 63)) = (nI 9) then
(if ib (x3 + (nI 1)) (O 8 0 1 0).toNatClampNeg then
(if ib (x3 + (nI 2)) (O 8 0 1 0).toNatClampNeg then
((ex d 76 0 [some (vr 6 0 0), some (vi (O 8 0 0 (Int32.toNatClampNeg (x3 + (nI 1))))), some (vi (O 8 0 0 (Int32.toNatClampNeg (x3 + (nI 2)))))] [] O).bind fun r16 =>
if ib (x3 + (nI 1)) (r16.2 8 0 1 0).toNatClampNeg then
(if ib (x3 + (nI 2)) (r16.2 8 0 1 0).toNatClampNeg then
((ex d 166 0 [some (vr 7 0 0), some (vi (r16.2 8 0 0 (Int32.toNatClampNeg (x3 + (nI 1))))), some (vi (r16.2 8 0 0 (Int32.toNatClampNeg (x3 + (nI 2)))))] [] r16.2).bind fun r17 =>
if r16.1 = r17.1 then
(ex (d + 1) 218 18 [some (vr 8 0 0), some (vr 6 0 0), some (vr 7 0 0), some (vi (x3 + (nI 5)))] [] r17.2)
else
(some ((nI 0), r17.2)))
else none)
else none)
else none)
else none)
else if ((O 8 0 0 (Int32.toNatClampNeg x3)) &&& (nI 63)) = (nI 10) then
((ex d 77 0 [some (vr 6 0 0)] [] O).bind fun r18 =>
(ex d 167 0 [some (vr 7 0 0)] [] r18.2).bind fun r19 =>
if r18.1 = r19.1 then
(ex (d + 1) 218 18 [some (vr 8 0 0), some (vr 6 0 0), some (vr 7 0 0), some (vi (x3 + (nI 5)))] [] r19.2)
else
(some ((nI 0), r19.2)))
else if ((O 8 0 0 (Int32.toNatClampNeg x3)) &&& (nI 63)) = (nI 11) then
((ex d 78 0 [some (vr 6 0 0)] [] O).bind fun r20 =>
(ex d 168 0 [some (vr 7 0 0)] [] r20.2).bind fun r21 =>
if r20.1 = r21.1 then
(ex (d + 1) 218 18 [some (vr 8 0 0), some (vr 6 0 0), some (vr 7 0 0), some (vi (x3 + (nI 5)))] [] r21.2)
else
(some ((nI 0), r21.2)))
else if ((O 8 0 0 (Int32.toNatClampNeg x3)) &&& (nI 63)) = (nI 12) then
(if ib (x3 + (nI 1)) (O 8 0 1 0).toNatClampNeg then
(if ib (x3 + (nI 2)) (O 8 0 1 0).toNatClampNeg then
((ex d 79 0 [some (vr 6 0 0), some (vi (O 8 0 0 (Int32.toNatClampNeg (x3 + (nI 1))))), some (vi (O 8 0 0 (Int32.toNatClampNeg (x3 + (nI 2)))))] [] O).bind fun r22 =>
if ib (x3 + (nI 1)) (r22.2 8 0 1 0).toNatClampNeg then
(if ib (x3 + (nI 2)) (r22.2 8 0 1 0).toNatClampNeg then
((ex d 169 0 [some (vr 7 0 0), some (vi (r22.2 8 0 0 (Int32.toNatClampNeg (x3 + (nI 1))))), some (vi (r22.2 8 0 0 (Int32.toNatClampNeg (x3 + (nI 2)))))] [] r22.2).bind fun r23 =>
if r22.1 = r23.1 then
(ex (d + 1) 218 18 [some (vr 8 0 0), some (vr 6 0 0), some (vr 7 0 0), some (vi (x3 + (nI 5)))] [] r23.2)
else
(some ((nI 0), r23.2)))
else none)
else none)
else none)
else none)
else if ((O 8 0 0 (Int32.toNatClampNeg x3)) &&& (nI 63)) = (nI 13) then
(if ib (x3 + (nI 1)) (O 8 0 1 0).toNatClampNeg then
(if ib (x3 + (nI 2)) (O 8 0 1 0).toNatClampNeg then
((ex d 80 0 [some (vr 6 0 0), some (vi (O 8 0 0 (Int32.toNatClampNeg (x3 + (nI 1))))), some (vi (O 8 0 0 (Int32.toNatClampNeg (x3 + (nI 2)))))] [] O).bind fun r24 =>
if ib (x3 + (nI 1)) (r24.2 8 0 1 0).toNatClampNeg then
(if ib (x3 + (nI 2)) (r24.2 8 0 1 0).toNatClampNeg then
((ex d 170 0 [some (vr 7 0 0), some (vi (r24.2 8 0 0 (Int32.toNatClampNeg (x3 + (nI 1))))), some (vi (r24.2 8 0 0 (Int32.toNatClampNeg (x3 + (nI 2)))))] [] r24.2).bind fun r25 =>
if r24.1 = r25.1 then
(ex (d + 1) 218 18 [some (vr 8 0 0), some (vr 6 0 0), some (vr 7 0 0), some (vi (x3 + (nI 5)))] [] r25.2)
else
(some ((nI 0), r25.2)))
else none)
else none)
else none)
else none)
else if ((O 8 0 0 (Int32.toNatClampNeg x3)) &&& (nI 63)) = (nI 14) then
(if ib (x3 + (nI 1)) (O 8 0 1 0).toNatClampNeg then
(if ib (x3 + (nI 2)) (O 8 0 1 0).toNatClampNeg then
((ex d 81 0 [some (vr 6 0 0), some (vi (O 8 0 0 (Int32.toNatClampNeg (x3 + (nI 1))))), some (vi (O 8 0 0 (Int32.toNatClampNeg (x3 + (nI 2)))))] [] O).bind fun r26 =>
if ib (x3 + (nI 1)) (r26.2 8 0 1 0).toNatClampNeg then
(if ib (x3 + (nI 2)) (r26.2 8 0 1 0).toNatClampNeg then
((ex d 171 0 [some (vr 7 0 0), some (vi (r26.2 8 0 0 (Int32.toNatClampNeg (x3 + (nI 1))))), some (vi (r26.2 8 0 0 (Int32.toNatClampNeg (x3 + (nI 2)))))] [] r26.2).bind fun r27 =>
if r26.1 = r27.1 then
(ex (d + 1) 218 18 [some (vr 8 0 0), some (vr 6 0 0), some (vr 7 0 0), some (vi (x3 + (nI 5)))] [] r27.2)
else
(some ((nI 0), r27.2)))
else none)
else none)
else none)
else none)
else if ((O 8 0 0 (Int32.toNatClampNeg x3)) &&& (nI 63)) = (nI 15) then
(if ib (x3 + (nI 1)) (O 8 0 1 0).toNatClampNeg then
(if ib (x3 + (nI 2)) (O 8 0 1 0).toNatClampNeg then
((ex d 82 0 [some (vr 6 0 0), some (vi (O 8 0 0 (Int32.toNatClampNeg (x3 + (nI 1))))), some (vi (O 8 0 0 (Int32.toNatClampNeg (x3 + (nI 2)))))] [] O).bind fun r28 =>
if ib (x3 + (nI 1)) (r28.2 8 0 1 0).toNatClampNeg then
(if ib (x3 + (nI 2)) (r28.2 8 0 1 0).toNatClampNeg then
((ex d 173 0 [some (vr 7 0 0), some (vi (r28.2 8 0 0 (Int32.toNatClampNeg (x3 + (nI 1))))), some (vi (r28.2 8 0 0 (Int32.toNatClampNeg (x3 + (nI 2)))))] [] r28.2).bind fun r29 =>
if r28.1 = r29.1 then
(ex (d + 1) 218 18 [some (vr 8 0 0), some (vr 6 0 0), some (vr 7 0 0), some (vi (x3 + (nI 5)))] [] r29.2)
else
(some ((nI 0), r29.2)))
else none)
else none)
else none)
else none)
else if ((O 8 0 0 (Int32.toNatClampNeg x3)) &&& (nI 63)) = (nI 16) then
(if ib (x3 + (nI 1)) (O 8 0 1 0).toNatClampNeg then
((ex d 83 0 [some (vr 6 0 0), some (vi (O 8 0 0 (Int32.toNatClampNeg (x3 + (nI 1)))))] [] O).bind fun r30 =>
if ib (x3 + (nI 1)) (r30.2 8 0 1 0).toNatClampNeg then
((ex d 174 0 [some (vr 7 0 0), some (vi (r30.2 8 0 0 (Int32.toNatClampNeg (x3 + (nI 1)))))] [] r30.2).bind fun r31 =>
if r30.1 = r31.1 then
(ex (d + 1) 218 18 [some (vr 8 0 0), some (vr 6 0 0), some (vr 7 0 0), some (vi (x3 + (nI 5)))] [] r31.2)
else
(some ((nI 0), r31.2)))
else none)
else none)
else if ((O 8 0 0 (Int32.toNatClampNeg x3)) &&& (nI 63)) = (nI 17) then
(if ib (x3 + (nI 1)) (O 8 0 1 0).toNatClampNeg then
(if ib (x3 + (nI 2)) (O 8 0 1 0).toNatClampNeg then
((ex d 84 0 [some (vr 6 0 0), some (vi (O 8 0 0 (Int32.toNatClampNeg (x3 + (nI 1))))), some (vi (O 8 0 0 (Int32.toNatClampNeg (x3 + (nI 2)))))] [] O).bind fun r32 =>
if ib (x3 + (nI 1)) (r32.2 8 0 1 0).toNatClampNeg then
(if ib (x3 + (nI 2)) (r32.2 8 0 1 0).toNatClampNeg then
((ex d 175 0 [some (vr 7 0 0), some (vi (r32.2 8 0 0 (Int32.toNatClampNeg (x3 + (nI 1))))), some (vi (r32.2 8 0 0 (Int32.toNatClampNeg (x3 + (nI 2)))))] [] r32.2).bind fun r33 =>
if r32.1 = r33.1 then
(ex (d + 1) 218 18 [some (vr 8 0 0), some (vr 6 0 0), some (vr 7 0 0), some (vi (x3 + (nI 5)))] [] r33.2)
else
(some ((nI 0), r33.2)))
else none)
else none)
else none)
else none)
else if ((O 8 0 0 (Int32.toNatClampNeg x3)) &&& (nI 63)) = (nI 18) then
(if ib (x3 + (nI 1)) (O 8 0 1 0).toNatClampNeg then
((ex d 85 0 [some (vr 6 0 0), some (vi (O 8 0 0 (Int32.toNatClampNeg (x3 + (nI 1)))))] [] O).bind fun r34 =>
if ib (x3 + (nI 1)) (r34.2 8 0 1 0).toNatClampNeg then
((ex d 177 0 [some (vr 7 0 0), some (vi (r34.2 8 0 0 (Int32.toNatClampNeg (x3 + (nI 1)))))] [] r34.2).bind fun r35 =>
if r34.1 = r35.1 then
(ex (d + 1) 218 18 [some (vr 8 0 0), some (vr 6 0 0), some (vr 7 0 0), some (vi (x3 + (nI 5)))] [] r35.2)
else
(some ((nI 0), r35.2)))
else none)
else none)
else if ((O 8 0 0 (Int32.toNatClampNeg x3)) &&& (nI 63)) = (nI 19) then
(if ib (x3 + (nI 1)) (O 8 0 1 0).toNatClampNeg then
(if ib (x3 + (nI 2)) (O 8 0 1 0).toNatClampNeg then
(if ib (x3 + (nI 3)) (O 8 0 1 0).toNatClampNeg then
((ex d 86 0 [some (vr 6 0 0), some (vi (O 8 0 0 (Int32.toNatClampNeg (x3 + (nI 1))))), some (vi (O 8 0 0 (Int32.toNatClampNeg (x3 + (nI 2))))), some (vi (O 8 0 0 (Int32.toNatClampNeg (x3 + (nI 3)))))] [] O).bind fun r36 =>
if ib (x3 + (nI 1)) (r36.2 8 0 1 0).toNatClampNeg then
(if ib (x3 + (nI 2)) (r36.2 8 0 1 0).toNatClampNeg then
(if ib (x3 + (nI 3)) (r36.2 8 0 1 0).toNatClampNeg then
((ex d 183 0 [some (vr 7 0 0), some (vi (r36.2 8 0 0 (Int32.toNatClampNeg (x3 + (nI 1))))), some (vi (r36.2 8 0 0 (Int32.toNatClampNeg (x3 + (nI 2))))), some (vi (r36.2 8 0 0 (Int32.toNatClampNeg (x3 + (nI 3)))))] [] r36.2).bind fun r37 =>
if r36.1 = r37.1 then
(ex (d + 1) 218 18 [some (vr 8 0 0), some (vr 6 0 0), some (vr 7 0 0), some (vi (x3 + (nI 5)))] [] r37.2)
else
(some ((nI 0), r37.2)))
else none)
else none)
else none)
else none)
else none)
else none)
else if ((O 8 0 0 (Int32.toNatClampNeg x3)) &&& (nI 63)) = (nI 20) then
(if ib (x3 + (nI 1)) (O 8 0 1 0).toNatClampNeg then
(if ib (x3 + (nI 2)) (O 8 0 1 0).toNatClampNeg then
((ex d 87 0 [some (vr 6 0 0), some (vi (O 8 0 0 (Int32.toNatClampNeg (x3 + (nI 1))))), some (vi (O 8 0 0 (Int32.toNatClampNeg (x3 + (nI 2)))))] [] O).bind fun r38 =>
if ib (x3 + (nI 1)) (r38.2 8 0 1 0).toNatClampNeg then
(if ib (x3 + (nI 2)) (r38.2 8 0 1 0).toNatClampNeg then
((ex d 184 0 [some (vr 7 0 0), some (vi (r38.2 8 0 0 (Int32.toNatClampNeg (x3 + (nI 1))))), some (vi (r38.2 8 0 0 (Int32.toNatClampNeg (x3 + (nI 2)))))] [] r38.2).bind fun r39 =>
if r38.1 = r39.1 then
(ex (d + 1) 218 18 [some (vr 8 0 0), some (vr 6 0 0), some (vr 7 0 0), some (vi (x3 + (nI 5)))] [] r39.2)
else
(some ((nI 0), r39.2)))
else none)
else none)
else none)
else none)
else if ((O 8 0 0 (Int32.toNatClampNeg x3)) &&& (nI 63)) = (nI 21) then
(if ib (x3 + (nI 1)) (O 8 0 1 0).toNatClampNeg then
(if ib (x3 + (nI 2)) (O 8 0 1 0).toNatClampNeg then
((ex d 88 0 [some (vr 6 0 0), some (vi (O 8 0 0 (Int32.toNatClampNeg (x3 + (nI 1))))), some (vi (O 8 0 0 (Int32.toNatClampNeg (x3 + (nI 2)))))] [] O).bind fun r40 =>
if ib (x3 + (nI 1)) (r40.2 8 0 1 0).toNatClampNeg then
(if ib (x3 + (nI 2)) (r40.2 8 0 1 0).toNatClampNeg then
((ex d 187 0 [some (vr 7 0 0), some (vi (r40.2 8 0 0 (Int32.toNatClampNeg (x3 + (nI 1))))), some (vi (r40.2 8 0 0 (Int32.toNatClampNeg (x3 + (nI 2)))))] [] r40.2).bind fun r41 =>
if r40.1 = r41.1 then
(ex (d + 1) 218 18 [some (vr 8 0 0), some (vr 6 0 0), some (vr 7 0 0), some (vi (x3 + (nI 5)))] [] r41.2)
else
(some ((nI 0), r41.2)))
else none)
else none)
else none)
else none)
else if ((O 8 0 0 (Int32.toNatClampNeg x3)) &&& (nI 63)) = (nI 22) then
(if ib (x3 + (nI 1)) (O 8 0 1 0).toNatClampNeg then
(if ib (x3 + (nI 2)) (O 8 0 1 0).toNatClampNeg then
((ex d 89 0 [some (vr 6 0 0), some (vi (O 8 0 0 (Int32.toNatClampNeg (x3 + (nI 1))))), some (vi (O 8 0 0 (Int32.toNatClampNeg (x3 + (nI 2)))))] [] O).bind fun r42 =>
if ib (x3 + (nI 1)) (r42.2 8 0 1 0).toNatClampNeg then
(if ib (x3 + (nI 2)) (r42.2 8 0 1 0).toNatClampNeg then
((ex d 192 0 [some (vr 7 0 0), some (vi (r42.2 8 0 0 (Int32.toNatClampNeg (x3 + (nI 1))))), some (vi (r42.2 8 0 0 (Int32.toNatClampNeg (x3 + (nI 2)))))] [] r42.2).bind fun r43 =>
if r42.1 = r43.1 then
(ex (d + 1) 218 18 [some (vr 8 0 0), some (vr 6 0 0), some (vr 7 0 0), some (vi (x3 + (nI 5)))] [] r43.2)
else
(some ((nI 0), r43.2)))
else none)
else none)
else none)
else none)
else if ((O 8 0 0 (Int32.toNatClampNeg x3)) &&& (nI 63)) = (nI 23) then
(if ib (x3 + (nI 1)) (O 8 0 1 0).toNatClampNeg then
((ex d 90 0 [some (vr 6 0 0), some (vi (O 8 0 0 (Int32.toNatClampNeg (x3 + (nI 1)))))] [] O).bind fun r44 =>
if ib (x3 + (nI 1)) (r44.2 8 0 1 0).toNatClampNeg then
((ex d 193 0 [some (vr 7 0 0), some (vi (r44.2 8 0 0 (Int32.toNatClampNeg (x3 + (nI 1)))))] [] r44.2).bind fun r45 =>
if r44.1 = r45.1 then
(ex (d + 1) 218 18 [some (vr 8 0 0), some (vr 6 0 0), some (vr 7 0 0), some (vi (x3 + (nI 5)))] [] r45.2)
else
(some ((nI 0), r45.2)))
else none)
else none)
else if ((O 8 0 0 (Int32.toNatClampNeg x3)) &&& (nI 63)) = (nI 24) then
(if ib (x3 + (nI 1)) (O 8 0 1 0).toNatClampNeg then
(if ib (x3 + (nI 2)) (O 8 0 1 0).toNatClampNeg then
(if ib (x3 + (nI 3)) (O 8 0 1 0).toNatClampNeg then
((ex d 91 0 [some (vr 6 0 0), some (vi (O 8 0 0 (Int32.toNatClampNeg (x3 + (nI 1))))), some (vi (O 8 0 0 (Int32.toNatClampNeg (x3 + (nI 2))))), some (vi (O 8 0 0 (Int32.toNatClampNeg (x3 + (nI 3)))))] [] O).bind fun r46 =>
if ib (x3 + (nI 1)) (r46.2 8 0 1 0).toNatClampNeg then
(if ib (x3 + (nI 2)) (r46.2 8 0 1 0).toNatClampNeg then
(if ib (x3 + (nI 3)) (r46.2 8 0 1 0).toNatClampNeg then
((ex d 195 0 [some (vr 7 0 0), some (vi (r46.2 8 0 0 (Int32.toNatClampNeg (x3 + (nI 1))))), some (vi (r46.2 8 0 0 (Int32.toNatClampNeg (x3 + (nI 2))))), some (vi (r46.2 8 0 0 (Int32.toNatClampNeg (x3 + (nI 3)))))] [] r46.2).bind fun r47 =>
if r46.1 = r47.1 then
(ex (d + 1) 218 18 [some (vr 8 0 0), some (vr 6 0 0), some (vr 7 0 0), some (vi (x3 + (nI 5)))] [] r47.2)
else
(some ((nI 0), r47.2)))
else none)
else none)
else none)
else none)
else none)
else none)
else if ((O 8 0 0 (Int32.toNatClampNeg x3)) &&& (nI 63)) = (nI 25) then
(if ib (x3 + (nI 1)) (O 8 0 1 0).toNatClampNeg then
(if ib (x3 + (nI 2)) (O 8 0 1 0).toNatClampNeg then
(if ib (x3 + (nI 3)) (O 8 0 1 0).toNatClampNeg then
((ex d 92 0 [some (vr 6 0 0), some (vi (O 8 0 0 (Int32.toNatClampNeg (x3 + (nI 1))))), some (vi (O 8 0 0 (Int32.toNatClampNeg (x3 + (nI 2))))), some (vi (O 8 0 0 (Int32.toNatClampNeg (x3 + (nI 3)))))] [] O).bind fun r48 =>
if ib (x3 + (nI 1)) (r48.2 8 0 1 0).toNatClampNeg then
(if ib (x3 + (nI 2)) (r48.2 8 0 1 0).toNatClampNeg then
(if ib (x3 + (nI 3)) (r48.2 8 0 1 0).toNatClampNeg then
((ex d 197 0 [some (vr 7 0 0), some (vi (r48.2 8 0 0 (Int32.toNatClampNeg (x3 + (nI 1))))), some (vi (r48.2 8 0 0 (Int32.toNatClampNeg (x3 + (nI 2))))), some (vi (r48.2 8 0 0 (Int32.toNatClampNeg (x3 + (nI 3)))))] [] r48.2).bind fun r49 =>
if r48.1 = r49.1 then
(ex (d + 1) 218 18 [some (vr 8 0 0), some (vr 6 0 0), some (vr 7 0 0), some (vi (x3 + (nI 5)))] [] r49.2)
else
(some ((nI 0), r49.2)))
else none)
else none)
else none)
else none)
else none)
else none)
else if ((O 8 0 0 (Int32.toNatClampNeg x3)) &&& (nI 63)) = (nI 26) then
(if ib (x3 + (nI 1)) (O 8 0 1 0).toNatClampNeg then
((ex d 93 0 [some (vr 6 0 0), some (vi (O 8 0 0 (Int32.toNatClampNeg (x3 + (nI 1)))))] [] O).bind fun r50 =>
if ib (x3 + (nI 1)) (r50.2 8 0 1 0).toNatClampNeg then
((ex d 198 0 [some (vr 7 0 0), some (vi (r50.2 8 0 0 (Int32.toNatClampNeg (x3 + (nI 1)))))] [] r50.2).bind fun r51 =>
if r50.1 = r51.1 then
(ex (d + 1) 218 18 [some (vr 8 0 0), some (vr 6 0 0), some (vr 7 0 0), some (vi (x3 + (nI 5)))] [] r51.2)
else
(some ((nI 0), r51.2)))
else none)
else none)
else if ((O 8 0 0 (Int32.toNatClampNeg x3)) &&& (nI 63)) = (nI 27) then
(if ib (x3 + (nI 1)) (O 8 0 1 0).toNatClampNeg then
((ex d 94 0 [some (vr 6 0 0), some (vi (O 8 0 0 (Int32.toNatClampNeg (x3 + (nI 1)))))] [] O).bind fun r52 =>
if ib (x3 + (nI 1)) (r52.2 8 0 1 0).toNatClampNeg then
((ex d 199 0 [some (vr 7 0 0), some (vi (r52.2 8 0 0 (Int32.toNatClampNeg (x3 + (nI 1)))))] [] r52.2).bind fun r53 =>
if r52.1 = r53.1 then
(ex (d + 1) 218 18 [some (vr 8 0 0), some (vr 6 0 0), some (vr 7 0 0), some (vi (x3 + (nI 5)))] [] r53.2)
else
(some ((nI 0), r53.2)))
else none)
else none)
else if ((O 8 0 0 (Int32.toNatClampNeg x3)) &&& (nI 63)) = (nI 28) then
(if ib (x3 + (nI 1)) (O 8 0 1 0).toNatClampNeg then
(if ib (x3 + (nI 2)) (O 8 0 1 0).toNatClampNeg then
((ex d 95 0 [some (vr 6 0 0), some (vi (O 8 0 0 (Int32.toNatClampNeg (x3 + (nI 1))))), some (vi (O 8 0 0 (Int32.toNatClampNeg (x3 + (nI 2)))))] [] O).bind fun r54 =>
if ib (x3 + (nI 1)) (r54.2 8 0 1 0).toNatClampNeg then
(if ib (x3 + (nI 2)) (r54.2 8 0 1 0).toNatClampNeg then
((ex d 200 0 [some (vr 7 0 0), some (vi (r54.2 8 0 0 (Int32.toNatClampNeg (x3 + (nI 1))))), some (vi (r54.2 8 0 0 (Int32.toNatClampNeg (x3 + (nI 2)))))] [] r54.2).bind fun r55 =>
if r54.1 = r55.1 then
(ex (d + 1) 218 18 [some (vr 8 0 0), some (vr 6 0 0), some (vr 7 0 0), some (vi (x3 + (nI 5)))] [] r55.2)
else
(some ((nI 0), r55.2)))
else none)
else none)
else none)
else none)
else if ((O 8 0 0 (Int32.toNatClampNeg x3)) &&& (nI 63)) = (nI 29) then
(if ib (x3 + (nI 1)) (O 8 0 1 0).toNatClampNeg then
(if ib (x3 + (nI 2)) (O 8 0 1 0).toNatClampNeg then
((ex d 96 0 [some (vr 6 0 0), some (vi (O 8 0 0 (Int32.toNatClampNeg (x3 + (nI 1))))), some (vi (O 8 0 0 (Int32.toNatClampNeg (x3 + (nI 2)))))] [] O).bind fun r56 =>
if ib (x3 + (nI 1)) (r56.2 8 0 1 0).toNatClampNeg then
(if ib (x3 + (nI 2)) (r56.2 8 0 1 0).toNatClampNeg then
((ex d 201 0 [some (vr 7 0 0), some (vi (r56.2 8 0 0 (Int32.toNatClampNeg (x3 + (nI 1))))), some (vi (r56.2 8 0 0 (Int32.toNatClampNeg (x3 + (nI 2)))))] [] r56.2).bind fun r57 =>
if r56.1 = r57.1 then
(ex (d + 1) 218 18 [some (vr 8 0 0), some (vr 6 0 0), some (vr 7 0 0), some (vi (x3 + (nI 5)))] [] r57.2)
else
(some ((nI 0), r57.2)))
else none)
else none)
else none)
else none)
else if ((O 8 0 0 (Int32.toNatClampNeg x3)) &&& (nI 63)) = (nI 30) then
(if ib (x3 + (nI 1)) (O 8 0 1 0).toNatClampNeg then
(if ib (x3 + (nI 2)) (O 8 0 1 0).toNatClampNeg then
(if (O 8 0 0 (Int32.toNatClampNeg (x3 + (nI 2)))) = nI 0 then
(ex (d + 1) 218 1141 [some (vr 8 0 0), some (vr 6 0 0), some (vr 7 0 0), some (vi x3)] [vi (nI 0), vi (O 8 0 0 (Int32.toNatClampNeg (x3 + (nI 1)))), vr 6 0 0] O)
else
(ex (d + 1) 218 1141 [some (vr 8 0 0), some (vr 6 0 0), some (vr 7 0 0), some (vi x3)] [vi (nI 1), vi (O 8 0 0 (Int32.toNatClampNeg (x3 + (nI 1)))), vr 6 0 0] O))
else none)
else none)
else if ((O 8 0 0 (Int32.toNatClampNeg x3)) &&& (nI 63)) = (nI 31) then
((ex d 98 0 [some (vr 6 0 0)] [] O).bind fun r58 =>
(ex d 203 0 [some (vr 7 0 0)] [] r58.2).bind fun r59 =>
if r58.1 = r59.1 then
(ex (d + 1) 218 18 [some (vr 8 0 0), some (vr 6 0 0), some (vr 7 0 0), some (vi (x3 + (nI 5)))] [] r59.2)
else
(some ((nI 0), r59.2)))
else if ((O 8 0 0 (Int32.toNatClampNeg x3)) &&& (nI 63)) = (nI 32) then
(if ib (x3 + (nI 1)) (O 8 0 1 0).toNatClampNeg then
((ex d 99 0 [some (vr 6 0 0), some (vi (O 8 0 0 (Int32.toNatClampNeg (x3 + (nI 1)))))] [] O).bind fun r60 =>
if ib (x3 + (nI 1)) (r60.2 8 0 1 0).toNatClampNeg then
((ex d 206 0 [some (vr 7 0 0), some (vi (r60.2 8 0 0 (Int32.toNatClampNeg (x3 + (nI 1)))))] [] r60.2).bind fun r61 =>
if r60.1 = r61.1 then
(ex (d + 1) 218 18 [some (vr 8 0 0), some (vr 6 0 0), some (vr 7 0 0), some (vi (x3 + (nI 5)))] [] r61.2)
else
(some ((nI 0), r61.2)))
else none)
else none)
else if ((O 8 0 0 (Int32.toNatClampNeg x3)) &&& (nI 63)) = (nI 33) then
(if ib (x3 + (nI 1)) (O 8 0 1 0).toNatClampNeg then
(if ib (x3 + (nI 2)) (O 8 0 1 0).toNatClampNeg then
((ex d 100 0 [some (vr 6 0 0), some (vi (O 8 0 0 (Int32.toNatClampNeg (x3 + (nI 1))))), some (vi (O 8 0 0 (Int32.toNatClampNeg (x3 + (nI 2)))))] [] O).bind fun r62 =>
if ib (x3 + (nI 1)) (r62.2 8 0 1 0).toNatClampNeg then
(if ib (x3 + (nI 2)) (r62.2 8 0 1 0).toNatClampNeg then
((ex d 207 0 [some (vr 7 0 0), some (vi (r62.2 8 0 0 (Int32.toNatClampNeg (x3 + (nI 1))))), some (vi (r62.2 8 0 0 (Int32.toNatClampNeg (x3 + (nI 2)))))] [] r62.2).bind fun r63 =>
if r62.1 = r63.1 then
(ex (d + 1) 218 18 [some (vr 8 0 0), some (vr 6 0 0), some (vr 7 0 0), some (vi (x3 + (nI 5)))] [] r63.2)
else
(some ((nI 0), r63.2)))
else none)
else none)
else none)
else none)
else if ((O 8 0 0 (Int32.toNatClampNeg x3)) &&& (nI 63)) = (nI 34) then
(if ib (x3 + (nI 1)) (O 8 0 1 0).toNatClampNeg then
((ex d 101 0 [some (vr 6 0 0), some (vi (O 8 0 0 (Int32.toNatClampNeg (x3 + (nI 1)))))] [] O).bind fun r64 =>
if ib (x3 + (nI 1)) (r64.2 8 0 1 0).toNatClampNeg then
((ex d 208 0 [some (vr 7 0 0), some (vi (r64.2 8 0 0 (Int32.toNatClampNeg (x3 + (nI 1)))))] [] r64.2).bind fun r65 =>
if r64.1 = r65.1 then
(ex (d + 1) 218 18 [some (vr 8 0 0), some (vr 6 0 0), some (vr 7 0 0), some (vi (x3 + (nI 5)))] [] r65.2)
else
(some ((nI 0), r65.2)))
else none)
else none)
else if ((O 8 0 0 (Int32.toNatClampNeg x3)) &&& (nI 63)) = (nI 35) then
(if ib (x3 + (nI 1)) (O 8 0 1 0).toNatClampNeg then
((ex d 102 0 [some (vr 6 0 0), some (vi (O 8 0 0 (Int32.toNatClampNeg (x3 + (nI 1)))))] [] O).bind fun r66 =>
if ib (x3 + (nI 1)) (r66.2 8 0 1 0).toNatClampNeg then
((ex d 209 0 [some (vr 7 0 0), some (vi (r66.2 8 0 0 (Int32.toNatClampNeg (x3 + (nI 1)))))] [] r66.2).bind fun r67 =>
if r66.1 = r67.1 then
(ex (d + 1) 218 18 [some (vr 8 0 0), some (vr 6 0 0), some (vr 7 0 0), some (vi (x3 + (nI 5)))] [] r67.2)
else
(some ((nI 0), r67.2)))
else none)
else none)
else if ((O 8 0 0 (Int32.toNatClampNeg x3)) &&& (nI 63)) = (nI 36) then
(if ib (x3 + (nI 1)) (O 8 0 1 0).toNatClampNeg then
((ex d 103 0 [some (vr 6 0 0), some (vi (O 8 0 0 (Int32.toNatClampNeg (x3 + (nI 1)))))] [] O).bind fun r68 =>
if ib (x3 + (nI 1)) (r68.2 8 0 1 0).toNatClampNeg then
((ex d 210 0 [some (vr 7 0 0), some (vi (r68.2 8 0 0 (Int32.toNatClampNeg (x3 + (nI 1)))))] [] r68.2).bind fun r69 =>
if r68.1 = r69.1 then
(ex (d + 1) 218 18 [some (vr 8 0 0), some (vr 6 0 0), some (vr 7 0 0), some (vi (x3 + (nI 5)))] [] r69.2)
else
(some ((nI 0), r69.2)))
else none)
else none)
else if ((O 8 0 0 (Int32.toNatClampNeg x3)) &&& (nI 63)) = (nI 37) then
(if ib (x3 + (nI 1)) (O 8 0 1 0).toNatClampNeg then
(if ib (x3 + (nI 2)) (O 8 0 1 0).toNatClampNeg then
(if ib (x3 + (nI 3)) (O 8 0 1 0).toNatClampNeg then
((ex d 104 0 [some (vr 6 0 0), some (vi (O 8 0 0 (Int32.toNatClampNeg (x3 + (nI 1))))), some (vi (O 8 0 0 (Int32.toNatClampNeg (x3 + (nI 2))))), some (vi (O 8 0 0 (Int32.toNatClampNeg (x3 + (nI 3)))))] [] O).bind fun r70 =>
if ib (x3 + (nI 1)) (r70.2 8 0 1 0).toNatClampNeg then
(if ib (x3 + (nI 2)) (r70.2 8 0 1 0).toNatClampNeg then
(if ib (x3 + (nI 3)) (r70.2 8 0 1 0).toNatClampNeg then
((ex d 212 0 [some (vr 7 0 0), some (vi (r70.2 8 0 0 (Int32.toNatClampNeg (x3 + (nI 1))))), some (vi (r70.2 8 0 0 (Int32.toNatClampNeg (x3 + (nI 2))))), some (vi (r70.2 8 0 0 (Int32.toNatClampNeg (x3 + (nI 3)))))] [] r70.2).bind fun r71 =>
if r70.1 = r71.1 then
(ex (d + 1) 218 18 [some (vr 8 0 0), some (vr 6 0 0), some (vr 7 0 0), some (vi (x3 + (nI 5)))] [] r71.2)
else
(some ((nI 0), r71.2)))
else none)
else none)
else none)
else none)
else none)
else none)
else if ((O 8 0 0 (Int32.toNatClampNeg x3)) &&& (nI 63)) = (nI 38) then
(if ib (x3 + (nI 1)) (O 8 0 1 0).toNatClampNeg then
(if ib (x3 + (nI 2)) (O 8 0 1 0).toNatClampNeg then
(if ib (x3 + (nI 3)) (O 8 0 1 0).toNatClampNeg then
((ex d 105 0 [some (vr 6 0 0), some (vi (O 8 0 0 (Int32.toNatClampNeg (x3 + (nI 1))))), some (vi (O 8 0 0 (Int32.toNatClampNeg (x3 + (nI 2))))), some (vi (O 8 0 0 (Int32.toNatClampNeg (x3 + (nI 3)))))] [] O).bind fun r72 =>
if ib (x3 + (nI 1)) (r72.2 8 0 1 0).toNatClampNeg then
(if ib (x3 + (nI 2)) (r72.2 8 0 1 0).toNatClampNeg then
(if ib (x3 + (nI 3)) (r72.2 8 0 1 0).toNatClampNeg then
((ex d 213 0 [some (vr 7 0 0), some (vi (r72.2 8 0 0 (Int32.toNatClampNeg (x3 + (nI 1))))), some (vi (r72.2 8 0 0 (Int32.toNatClampNeg (x3 + (nI 2))))), some (vi (r72.2 8 0 0 (Int32.toNatClampNeg (x3 + (nI 3)))))] [] r72.2).bind fun r73 =>
if r72.1 = r73.1 then
(ex (d + 1) 218 18 [some (vr 8 0 0), some (vr 6 0 0), some (vr 7 0 0), some (vi (x3 + (nI 5)))] [] r73.2)
else
(some ((nI 0), r73.2)))
else none)
else none)
else none)
else none)
else none)
else none)
else if ((O 8 0 0 (Int32.toNatClampNeg x3)) &&& (nI 63)) = (nI 39) then
(if ib (x3 + (nI 1)) (O 8 0 1 0).toNatClampNeg then
(if ib (x3 + (nI 2)) (O 8 0 1 0).toNatClampNeg then
(if ib (x3 + (nI 3)) (O 8 0 1 0).toNatClampNeg then
(if ib (x3 + (nI 4)) (O 8 0 1 0).toNatClampNeg then
((ex d 106 0 [some (vr 6 0 0), some (vi (O 8 0 0 (Int32.toNatClampNeg (x3 + (nI 1))))), some (vi (O 8 0 0 (Int32.toNatClampNeg (x3 + (nI 2))))), some (vi (O 8 0 0 (Int32.toNatClampNeg (x3 + (nI 3))))), some (vi (O 8 0 0 (Int32.toNatClampNeg (x3 + (nI 4)))))] [] O).bind fun r74 =>
if ib (x3 + (nI 1)) (r74.2 8 0 1 0).toNatClampNeg then
(if ib (x3 + (nI 2)) (r74.2 8 0 1 0).toNatClampNeg then
(if ib (x3 + (nI 3)) (r74.2 8 0 1 0).toNatClampNeg then
(if ib (x3 + (nI 4)) (r74.2 8 0 1 0).toNatClampNeg then
((ex d 214 0 [some (vr 7 0 0), some (vi (r74.2 8 0 0 (Int32.toNatClampNeg (x3 + (nI 1))))), some (vi (r74.2 8 0 0 (Int32.toNatClampNeg (x3 + (nI 2))))), some (vi (r74.2 8 0 0 (Int32.toNatClampNeg (x3 + (nI 3))))), some (vi (r74.2 8 0 0 (Int32.toNatClampNeg (x3 + (nI 4)))))] [] r74.2).bind fun r75 =>
if r74.1 = r75.1 then
(ex (d + 1) 218 18 [some (vr 8 0 0), some (vr 6 0 0), some (vr 7 0 0), some (vi (x3 + (nI 5)))] [] r75.2)
else
(some ((nI 0), r75.2)))
else none)
else none)
else none)
else none)
else none)
else none)
else none)
else none)
else if ((O 8 0 0 (Int32.toNatClampNeg x3)) &&& (nI 63)) = (nI 40) then
((ex d 107 0 [some (vr 6 0 0)] [] O).bind fun r76 =>
(ex d 215 0 [some (vr 7 0 0)] [] r76.2).bind fun r77 =>
if r76.1 = r77.1 then
(ex (d + 1) 218 18 [some (vr 8 0 0), some (vr 6 0 0), some (vr 7 0 0), some (vi (x3 + (nI 5)))] [] r77.2)
else
(some ((nI 0), r77.2)))
else if ((O 8 0 0 (Int32.toNatClampNeg x3)) &&& (nI 63)) = (nI 41) then
(if ib (x3 + (nI 1)) (O 8 0 1 0).toNatClampNeg then
((ex d 108 0 [some (vr 6 0 0), some (vi (O 8 0 0 (Int32.toNatClampNeg (x3 + (nI 1)))))] [] O).bind fun r78 =>
if ib (x3 + (nI 1)) (r78.2 8 0 1 0).toNatClampNeg then
((ex d 216 0 [some (vr 7 0 0), some (vi (r78.2 8 0 0 (Int32.toNatClampNeg (x3 + (nI 1)))))] [] r78.2).bind fun r79 =>
if r78.1 = r79.1 then
(ex (d + 1) 218 18 [some (vr 8 0 0), some (vr 6 0 0), some (vr 7 0 0), some (vi (x3 + (nI 5)))] [] r79.2)
else
(some ((nI 0), r79.2)))
else none)
else none)
else 
(ex (d + 1) 218 18 [some (vr 8 0 0), some (vr 6 0 0), some (vr 7 0 0), some (vi (x3 + (nI 5)))] [] O))
else none) := (ex_un d 218 300 18 [some (vr 8 0 0), some (vr 6 0 0), some (vr 7 0 0), some (vi x3)] [] O).trans rfl
set_option maxRecDepth 100000 in
theorem sL_law_454 (d : Nat) (O : Mem_) (x3 : Int32) (y0 : Int32) (y1 : Int32) (y2 : Int32) : ex (d + 1) 218 454 [some (vr 8 0 0), some (vr 6 0 0), some (vr 7 0 0), some (vi x3)] [vi y0, vi y1, vi y2, vr 6 0 0] O =
(ex d 75 0 [some (vr 6 0 0), some (vi y2), some (vi y1), some (vi y0)] [] O).bind fun r0 =>
if ib (x3 + (nI 1)) (r0.2 8 0 1 0).toNatClampNeg then
(if ib (x3 + (nI 2)) (r0.2 8 0 1 0).toNatClampNeg then
(if ib (x3 + (nI 3)) (r0.2 8 0 1 0).toNatClampNeg then
(if (r0.2 8 0 0 (Int32.toNatClampNeg (x3 + (nI 3)))) = nI 0 then
(ex (d + 1) 218 481 [some (vr 8 0 0), some (vr 6 0 0), some (vr 7 0 0), some (vi x3)] [vi (nI 0), vi (r0.2 8 0 0 (Int32.toNatClampNeg (x3 + (nI 2)))), vi (r0.2 8 0 0 (Int32.toNatClampNeg (x3 + (nI 1)))), vr 7 0 0, vi r0.1] r0.2)
else
(ex (d + 1) 218 481 [some (vr 8 0 0), some (vr 6 0 0), some (vr 7 0 0), some (vi x3)] [vi (nI 1), vi (r0.2 8 0 0 (Int32.toNatClampNeg (x3 + (nI 2)))), vi (r0.2 8 0 0 (Int32.toNatClampNeg (x3 + (nI 1)))), vr 7 0 0, vi r0.1] r0.2))
else none)
else none)
else none := (ex_un d 218 300 454 [some (vr 8 0 0), some (vr 6 0 0), some (vr 7 0 0), some (vi x3)] [vi y0, vi y1, vi y2, vr 6 0 0] O).trans rfl
set_option maxRecDepth 100000 in
theorem sL_law_481 (d : Nat) (O : Mem_) (x3 : Int32) (y0 : Int32) (y1 : Int32) (y2 : Int32) (y4 : Int32) : ex (d + 1) 218 481 [some (vr 8 0 0), some (vr 6 0 0), some (vr 7 0 0), some (vi x3)] [vi y0, vi y1, vi y2, vr 7 0 0, vi y4] O =
(ex d 165 0 [some (vr 7 0 0), some (vi y2), some (vi y1), some (vi y0)] [] O).bind fun r0 =>
if y4 = r0.1 then
(ex (d + 1) 218 18 [some (vr 8 0 0), some (vr 6 0 0), some (vr 7 0 0), some (vi (x3 + (nI 5)))] [] r0.2)
else
(some ((nI 0), r0.2)) := (ex_un d 218 300 481 [some (vr 8 0 0), some (vr 6 0 0), some (vr 7 0 0), some (vi x3)] [vi y0, vi y1, vi y2, vr 7 0 0, vi y4] O).trans rfl
set_option maxRecDepth 100000 in
theorem sL_law_1141 (d : Nat) (O : Mem_) (x3 : Int32) (y0 : Int32) (y1 : Int32) : ex (d + 1) 218 1141 [some (vr 8 0 0), some (vr 6 0 0), some (vr 7 0 0), some (vi x3)] [vi y0, vi y1, vr 6 0 0] O =
(ex d 97 0 [some (vr 6 0 0), some (vi y1), some (vi y0)] [] O).bind fun r0 =>
if ib (x3 + (nI 1)) (r0.2 8 0 1 0).toNatClampNeg then
(if ib (x3 + (nI 2)) (r0.2 8 0 1 0).toNatClampNeg then
(if (r0.2 8 0 0 (Int32.toNatClampNeg (x3 + (nI 2)))) = nI 0 then
(ex (d + 1) 218 1163 [some (vr 8 0 0), some (vr 6 0 0), some (vr 7 0 0), some (vi x3)] [vi (nI 0), vi (r0.2 8 0 0 (Int32.toNatClampNeg (x3 + (nI 1)))), vr 7 0 0, vi r0.1] r0.2)
else
(ex (d + 1) 218 1163 [some (vr 8 0 0), some (vr 6 0 0), some (vr 7 0 0), some (vi x3)] [vi (nI 1), vi (r0.2 8 0 0 (Int32.toNatClampNeg (x3 + (nI 1)))), vr 7 0 0, vi r0.1] r0.2))
else none)
else none := (ex_un d 218 300 1141 [some (vr 8 0 0), some (vr 6 0 0), some (vr 7 0 0), some (vi x3)] [vi y0, vi y1, vr 6 0 0] O).trans rfl
set_option maxRecDepth 100000 in
theorem sL_law_1163 (d : Nat) (O : Mem_) (x3 : Int32) (y0 : Int32) (y1 : Int32) (y3 : Int32) : ex (d + 1) 218 1163 [some (vr 8 0 0), some (vr 6 0 0), some (vr 7 0 0), some (vi x3)] [vi y0, vi y1, vr 7 0 0, vi y3] O =
(ex d 202 0 [some (vr 7 0 0), some (vi y1), some (vi y0)] [] O).bind fun r0 =>
if y3 = r0.1 then
(ex (d + 1) 218 18 [some (vr 8 0 0), some (vr 6 0 0), some (vr 7 0 0), some (vi (x3 + (nI 5)))] [] r0.2)
else
(some ((nI 0), r0.2)) := (ex_un d 218 300 1163 [some (vr 8 0 0), some (vr 6 0 0), some (vr 7 0 0), some (vi x3)] [vi y0, vi y1, vr 7 0 0, vi y3] O).trans rfl
