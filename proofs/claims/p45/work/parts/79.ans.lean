/-! THE CLASS'S ANSWERS, said: what each call of the law answers, and what it leaves. -/
section
variable {O : Mem_} {A : A_}
/-- a place that is there, and one that is not -/
theorem hs_y {n j : Nat} (h : j < n) (hn : n < 2 ^ 31) : hsI (nI j) n = true := by rw [hsI_n (by omega) hn, decide_eq_true h]
theorem hs_n {n j : Nat} (h : n ≤ j) (hn : n < 2 ^ 31) (hj : j < 2 ^ 31) : hsI (nI j) n = false := by rw [hsI_n hj hn, decide_eq_false (by omega)]
theorem a_thing (hw : WA A) (hc : CI O A) {t : Nat} (ht : t < nT A.1) : ex 9 71 0 [some (vr 6 0 0), some (vi (nI t))] [] O = some (nI (mk_ A.1 t), O) := by
  obtain ⟨w, cw, c9, hT, hS, hI, hB, hM, hP, hF, hSh⟩ := hc
  have hsel := cw.sel
  have hw' := hw
  obtain ⟨wT, wS, wI, wP, wF, wSh, wt⟩ := hw
  have h8 := wT.1
  have h12 := wT.2.1
  have h4 := wT.2.2.1
  have h6 := wT.2.2.2.1
  have wMd : WMd A.1 (mds A.1 A.2.1.2.1 A.2.1.1) := mds_wf _ (by have := wS.1; omega)
  have kmC : ∀ k, k < nK A.1 → KM (O 0 0) k ((mds A.1 A.2.1.2.1 A.2.1.1).2 k) := fun k hk => hM.2.2 k hk (by rw [Nat.testBit_two_pow_sub_one, decide_eq_true hk])
  rw [sX6_thing_0]
  simp (disch := omega) only [nI_ltI, nI_eq, nI_add, nI_clamp, ib_n, pk_mul, q_and, q_or, q_dn, q_shl, q_shlm, q_p1, if_true, if_false, ↓reduceIte, Option.bind_some, bI_0, bI_1, bI_01, b_or, Nat.not_lt_zero, Nat.zero_add, Bool.false_eq_true, Bool.true_eq_false, or_false, or_true, true_or, false_or, hsel, m_hasThing (h := hT), hs_y ht (by omega), (hT.2.1 t ht).1]
theorem a_thing_no (hw : WA A) (hc : CI O A) {x : Int32} (hx : hsI x (nT A.1) = false) : ex 9 71 0 [some (vr 6 0 0), some (vi x)] [] O = some (-1, O) := by
  obtain ⟨w, cw, c9, hT, hS, hI, hB, hM, hP, hF, hSh⟩ := hc
  have hsel := cw.sel
  have hw' := hw
  obtain ⟨wT, wS, wI, wP, wF, wSh, wt⟩ := hw
  have h8 := wT.1
  have h12 := wT.2.1
  have h4 := wT.2.2.1
  have h6 := wT.2.2.2.1
  have wMd : WMd A.1 (mds A.1 A.2.1.2.1 A.2.1.1) := mds_wf _ (by have := wS.1; omega)
  have kmC : ∀ k, k < nK A.1 → KM (O 0 0) k ((mds A.1 A.2.1.2.1 A.2.1.1).2 k) := fun k hk => hM.2.2 k hk (by rw [Nat.testBit_two_pow_sub_one, decide_eq_true hk])
  rw [sX6_thing_0]
  simp (disch := omega) only [nI_ltI, nI_eq, nI_add, nI_clamp, ib_n, pk_mul, q_and, q_or, q_dn, q_shl, q_shlm, q_p1, if_true, if_false, ↓reduceIte, Option.bind_some, bI_0, bI_1, bI_01, b_or, Nat.not_lt_zero, Nat.zero_add, Bool.false_eq_true, Bool.true_eq_false, or_false, or_true, true_or, false_or, hsel, m_hasThing (h := hT), hx]
theorem a_word_no (hw : WA A) (hc : CI O A) {x : Int32} (hx : hsI x (nS A.1) = false) : ex 9 73 0 [some (vr 6 0 0), some (vi x)] [] O = some (-1, O) := by
  obtain ⟨w, cw, c9, hT, hS, hI, hB, hM, hP, hF, hSh⟩ := hc
  have hsel := cw.sel
  have hw' := hw
  obtain ⟨wT, wS, wI, wP, wF, wSh, wt⟩ := hw
  have h8 := wT.1
  have h12 := wT.2.1
  have h4 := wT.2.2.1
  have h6 := wT.2.2.2.1
  have wMd : WMd A.1 (mds A.1 A.2.1.2.1 A.2.1.1) := mds_wf _ (by have := wS.1; omega)
  have kmC : ∀ k, k < nK A.1 → KM (O 0 0) k ((mds A.1 A.2.1.2.1 A.2.1.1).2 k) := fun k hk => hM.2.2 k hk (by rw [Nat.testBit_two_pow_sub_one, decide_eq_true hk])
  rw [sX6_word_0]
  simp (disch := omega) only [nI_ltI, nI_eq, nI_add, nI_clamp, ib_n, pk_mul, q_and, q_or, q_dn, q_shl, q_shlm, q_p1, if_true, if_false, ↓reduceIte, Option.bind_some, bI_0, bI_1, bI_01, b_or, Nat.not_lt_zero, Nat.zero_add, Bool.false_eq_true, Bool.true_eq_false, or_false, or_true, true_or, false_or, hsel, m_hasSound (h := hT), hx]
theorem a_meaning (hw : WA A) (hc : CI O A) {j : Nat} (hj : j < nM A.1) : ex 9 72 0 [some (vr 6 0 0), some (vi (nI j)), some (vi (nI 0))] [] O = some (nI (hs_ A.1 j), O) ∧ ex 9 72 0 [some (vr 6 0 0), some (vi (nI j)), some (vi (nI 1))] [] O = some (nI (hn_ A.1 j), O) ∧ ex 9 72 0 [some (vr 6 0 0), some (vi (nI j)), some (vi (nI 2))] [] O = some (nI (asks A.1 j), O) ∧ ex 9 72 0 [some (vr 6 0 0), some (vi (nI j)), some (vi (nI 3))] [] O = some (nI (are A.1 j), O) ∧ ex 9 72 0 [some (vr 6 0 0), some (vi (nI j)), some (vi (nI 4))] [] O = some (nI (ms (nK A.1) fun k => (can A.1 k).testBit j), O) ∧ ex 9 72 0 [some (vr 6 0 0), some (vi (nI j)), some (vi (nI 5))] [] O = some (-1, O) := by
  obtain ⟨w, cw, c9, hT, hS, hI, hB, hM, hP, hF, hSh⟩ := hc
  have hsel := cw.sel
  have hw' := hw
  obtain ⟨wT, wS, wI, wP, wF, wSh, wt⟩ := hw
  have h8 := wT.1
  have h12 := wT.2.1
  have h4 := wT.2.2.1
  have h6 := wT.2.2.2.1
  have wMd : WMd A.1 (mds A.1 A.2.1.2.1 A.2.1.1) := mds_wf _ (by have := wS.1; omega)
  have kmC : ∀ k, k < nK A.1 → KM (O 0 0) k ((mds A.1 A.2.1.2.1 A.2.1.1).2 k) := fun k hk => hM.2.2 k hk (by rw [Nat.testBit_two_pow_sub_one, decide_eq_true hk])
  have hx := hs_y hj (by omega : nM A.1 < 2 ^ 31)
  obtain ⟨t1, t2, t3, t4, -, -⟩ := hT.2.2.1 j hj
  refine ⟨?_, ?_, ?_, ?_, ?_, ?_⟩ <;> rw [sX6_meaning_0]
  · simp (disch := omega) only [nI_ltI, nI_eq, nI_add, nI_clamp, ib_n, pk_mul, q_and, q_or, q_dn, q_shl, q_shlm, q_p1, if_true, if_false, ↓reduceIte, Option.bind_some, bI_0, bI_1, bI_01, b_or, Nat.not_lt_zero, Nat.zero_add, Bool.false_eq_true, Bool.true_eq_false, or_false, or_true, true_or, false_or, hsel, m_hasMeaning (h := hT), hx, t1]
  · simp (disch := omega) only [nI_ltI, nI_eq, nI_add, nI_clamp, ib_n, pk_mul, q_and, q_or, q_dn, q_shl, q_shlm, q_p1, if_true, if_false, ↓reduceIte, Option.bind_some, bI_0, bI_1, bI_01, b_or, Nat.not_lt_zero, Nat.zero_add, Bool.false_eq_true, Bool.true_eq_false, or_false, or_true, true_or, false_or, hsel, m_hasMeaning (h := hT), hx, t2]
    simp
  · simp (disch := omega) only [nI_ltI, nI_eq, nI_add, nI_clamp, ib_n, pk_mul, q_and, q_or, q_dn, q_shl, q_shlm, q_p1, if_true, if_false, ↓reduceIte, Option.bind_some, bI_0, bI_1, bI_01, b_or, Nat.not_lt_zero, Nat.zero_add, Bool.false_eq_true, Bool.true_eq_false, or_false, or_true, true_or, false_or, hsel, m_hasMeaning (h := hT), hx, t3]
    simp
  · simp (disch := omega) only [nI_ltI, nI_eq, nI_add, nI_clamp, ib_n, pk_mul, q_and, q_or, q_dn, q_shl, q_shlm, q_p1, if_true, if_false, ↓reduceIte, Option.bind_some, bI_0, bI_1, bI_01, b_or, Nat.not_lt_zero, Nat.zero_add, Bool.false_eq_true, Bool.true_eq_false, or_false, or_true, true_or, false_or, hsel, m_hasMeaning (h := hT), hx, t4]
    simp
  · simp (disch := omega) only [nI_ltI, nI_eq, nI_add, nI_clamp, ib_n, pk_mul, q_and, q_or, q_dn, q_shl, q_shlm, q_p1, if_true, if_false, ↓reduceIte, Option.bind_some, bI_0, bI_1, bI_01, b_or, Nat.not_lt_zero, Nat.zero_add, Bool.false_eq_true, Bool.true_eq_false, or_false, or_true, true_or, false_or, hsel, m_hasMeaning (h := hT), hx, m_kindsThatCan _ (m := j) (by omega) hT wT]
    simp
  · simp (disch := omega) only [nI_ltI, nI_eq, nI_add, nI_clamp, ib_n, pk_mul, q_and, q_or, q_dn, q_shl, q_shlm, q_p1, if_true, if_false, ↓reduceIte, Option.bind_some, bI_0, bI_1, bI_01, b_or, Nat.not_lt_zero, Nat.zero_add, Bool.false_eq_true, Bool.true_eq_false, or_false, or_true, true_or, false_or, hsel, m_hasMeaning (h := hT), hx]
    simp
theorem a_meaning_no (hw : WA A) (hc : CI O A) {x y : Int32} (hx : hsI x (nM A.1) = false) : ex 9 72 0 [some (vr 6 0 0), some (vi x), some (vi y)] [] O = some (-1, O) := by
  obtain ⟨w, cw, c9, hT, hS, hI, hB, hM, hP, hF, hSh⟩ := hc
  have hsel := cw.sel
  have hw' := hw
  obtain ⟨wT, wS, wI, wP, wF, wSh, wt⟩ := hw
  have h8 := wT.1
  have h12 := wT.2.1
  have h4 := wT.2.2.1
  have h6 := wT.2.2.2.1
  have wMd : WMd A.1 (mds A.1 A.2.1.2.1 A.2.1.1) := mds_wf _ (by have := wS.1; omega)
  have kmC : ∀ k, k < nK A.1 → KM (O 0 0) k ((mds A.1 A.2.1.2.1 A.2.1.1).2 k) := fun k hk => hM.2.2 k hk (by rw [Nat.testBit_two_pow_sub_one, decide_eq_true hk])
  rw [sX6_meaning_0]
  simp (disch := omega) only [nI_ltI, nI_eq, nI_add, nI_clamp, ib_n, pk_mul, q_and, q_or, q_dn, q_shl, q_shlm, q_p1, if_true, if_false, ↓reduceIte, Option.bind_some, bI_0, bI_1, bI_01, b_or, Nat.not_lt_zero, Nat.zero_add, Bool.false_eq_true, Bool.true_eq_false, or_false, or_true, true_or, false_or, hsel, m_hasMeaning (h := hT), hx]
theorem a_kind (hw : WA A) (hc : CI O A) {j : Nat} (hj : j < nK A.1) : ex 9 74 0 [some (vr 6 0 0), some (vi (nI j)), some (vi (nI 0))] [] O = some (nI (so_ A.1 j), O) ∧ ex 9 74 0 [some (vr 6 0 0), some (vi (nI j)), some (vi (nI 1))] [] O = some (nI (se_ A.1 j), O) ∧ ex 9 74 0 [some (vr 6 0 0), some (vi (nI j)), some (vi (nI 2))] [] O = some (oI (fe_ A.1 j), O) ∧ ex 9 74 0 [some (vr 6 0 0), some (vi (nI j)), some (vi (nI 3))] [] O = some (bI (ul_ A.1 j), O) ∧ ex 9 74 0 [some (vr 6 0 0), some (vi (nI j)), some (vi (nI 4))] [] O = some (nI (ch_ A.1 j), O) ∧ ex 9 74 0 [some (vr 6 0 0), some (vi (nI j)), some (vi (nI 5))] [] O = some (nI (can A.1 j), O) ∧ ex 9 74 0 [some (vr 6 0 0), some (vi (nI j)), some (vi (nI 6))] [] O = some (-1, O) := by
  obtain ⟨w, cw, c9, hT, hS, hI, hB, hM, hP, hF, hSh⟩ := hc
  have hsel := cw.sel
  have hw' := hw
  obtain ⟨wT, wS, wI, wP, wF, wSh, wt⟩ := hw
  have h8 := wT.1
  have h12 := wT.2.1
  have h4 := wT.2.2.1
  have h6 := wT.2.2.2.1
  have wMd : WMd A.1 (mds A.1 A.2.1.2.1 A.2.1.1) := mds_wf _ (by have := wS.1; omega)
  have kmC : ∀ k, k < nK A.1 → KM (O 0 0) k ((mds A.1 A.2.1.2.1 A.2.1.1).2 k) := fun k hk => hM.2.2 k hk (by rw [Nat.testBit_two_pow_sub_one, decide_eq_true hk])
  have hx := hs_y hj (by omega : nK A.1 < 2 ^ 31)
  obtain ⟨t1, t2, t3, t4, t5, t6⟩ := hT.2.2.2.2 j hj
  refine ⟨?_, ?_, ?_, ?_, ?_, ?_, ?_⟩ <;> rw [sX6_kind_0]
  · simp (disch := omega) only [nI_ltI, nI_eq, nI_add, nI_clamp, ib_n, pk_mul, q_and, q_or, q_dn, q_shl, q_shlm, q_p1, if_true, if_false, ↓reduceIte, Option.bind_some, bI_0, bI_1, bI_01, b_or, Nat.not_lt_zero, Nat.zero_add, Bool.false_eq_true, Bool.true_eq_false, or_false, or_true, true_or, false_or, hsel, m_hasKind (h := hT), hx, t1]
  · simp (disch := omega) only [nI_ltI, nI_eq, nI_add, nI_clamp, ib_n, pk_mul, q_and, q_or, q_dn, q_shl, q_shlm, q_p1, if_true, if_false, ↓reduceIte, Option.bind_some, bI_0, bI_1, bI_01, b_or, Nat.not_lt_zero, Nat.zero_add, Bool.false_eq_true, Bool.true_eq_false, or_false, or_true, true_or, false_or, hsel, m_hasKind (h := hT), hx, t2]
    simp
  · simp (disch := omega) only [nI_ltI, nI_eq, nI_add, nI_clamp, ib_n, pk_mul, q_and, q_or, q_dn, q_shl, q_shlm, q_p1, if_true, if_false, ↓reduceIte, Option.bind_some, bI_0, bI_1, bI_01, b_or, Nat.not_lt_zero, Nat.zero_add, Bool.false_eq_true, Bool.true_eq_false, or_false, or_true, true_or, false_or, hsel, m_hasKind (h := hT), hx, t3]
    simp
  · simp (disch := omega) only [nI_ltI, nI_eq, nI_add, nI_clamp, ib_n, pk_mul, q_and, q_or, q_dn, q_shl, q_shlm, q_p1, if_true, if_false, ↓reduceIte, Option.bind_some, bI_0, bI_1, bI_01, b_or, Nat.not_lt_zero, Nat.zero_add, Bool.false_eq_true, Bool.true_eq_false, or_false, or_true, true_or, false_or, hsel, m_hasKind (h := hT), hx, t4]
    cases ul_ A.1 j <;> simp [bI]
  · simp (disch := omega) only [nI_ltI, nI_eq, nI_add, nI_clamp, ib_n, pk_mul, q_and, q_or, q_dn, q_shl, q_shlm, q_p1, if_true, if_false, ↓reduceIte, Option.bind_some, bI_0, bI_1, bI_01, b_or, Nat.not_lt_zero, Nat.zero_add, Bool.false_eq_true, Bool.true_eq_false, or_false, or_true, true_or, false_or, hsel, m_hasKind (h := hT), hx, t5]
    simp
  · simp (disch := omega) only [nI_ltI, nI_eq, nI_add, nI_clamp, ib_n, pk_mul, q_and, q_or, q_dn, q_shl, q_shlm, q_p1, if_true, if_false, ↓reduceIte, Option.bind_some, bI_0, bI_1, bI_01, b_or, Nat.not_lt_zero, Nat.zero_add, Bool.false_eq_true, Bool.true_eq_false, or_false, or_true, true_or, false_or, hsel, m_hasKind (h := hT), hx, t6]
    simp
  · simp (disch := omega) only [nI_ltI, nI_eq, nI_add, nI_clamp, ib_n, pk_mul, q_and, q_or, q_dn, q_shl, q_shlm, q_p1, if_true, if_false, ↓reduceIte, Option.bind_some, bI_0, bI_1, bI_01, b_or, Nat.not_lt_zero, Nat.zero_add, Bool.false_eq_true, Bool.true_eq_false, or_false, or_true, true_or, false_or, hsel, m_hasKind (h := hT), hx]
    simp
theorem a_kind_no (hw : WA A) (hc : CI O A) {x y : Int32} (hx : hsI x (nK A.1) = false) : ex 9 74 0 [some (vr 6 0 0), some (vi x), some (vi y)] [] O = some (-1, O) := by
  obtain ⟨w, cw, c9, hT, hS, hI, hB, hM, hP, hF, hSh⟩ := hc
  have hsel := cw.sel
  have hw' := hw
  obtain ⟨wT, wS, wI, wP, wF, wSh, wt⟩ := hw
  have h8 := wT.1
  have h12 := wT.2.1
  have h4 := wT.2.2.1
  have h6 := wT.2.2.2.1
  have wMd : WMd A.1 (mds A.1 A.2.1.2.1 A.2.1.1) := mds_wf _ (by have := wS.1; omega)
  have kmC : ∀ k, k < nK A.1 → KM (O 0 0) k ((mds A.1 A.2.1.2.1 A.2.1.1).2 k) := fun k hk => hM.2.2 k hk (by rw [Nat.testBit_two_pow_sub_one, decide_eq_true hk])
  rw [sX6_kind_0]
  simp (disch := omega) only [nI_ltI, nI_eq, nI_add, nI_clamp, ib_n, pk_mul, q_and, q_or, q_dn, q_shl, q_shlm, q_p1, if_true, if_false, ↓reduceIte, Option.bind_some, bI_0, bI_1, bI_01, b_or, Nat.not_lt_zero, Nat.zero_add, Bool.false_eq_true, Bool.true_eq_false, or_false, or_true, true_or, false_or, hsel, m_hasKind (h := hT), hx]
theorem a_show_ (d : Nat) (hw : WA A) (hc : CI O A) {s t : Nat} {so : Bool} (hs : s < nS A.1) (ht : t < nT A.1) (hn : A.2.1.1 < 24) : ∃ O1, ex (d + 6) 75 0 [some (vr 6 0 0), some (vi (nI s)), some (vi (nI t)), some (vi (bI so))] [] O = some (nI (A.2.1.1 + 1), O1) ∧ WA (A.1, addS A.2.1 s t so, A.2.2) ∧ CI O1 (A.1, addS A.2.1 s t so, A.2.2) ∧ O1 7 = O 7 ∧ O1 8 = O 8 := by
  have hc' := hc
  obtain ⟨w, cw, c9, hT, hS, hI, hB, hM, hP, hF, hSh⟩ := hc
  have hsel := cw.sel
  have hw' := hw
  obtain ⟨wT, wS, wI, wP, wF, wSh, wt⟩ := hw
  have h8 := wT.1
  have h12 := wT.2.1
  have h4 := wT.2.2.1
  have h6 := wT.2.2.2.1
  have wMd : WMd A.1 (mds A.1 A.2.1.2.1 A.2.1.1) := mds_wf _ (by have := wS.1; omega)
  have kmC : ∀ k, k < nK A.1 → KM (O 0 0) k ((mds A.1 A.2.1.2.1 A.2.1.1).2 k) := fun k hk => hM.2.2 k hk (by rw [Nat.testBit_two_pow_sub_one, decide_eq_true hk])
  obtain ⟨O1, e1, c1, c7, c8, c10, -⟩ := m_takeShowing (so := so) d hw' hc' hn hs ht
  refine ⟨O1, ?_, hw'.scene (addS_wf wS hn hs ht), c1, c7, c8⟩
  rw [sX6_show_0]
  simp (disch := omega) only [nI_ltI, nI_eq, nI_add, nI_clamp, ib_n, pk_mul, q_and, q_or, q_dn, q_shl, q_shlm, q_p1, if_true, if_false, ↓reduceIte, Option.bind_some, bI_0, bI_1, bI_01, b_or, Nat.not_lt_zero, Nat.zero_add, Bool.false_eq_true, Bool.true_eq_false, or_false, or_true, true_or, false_or, hsel, m_hasSound (h := hT), m_hasThing (h := hT), hsI_n, hs, ht, decide_true, hS.1, hn, e1, c10]
theorem a_show (hw : WA A) (hc : CI O A) {s t : Nat} {so : Bool} (hs : s < nS A.1) (ht : t < nT A.1) (hn : A.2.1.1 < 24) : ∃ O1, ex 9 75 0 [some (vr 6 0 0), some (vi (nI s)), some (vi (nI t)), some (vi (bI so))] [] O = some (nI (A.2.1.1 + 1), O1) ∧ WA (A.1, addS A.2.1 s t so, A.2.2) ∧ CI O1 (A.1, addS A.2.1 s t so, A.2.2) ∧ O1 7 = O 7 ∧ O1 8 = O 8 := a_show_ 3 hw hc hs ht hn
theorem a_show_no (hw : WA A) (hc : CI O A) {x y z : Int32} (h : hsI x (nS A.1) = false ∨ hsI y (nT A.1) = false) : ex 9 75 0 [some (vr 6 0 0), some (vi x), some (vi y), some (vi z)] [] O = some (-1, O) := by
  obtain ⟨w, cw, c9, hT, hS, hI, hB, hM, hP, hF, hSh⟩ := hc
  have hsel := cw.sel
  have hw' := hw
  obtain ⟨wT, wS, wI, wP, wF, wSh, wt⟩ := hw
  have h8 := wT.1
  have h12 := wT.2.1
  have h4 := wT.2.2.1
  have h6 := wT.2.2.2.1
  have wMd : WMd A.1 (mds A.1 A.2.1.2.1 A.2.1.1) := mds_wf _ (by have := wS.1; omega)
  have kmC : ∀ k, k < nK A.1 → KM (O 0 0) k ((mds A.1 A.2.1.2.1 A.2.1.1).2 k) := fun k hk => hM.2.2 k hk (by rw [Nat.testBit_two_pow_sub_one, decide_eq_true hk])
  exact show_bad 7 hsel hT h
theorem a_teach (hw : WA A) (hc : CI O A) {s t : Nat} (hs : s < nS A.1) (ht : t < nT A.1) (hn : A.2.1.1 < 24) : ∃ O1, ex 9 76 0 [some (vr 6 0 0), some (vi (nI s)), some (vi (nI t))] [] O = some (nI (A.2.1.1 + 1), O1) ∧ WA (A.1, addS A.2.1 s t (isTg A.1 s t), A.2.2) ∧ CI O1 (A.1, addS A.2.1 s t (isTg A.1 s t), A.2.2) ∧ O1 7 = O 7 ∧ O1 8 = O 8 := by
  have hc' := hc
  obtain ⟨w, cw, c9, hT, hS, hI, hB, hM, hP, hF, hSh⟩ := hc
  have hsel := cw.sel
  have hw' := hw
  obtain ⟨wT, wS, wI, wP, wF, wSh, wt⟩ := hw
  have h8 := wT.1
  have h12 := wT.2.1
  have h4 := wT.2.2.1
  have h6 := wT.2.2.2.1
  have wMd : WMd A.1 (mds A.1 A.2.1.2.1 A.2.1.1) := mds_wf _ (by have := wS.1; omega)
  have kmC : ∀ k, k < nK A.1 → KM (O 0 0) k ((mds A.1 A.2.1.2.1 A.2.1.1).2 k) := fun k hk => hM.2.2 k hk (by rw [Nat.testBit_two_pow_sub_one, decide_eq_true hk])
  obtain ⟨O1, e1, r⟩ := a_show_ 2 (so := isTg A.1 s t) hw' hc' hs ht hn
  refine ⟨O1, ?_, r⟩
  rw [sX6_teach_0]
  simp (disch := omega) only [nI_ltI, nI_eq, nI_add, nI_clamp, ib_n, pk_mul, q_and, q_or, q_dn, q_shl, q_shlm, q_p1, if_true, if_false, ↓reduceIte, Option.bind_some, bI_0, bI_1, bI_01, b_or, Nat.not_lt_zero, Nat.zero_add, Bool.false_eq_true, Bool.true_eq_false, or_false, or_true, true_or, false_or, hsel, m_isTarget 5 (s := s) (t := t) hs (by omega) hT wT, e1]
theorem a_teach_no (hw : WA A) (hc : CI O A) {s : Nat} {y : Int32} (hs : s < nS A.1) (hy : hsI y (nT A.1) = false) : ex 9 76 0 [some (vr 6 0 0), some (vi (nI s)), some (vi y)] [] O = some (-1, O) := by
  obtain ⟨w, cw, c9, hT, hS, hI, hB, hM, hP, hF, hSh⟩ := hc
  have hsel := cw.sel
  have hw' := hw
  obtain ⟨wT, wS, wI, wP, wF, wSh, wt⟩ := hw
  have h8 := wT.1
  have h12 := wT.2.1
  have h4 := wT.2.2.1
  have h6 := wT.2.2.2.1
  have wMd : WMd A.1 (mds A.1 A.2.1.2.1 A.2.1.1) := mds_wf _ (by have := wS.1; omega)
  have kmC : ∀ k, k < nK A.1 → KM (O 0 0) k ((mds A.1 A.2.1.2.1 A.2.1.1).2 k) := fun k hk => hM.2.2 k hk (by rw [Nat.testBit_two_pow_sub_one, decide_eq_true hk])
  have := tgA_lt wT s
  obtain ⟨b, hb⟩ := m_isInX 6 O y (b := tgA A.1 s) (by omega)
  rw [sX6_teach_0, hsel, sX4_isTarget_0, m_targetThings _ hs hT wT]
  simp (disch := omega) only [nI_ltI, nI_eq, nI_add, nI_clamp, ib_n, pk_mul, q_and, q_or, q_dn, q_shl, q_shlm, q_p1, if_true, if_false, ↓reduceIte, Option.bind_some, bI_0, bI_1, bI_01, b_or, Nat.not_lt_zero, Nat.zero_add, Bool.false_eq_true, Bool.true_eq_false, or_false, or_true, true_or, false_or, hb, show_bad 6 hsel hT (Or.inr hy)]
theorem a_undo0 (hw : WA A) (hc : CI O A) (h0 : A.2.1.1 = 0) : ex 9 77 0 [some (vr 6 0 0)] [] O = some (oI none, O) := by
  obtain ⟨w, cw, c9, hT, hS, hI, hB, hM, hP, hF, hSh⟩ := hc
  have hsel := cw.sel
  have hw' := hw
  obtain ⟨wT, wS, wI, wP, wF, wSh, wt⟩ := hw
  have h8 := wT.1
  have h12 := wT.2.1
  have h4 := wT.2.2.1
  have h6 := wT.2.2.2.1
  have wMd : WMd A.1 (mds A.1 A.2.1.2.1 A.2.1.1) := mds_wf _ (by have := wS.1; omega)
  have kmC : ∀ k, k < nK A.1 → KM (O 0 0) k ((mds A.1 A.2.1.2.1 A.2.1.1).2 k) := fun k hk => hM.2.2 k hk (by rw [Nat.testBit_two_pow_sub_one, decide_eq_true hk])
  rw [sX6_undo_0]
  simp (disch := omega) only [nI_ltI, nI_eq, nI_add, nI_clamp, ib_n, pk_mul, q_and, q_or, q_dn, q_shl, q_shlm, q_p1, if_true, if_false, ↓reduceIte, Option.bind_some, bI_0, bI_1, bI_01, b_or, Nat.not_lt_zero, Nat.zero_add, Bool.false_eq_true, Bool.true_eq_false, or_false, or_true, true_or, false_or, hS.1, h0, Nat.lt_irrefl]
theorem a_undo (hw : WA A) (hc : CI O A) (h0 : ¬ A.2.1.1 = 0) : ∃ O1, ex 9 77 0 [some (vr 6 0 0)] [] O = some (nI (A.2.1.1 - 1), O1) ∧ WA (A.1, (A.2.1.1 - 1, A.2.1.2), A.2.2) ∧ CI O1 (A.1, (A.2.1.1 - 1, A.2.1.2), A.2.2) ∧ O1 7 = O 7 ∧ O1 8 = O 8 := by
  have hc' := hc
  obtain ⟨w, cw, c9, hT, hS, hI, hB, hM, hP, hF, hSh⟩ := hc
  have hsel := cw.sel
  have hw' := hw
  obtain ⟨wT, wS, wI, wP, wF, wSh, wt⟩ := hw
  have h8 := wT.1
  have h12 := wT.2.1
  have h4 := wT.2.2.1
  have h6 := wT.2.2.2.1
  have wMd : WMd A.1 (mds A.1 A.2.1.2.1 A.2.1.1) := mds_wf _ (by have := wS.1; omega)
  have kmC : ∀ k, k < nK A.1 → KM (O 0 0) k ((mds A.1 A.2.1.2.1 A.2.1.1).2 k) := fun k hk => hM.2.2 k hk (by rw [Nat.testBit_two_pow_sub_one, decide_eq_true hk])
  have h24 := wS.1
  have wc : WSc A.1 (A.2.1.1 - 1, A.2.1.2) := ⟨Nat.le_trans (Nat.sub_le _ _) h24, fun j hj => wS.2.1 j (Nat.lt_of_lt_of_le hj (Nat.sub_le _ _)), wS.2.2⟩
  have e1 : nI A.2.1.1 - nI 1 = nI (A.2.1.1 - 1) := pk_sub (by omega)
  have hCS : CS ((up O 1 0 0 0 (nI (A.2.1.1 - 1))) 1 0) (A.2.1.1 - 1, A.2.1.2) := by
    refine ⟨up_eq .., fun j hj => ?_, ?_, ?_, fun j hj => ?_⟩
    · have hj : j < A.2.1.1 - 1 := hj
      simp (disch := omega) only [up_ne]; exact hS.2.1 j (by omega)
    · simp (disch := omega) only [up_ne]; exact hS.2.2.1
    · simp (disch := omega) only [up_ne]; exact hS.2.2.2.1
    · simp (disch := omega) only [up_ne]; exact hS.2.2.2.2 j hj
  have hCB : CB ((up O 1 0 0 0 (nI (A.2.1.1 - 1))) 1 0) := by
    refine ⟨fun j hj => ?_, fun j hj => ?_⟩
    · simp (disch := omega) only [up_ne]; exact (hB 0 (by decide)).1 j hj
    · simp (disch := omega) only [up_ne]; exact (hB 0 (by decide)).2 j hj
  obtain ⟨O1, q1, c1, c7, c8, c10⟩ := m_rethink 3 (O1 := up O 1 0 0 0 (nI (A.2.1.1 - 1))) (c := (A.2.1.1 - 1, A.2.1.2)) hc' wT wc (fun c z => funext fun n => up_row (Or.inl z)) (fun i z => up_row (Or.inr z)) hCS hCB
  refine ⟨O1, ?_, hw'.scene wc, c1, c7, c8⟩
  rw [sX6_undo_0]
  simp (disch := omega) only [nI_ltI, nI_eq, nI_add, nI_clamp, ib_n, pk_mul, q_and, q_or, q_dn, q_shl, q_shlm, q_p1, if_true, if_false, ↓reduceIte, Option.bind_some, bI_0, bI_1, bI_01, b_or, Nat.not_lt_zero, Nat.zero_add, Bool.false_eq_true, Bool.true_eq_false, or_false, or_true, true_or, false_or, hS.1, e1, q1]
  rw [if_pos (by omega), c10, up_eq]
theorem a_clear (hw : WA A) (hc : CI O A) : ∃ O1, ex 9 78 0 [some (vr 6 0 0)] [] O = some (nI A.2.1.1, O1) ∧ WA (A.1, (0, A.2.1.2.1, 2 ^ nK A.1 - 1, A.2.1.2.2.2), A.2.2) ∧ CI O1 (A.1, (0, A.2.1.2.1, 2 ^ nK A.1 - 1, A.2.1.2.2.2), A.2.2) ∧ O1 7 = O 7 ∧ O1 8 = O 8 := by
  have hc' := hc
  obtain ⟨w, cw, c9, hT, hS, hI, hB, hM, hP, hF, hSh⟩ := hc
  have hsel := cw.sel
  have hw' := hw
  obtain ⟨wT, wS, wI, wP, wF, wSh, wt⟩ := hw
  have h8 := wT.1
  have h12 := wT.2.1
  have h4 := wT.2.2.1
  have h6 := wT.2.2.2.1
  have wMd : WMd A.1 (mds A.1 A.2.1.2.1 A.2.1.1) := mds_wf _ (by have := wS.1; omega)
  have kmC : ∀ k, k < nK A.1 → KM (O 0 0) k ((mds A.1 A.2.1.2.1 A.2.1.1).2 k) := fun k hk => hM.2.2 k hk (by rw [Nat.testBit_two_pow_sub_one, decide_eq_true hk])
  have h24 := wS.1
  have hp := Nat.two_pow_pos (nK A.1)
  have wc : WSc A.1 (0, A.2.1.2.1, 2 ^ nK A.1 - 1, A.2.1.2.2.2) := ⟨Nat.zero_le _, fun j hj => absurd hj (Nat.not_lt_zero _), Nat.sub_lt hp (by decide), wS.2.2.2⟩
  have hCS : CS ((up (up O 1 0 0 0 (nI 0)) 1 0 0 4 (nI (2 ^ nK A.1 - 1))) 1 0) (0, A.2.1.2.1, 2 ^ nK A.1 - 1, A.2.1.2.2.2) := by
    refine ⟨by simp (disch := omega) only [up_ne, up_eq], fun j hj => absurd hj (Nat.not_lt_zero _), up_eq .., ?_, fun j hj => ?_⟩
    · simp (disch := omega) only [up_ne]; exact hS.2.2.2.1
    · simp (disch := omega) only [up_ne]; exact hS.2.2.2.2 j hj
  have hCB : CB ((up (up O 1 0 0 0 (nI 0)) 1 0 0 4 (nI (2 ^ nK A.1 - 1))) 1 0) := by
    refine ⟨fun j hj => ?_, fun j hj => ?_⟩
    · simp (disch := omega) only [up_ne]; exact (hB 0 (by decide)).1 j hj
    · simp (disch := omega) only [up_ne]; exact (hB 0 (by decide)).2 j hj
  obtain ⟨O1, q1, c1, c7, c8, c10⟩ := m_rethink 3 (O1 := up (up O 1 0 0 0 (nI 0)) 1 0 0 4 (nI (2 ^ nK A.1 - 1))) (c := (0, A.2.1.2.1, 2 ^ nK A.1 - 1, A.2.1.2.2.2)) hc' wT wc (fun c z => funext fun n => (up_row (Or.inl z)).trans (up_row (Or.inl z))) (fun i z => (up_row (Or.inr z)).trans (up_row (Or.inr z))) hCS hCB
  refine ⟨O1, ?_, hw'.scene wc, c1, c7, c8⟩
  have hT' : CT ((up O 1 0 0 0 (nI 0)) 4 w) A.1 := by rw [up_row (Or.inl (by decide))]; exact hT
  rw [sX6_clear_0]
  simp (disch := omega) only [up_row]
  simp (disch := omega) only [nI_ltI, nI_eq, nI_add, nI_clamp, ib_n, pk_mul, q_and, q_or, q_dn, q_shl, q_shlm, q_p1, if_true, if_false, ↓reduceIte, Option.bind_some, bI_0, bI_1, bI_01, b_or, Nat.not_lt_zero, Nat.zero_add, Bool.false_eq_true, Bool.true_eq_false, or_false, or_true, true_or, false_or, hsel, m_allKinds (h := hT') (hT := wT), q1, hS.1]
theorem a_shown (hw : WA A) (hc : CI O A) {j : Nat} (hj : j < A.2.1.1) : ex 9 79 0 [some (vr 6 0 0), some (vi (nI j)), some (vi (nI 0))] [] O = some (nI (A.2.1.2.1 j).1, O) ∧ ex 9 79 0 [some (vr 6 0 0), some (vi (nI j)), some (vi (nI 1))] [] O = some (nI (A.2.1.2.1 j).2.1, O) ∧ ex 9 79 0 [some (vr 6 0 0), some (vi (nI j)), some (vi (nI 2))] [] O = some (bI (A.2.1.2.1 j).2.2, O) ∧ ex 9 79 0 [some (vr 6 0 0), some (vi (nI j)), some (vi (nI 3))] [] O = some (-1, O) := by
  obtain ⟨w, cw, c9, hT, hS, hI, hB, hM, hP, hF, hSh⟩ := hc
  have hsel := cw.sel
  have hw' := hw
  obtain ⟨wT, wS, wI, wP, wF, wSh, wt⟩ := hw
  have h8 := wT.1
  have h12 := wT.2.1
  have h4 := wT.2.2.1
  have h6 := wT.2.2.2.1
  have wMd : WMd A.1 (mds A.1 A.2.1.2.1 A.2.1.1) := mds_wf _ (by have := wS.1; omega)
  have kmC : ∀ k, k < nK A.1 → KM (O 0 0) k ((mds A.1 A.2.1.2.1 A.2.1.1).2 k) := fun k hk => hM.2.2 k hk (by rw [Nat.testBit_two_pow_sub_one, decide_eq_true hk])
  have h24 := wS.1
  obtain ⟨t1, t2, t3⟩ := hS.2.1 j hj
  have hj2 : j < 24 := by omega
  refine ⟨?_, ?_, ?_, ?_⟩ <;> rw [sX6_shown_0]
  · simp (disch := omega) only [nI_ltI, nI_eq, nI_add, nI_clamp, ib_n, pk_mul, q_and, q_or, q_dn, q_shl, q_shlm, q_p1, if_true, if_false, ↓reduceIte, Option.bind_some, bI_0, bI_1, bI_01, b_or, Nat.not_lt_zero, Nat.zero_add, Bool.false_eq_true, Bool.true_eq_false, or_false, or_true, true_or, false_or, hS.1, hj, t1]
    simp
    omega
  · simp (disch := omega) only [nI_ltI, nI_eq, nI_add, nI_clamp, ib_n, pk_mul, q_and, q_or, q_dn, q_shl, q_shlm, q_p1, if_true, if_false, ↓reduceIte, Option.bind_some, bI_0, bI_1, bI_01, b_or, Nat.not_lt_zero, Nat.zero_add, Bool.false_eq_true, Bool.true_eq_false, or_false, or_true, true_or, false_or, hS.1, hj, t2]
    simp
    omega
  · simp (disch := omega) only [nI_ltI, nI_eq, nI_add, nI_clamp, ib_n, pk_mul, q_and, q_or, q_dn, q_shl, q_shlm, q_p1, if_true, if_false, ↓reduceIte, Option.bind_some, bI_0, bI_1, bI_01, b_or, Nat.not_lt_zero, Nat.zero_add, Bool.false_eq_true, Bool.true_eq_false, or_false, or_true, true_or, false_or, hS.1, hj, t3]
    cases (A.2.1.2.1 j).2.2 <;> simp [bI, hj2]
  · simp (disch := omega) only [nI_ltI, nI_eq, nI_add, nI_clamp, ib_n, pk_mul, q_and, q_or, q_dn, q_shl, q_shlm, q_p1, if_true, if_false, ↓reduceIte, Option.bind_some, bI_0, bI_1, bI_01, b_or, Nat.not_lt_zero, Nat.zero_add, Bool.false_eq_true, Bool.true_eq_false, or_false, or_true, true_or, false_or, hS.1, hj]
    simp
theorem a_shown_no (hw : WA A) (hc : CI O A) {j : Nat} {y : Int32} (hj : A.2.1.1 ≤ j) (hj2 : j < 2 ^ 31) : ex 9 79 0 [some (vr 6 0 0), some (vi (nI j)), some (vi y)] [] O = some (-1, O) := by
  obtain ⟨w, cw, c9, hT, hS, hI, hB, hM, hP, hF, hSh⟩ := hc
  have hsel := cw.sel
  have hw' := hw
  obtain ⟨wT, wS, wI, wP, wF, wSh, wt⟩ := hw
  have h8 := wT.1
  have h12 := wT.2.1
  have h4 := wT.2.2.1
  have h6 := wT.2.2.2.1
  have wMd : WMd A.1 (mds A.1 A.2.1.2.1 A.2.1.1) := mds_wf _ (by have := wS.1; omega)
  have kmC : ∀ k, k < nK A.1 → KM (O 0 0) k ((mds A.1 A.2.1.2.1 A.2.1.1).2 k) := fun k hk => hM.2.2 k hk (by rw [Nat.testBit_two_pow_sub_one, decide_eq_true hk])
  have h24 := wS.1
  rw [sX6_shown_0]
  simp (disch := omega) only [nI_ltI, nI_eq, nI_add, nI_clamp, ib_n, pk_mul, q_and, q_or, q_dn, q_shl, q_shlm, q_p1, if_true, if_false, ↓reduceIte, Option.bind_some, bI_0, bI_1, bI_01, b_or, Nat.not_lt_zero, Nat.zero_add, Bool.false_eq_true, Bool.true_eq_false, or_false, or_true, true_or, false_or, hS.1]
  rw [if_neg (by omega)]
theorem a_thinks (hw : WA A) (hc : CI O A) {k s : Nat} (hk : k < nK A.1) (hs : s < nS A.1) : ex 9 80 0 [some (vr 6 0 0), some (vi (nI k)), some (vi (nI s))] [] O = some (oI (((mds A.1 A.2.1.2.1 A.2.1.1).2 k).1 s), O) := by
  obtain ⟨w, cw, c9, hT, hS, hI, hB, hM, hP, hF, hSh⟩ := hc
  have hsel := cw.sel
  have hw' := hw
  obtain ⟨wT, wS, wI, wP, wF, wSh, wt⟩ := hw
  have h8 := wT.1
  have h12 := wT.2.1
  have h4 := wT.2.2.1
  have h6 := wT.2.2.2.1
  have wMd : WMd A.1 (mds A.1 A.2.1.2.1 A.2.1.1) := mds_wf _ (by have := wS.1; omega)
  have kmC : ∀ k, k < nK A.1 → KM (O 0 0) k ((mds A.1 A.2.1.2.1 A.2.1.1).2 k) := fun k hk => hM.2.2 k hk (by rw [Nat.testBit_two_pow_sub_one, decide_eq_true hk])
  rw [sX6_thinks_0]
  simp (disch := omega) only [nI_ltI, nI_eq, nI_add, nI_clamp, ib_n, pk_mul, q_and, q_or, q_dn, q_shl, q_shlm, q_p1, if_true, if_false, ↓reduceIte, Option.bind_some, bI_0, bI_1, bI_01, b_or, Nat.not_lt_zero, Nat.zero_add, Bool.false_eq_true, Bool.true_eq_false, or_false, or_true, true_or, false_or, hsel, m_hasKind (h := hT), m_hasSound (h := hT), hs_y hk (by omega), hs_y hs (by omega), m_thoughtOf _ (k := k) (s := s) (by omega) (by omega) (kmC k hk)]
theorem a_thinks_no (hw : WA A) (hc : CI O A) {x y : Int32} (hx : hsI x (nK A.1) = false) : ex 9 80 0 [some (vr 6 0 0), some (vi x), some (vi y)] [] O = some (-1, O) := by
  obtain ⟨w, cw, c9, hT, hS, hI, hB, hM, hP, hF, hSh⟩ := hc
  have hsel := cw.sel
  have hw' := hw
  obtain ⟨wT, wS, wI, wP, wF, wSh, wt⟩ := hw
  have h8 := wT.1
  have h12 := wT.2.1
  have h4 := wT.2.2.1
  have h6 := wT.2.2.2.1
  have wMd : WMd A.1 (mds A.1 A.2.1.2.1 A.2.1.1) := mds_wf _ (by have := wS.1; omega)
  have kmC : ∀ k, k < nK A.1 → KM (O 0 0) k ((mds A.1 A.2.1.2.1 A.2.1.1).2 k) := fun k hk => hM.2.2 k hk (by rw [Nat.testBit_two_pow_sub_one, decide_eq_true hk])
  rw [sX6_thinks_0]
  simp (disch := omega) only [nI_ltI, nI_eq, nI_add, nI_clamp, ib_n, pk_mul, q_and, q_or, q_dn, q_shl, q_shlm, q_p1, if_true, if_false, ↓reduceIte, Option.bind_some, bI_0, bI_1, bI_01, b_or, Nat.not_lt_zero, Nat.zero_add, Bool.false_eq_true, Bool.true_eq_false, or_false, or_true, true_or, false_or, hsel, m_hasKind (h := hT), hx]
theorem a_fits (hw : WA A) (hc : CI O A) {k s : Nat} (hk : k < nK A.1) (hs : s < nS A.1) : ex 9 81 0 [some (vr 6 0 0), some (vi (nI k)), some (vi (nI s))] [] O = some (nI ((mds A.1 A.2.1.2.1 A.2.1.1).1 s &&& can A.1 k), O) := by
  obtain ⟨w, cw, c9, hT, hS, hI, hB, hM, hP, hF, hSh⟩ := hc
  have hsel := cw.sel
  have hw' := hw
  obtain ⟨wT, wS, wI, wP, wF, wSh, wt⟩ := hw
  have h8 := wT.1
  have h12 := wT.2.1
  have h4 := wT.2.2.1
  have h6 := wT.2.2.2.1
  have wMd : WMd A.1 (mds A.1 A.2.1.2.1 A.2.1.1) := mds_wf _ (by have := wS.1; omega)
  have kmC : ∀ k, k < nK A.1 → KM (O 0 0) k ((mds A.1 A.2.1.2.1 A.2.1.1).2 k) := fun k hk => hM.2.2 k hk (by rw [Nat.testBit_two_pow_sub_one, decide_eq_true hk])
  rw [sX6_fits_0]
  simp (disch := omega) only [nI_ltI, nI_eq, nI_add, nI_clamp, ib_n, pk_mul, q_and, q_or, q_dn, q_shl, q_shlm, q_p1, if_true, if_false, ↓reduceIte, Option.bind_some, bI_0, bI_1, bI_01, b_or, Nat.not_lt_zero, Nat.zero_add, Bool.false_eq_true, Bool.true_eq_false, or_false, or_true, true_or, false_or, hsel, m_hasKind (h := hT), m_hasSound (h := hT), hs_y hk (by omega), hs_y hs (by omega), hM.2.1 s (by omega), (hT.2.2.2.2 k hk).2.2.2.2.2]
theorem a_fits_no (hw : WA A) (hc : CI O A) {k : Nat} {y : Int32} (hk : k < nK A.1) (hy : hsI y (nS A.1) = false) : ex 9 81 0 [some (vr 6 0 0), some (vi (nI k)), some (vi y)] [] O = some (-1, O) := by
  obtain ⟨w, cw, c9, hT, hS, hI, hB, hM, hP, hF, hSh⟩ := hc
  have hsel := cw.sel
  have hw' := hw
  obtain ⟨wT, wS, wI, wP, wF, wSh, wt⟩ := hw
  have h8 := wT.1
  have h12 := wT.2.1
  have h4 := wT.2.2.1
  have h6 := wT.2.2.2.1
  have wMd : WMd A.1 (mds A.1 A.2.1.2.1 A.2.1.1) := mds_wf _ (by have := wS.1; omega)
  have kmC : ∀ k, k < nK A.1 → KM (O 0 0) k ((mds A.1 A.2.1.2.1 A.2.1.1).2 k) := fun k hk => hM.2.2 k hk (by rw [Nat.testBit_two_pow_sub_one, decide_eq_true hk])
  rw [sX6_fits_0]
  simp (disch := omega) only [nI_ltI, nI_eq, nI_add, nI_clamp, ib_n, pk_mul, q_and, q_or, q_dn, q_shl, q_shlm, q_p1, if_true, if_false, ↓reduceIte, Option.bind_some, bI_0, bI_1, bI_01, b_or, Nat.not_lt_zero, Nat.zero_add, Bool.false_eq_true, Bool.true_eq_false, or_false, or_true, true_or, false_or, hsel, m_hasKind (h := hT), m_hasSound (h := hT), hs_y hk (by omega), hy]
theorem a_same (hw : WA A) (hc : CI O A) {k s : Nat} (hk : k < nK A.1) (hs : s < nS A.1) : ex 9 82 0 [some (vr 6 0 0), some (vi (nI k)), some (vi (nI s))] [] O = some (bI (sam A.1 (mds A.1 A.2.1.2.1 A.2.1.1) k s), O) := by
  obtain ⟨w, cw, c9, hT, hS, hI, hB, hM, hP, hF, hSh⟩ := hc
  have hsel := cw.sel
  have hw' := hw
  obtain ⟨wT, wS, wI, wP, wF, wSh, wt⟩ := hw
  have h8 := wT.1
  have h12 := wT.2.1
  have h4 := wT.2.2.1
  have h6 := wT.2.2.2.1
  have wMd : WMd A.1 (mds A.1 A.2.1.2.1 A.2.1.1) := mds_wf _ (by have := wS.1; omega)
  have kmC : ∀ k, k < nK A.1 → KM (O 0 0) k ((mds A.1 A.2.1.2.1 A.2.1.1).2 k) := fun k hk => hM.2.2 k hk (by rw [Nat.testBit_two_pow_sub_one, decide_eq_true hk])
  rw [sX6_same_0]
  simp (disch := omega) only [nI_ltI, nI_eq, nI_add, nI_clamp, ib_n, pk_mul, q_and, q_or, q_dn, q_shl, q_shlm, q_p1, if_true, if_false, ↓reduceIte, Option.bind_some, bI_0, bI_1, bI_01, b_or, Nat.not_lt_zero, Nat.zero_add, Bool.false_eq_true, Bool.true_eq_false, or_false, or_true, true_or, false_or, hsel, m_hasKind (h := hT), m_hasSound (h := hT), hs_y hk (by omega), hs_y hs (by omega), m_isSame 5 hk hs hT wT (kmC k hk) (wMd.2 k)]
  cases sam A.1 (mds A.1 A.2.1.2.1 A.2.1.1) k s <;> simp [bI]
theorem a_same_no (hw : WA A) (hc : CI O A) {x y : Int32} (hx : hsI x (nK A.1) = false) : ex 9 82 0 [some (vr 6 0 0), some (vi x), some (vi y)] [] O = some (-1, O) := by
  obtain ⟨w, cw, c9, hT, hS, hI, hB, hM, hP, hF, hSh⟩ := hc
  have hsel := cw.sel
  have hw' := hw
  obtain ⟨wT, wS, wI, wP, wF, wSh, wt⟩ := hw
  have h8 := wT.1
  have h12 := wT.2.1
  have h4 := wT.2.2.1
  have h6 := wT.2.2.2.1
  have wMd : WMd A.1 (mds A.1 A.2.1.2.1 A.2.1.1) := mds_wf _ (by have := wS.1; omega)
  have kmC : ∀ k, k < nK A.1 → KM (O 0 0) k ((mds A.1 A.2.1.2.1 A.2.1.1).2 k) := fun k hk => hM.2.2 k hk (by rw [Nat.testBit_two_pow_sub_one, decide_eq_true hk])
  rw [sX6_same_0]
  simp (disch := omega) only [nI_ltI, nI_eq, nI_add, nI_clamp, ib_n, pk_mul, q_and, q_or, q_dn, q_shl, q_shlm, q_p1, if_true, if_false, ↓reduceIte, Option.bind_some, bI_0, bI_1, bI_01, b_or, Nat.not_lt_zero, Nat.zero_add, Bool.false_eq_true, Bool.true_eq_false, or_false, or_true, true_or, false_or, hsel, m_hasKind (h := hT), hx]
theorem a_against (hw : WA A) (hc : CI O A) {k s : Nat} (hk : k < nK A.1) (hs : s < nS A.1) : ex 9 84 0 [some (vr 6 0 0), some (vi (nI k)), some (vi (nI s))] [] O = some (nI (((mds A.1 A.2.1.2.1 A.2.1.1).2 k).2.1 s), O) := by
  obtain ⟨w, cw, c9, hT, hS, hI, hB, hM, hP, hF, hSh⟩ := hc
  have hsel := cw.sel
  have hw' := hw
  obtain ⟨wT, wS, wI, wP, wF, wSh, wt⟩ := hw
  have h8 := wT.1
  have h12 := wT.2.1
  have h4 := wT.2.2.1
  have h6 := wT.2.2.2.1
  have wMd : WMd A.1 (mds A.1 A.2.1.2.1 A.2.1.1) := mds_wf _ (by have := wS.1; omega)
  have kmC : ∀ k, k < nK A.1 → KM (O 0 0) k ((mds A.1 A.2.1.2.1 A.2.1.1).2 k) := fun k hk => hM.2.2 k hk (by rw [Nat.testBit_two_pow_sub_one, decide_eq_true hk])
  rw [sX6_against_0]
  simp (disch := omega) only [nI_ltI, nI_eq, nI_add, nI_clamp, ib_n, pk_mul, q_and, q_or, q_dn, q_shl, q_shlm, q_p1, if_true, if_false, ↓reduceIte, Option.bind_some, bI_0, bI_1, bI_01, b_or, Nat.not_lt_zero, Nat.zero_add, Bool.false_eq_true, Bool.true_eq_false, or_false, or_true, true_or, false_or, hsel, m_hasKind (h := hT), m_hasSound (h := hT), hs_y hk (by omega), hs_y hs (by omega), ((kmC k hk).1 s (by omega)).2]
theorem a_against_no (hw : WA A) (hc : CI O A) {k : Nat} {y : Int32} (hk : k < nK A.1) (hy : hsI y (nS A.1) = false) : ex 9 84 0 [some (vr 6 0 0), some (vi (nI k)), some (vi y)] [] O = some (-1, O) := by
  obtain ⟨w, cw, c9, hT, hS, hI, hB, hM, hP, hF, hSh⟩ := hc
  have hsel := cw.sel
  have hw' := hw
  obtain ⟨wT, wS, wI, wP, wF, wSh, wt⟩ := hw
  have h8 := wT.1
  have h12 := wT.2.1
  have h4 := wT.2.2.1
  have h6 := wT.2.2.2.1
  have wMd : WMd A.1 (mds A.1 A.2.1.2.1 A.2.1.1) := mds_wf _ (by have := wS.1; omega)
  have kmC : ∀ k, k < nK A.1 → KM (O 0 0) k ((mds A.1 A.2.1.2.1 A.2.1.1).2 k) := fun k hk => hM.2.2 k hk (by rw [Nat.testBit_two_pow_sub_one, decide_eq_true hk])
  rw [sX6_against_0]
  simp (disch := omega) only [nI_ltI, nI_eq, nI_add, nI_clamp, ib_n, pk_mul, q_and, q_or, q_dn, q_shl, q_shlm, q_p1, if_true, if_false, ↓reduceIte, Option.bind_some, bI_0, bI_1, bI_01, b_or, Nat.not_lt_zero, Nat.zero_add, Bool.false_eq_true, Bool.true_eq_false, or_false, or_true, true_or, false_or, hsel, m_hasKind (h := hT), m_hasSound (h := hT), hs_y hk (by omega), hy]
theorem a_fled (hw : WA A) (hc : CI O A) {k : Nat} (hk : k < nK A.1) : ex 9 83 0 [some (vr 6 0 0), some (vi (nI k))] [] O = some (oI ((mds A.1 A.2.1.2.1 A.2.1.1).2 k).2.2.2, O) := by
  obtain ⟨w, cw, c9, hT, hS, hI, hB, hM, hP, hF, hSh⟩ := hc
  have hsel := cw.sel
  have hw' := hw
  obtain ⟨wT, wS, wI, wP, wF, wSh, wt⟩ := hw
  have h8 := wT.1
  have h12 := wT.2.1
  have h4 := wT.2.2.1
  have h6 := wT.2.2.2.1
  have wMd : WMd A.1 (mds A.1 A.2.1.2.1 A.2.1.1) := mds_wf _ (by have := wS.1; omega)
  have kmC : ∀ k, k < nK A.1 → KM (O 0 0) k ((mds A.1 A.2.1.2.1 A.2.1.1).2 k) := fun k hk => hM.2.2 k hk (by rw [Nat.testBit_two_pow_sub_one, decide_eq_true hk])
  rw [sX6_fled_0]
  simp (disch := omega) only [nI_ltI, nI_eq, nI_add, nI_clamp, ib_n, pk_mul, q_and, q_or, q_dn, q_shl, q_shlm, q_p1, if_true, if_false, ↓reduceIte, Option.bind_some, bI_0, bI_1, bI_01, b_or, Nat.not_lt_zero, Nat.zero_add, Bool.false_eq_true, Bool.true_eq_false, or_false, or_true, true_or, false_or, hsel, m_hasKind (h := hT), hs_y hk (by omega), (kmC k hk).2.2]
theorem a_fled_no (hw : WA A) (hc : CI O A) {x : Int32} (hx : hsI x (nK A.1) = false) : ex 9 83 0 [some (vr 6 0 0), some (vi x)] [] O = some (-1, O) := by
  obtain ⟨w, cw, c9, hT, hS, hI, hB, hM, hP, hF, hSh⟩ := hc
  have hsel := cw.sel
  have hw' := hw
  obtain ⟨wT, wS, wI, wP, wF, wSh, wt⟩ := hw
  have h8 := wT.1
  have h12 := wT.2.1
  have h4 := wT.2.2.1
  have h6 := wT.2.2.2.1
  have wMd : WMd A.1 (mds A.1 A.2.1.2.1 A.2.1.1) := mds_wf _ (by have := wS.1; omega)
  have kmC : ∀ k, k < nK A.1 → KM (O 0 0) k ((mds A.1 A.2.1.2.1 A.2.1.1).2 k) := fun k hk => hM.2.2 k hk (by rw [Nat.testBit_two_pow_sub_one, decide_eq_true hk])
  rw [sX6_fled_0]
  simp (disch := omega) only [nI_ltI, nI_eq, nI_add, nI_clamp, ib_n, pk_mul, q_and, q_or, q_dn, q_shl, q_shlm, q_p1, if_true, if_false, ↓reduceIte, Option.bind_some, bI_0, bI_1, bI_01, b_or, Nat.not_lt_zero, Nat.zero_add, Bool.false_eq_true, Bool.true_eq_false, or_false, or_true, true_or, false_or, hsel, m_hasKind (h := hT), hx]
theorem a_common (hw : WA A) (hc : CI O A) {K : Nat} (hK : K < 2 ^ nK A.1) : ex 9 85 0 [some (vr 6 0 0), some (vi (nI K))] [] O = some (nI (ms (nS A.1) fun s => samA A.1 (mds A.1 A.2.1.2.1 A.2.1.1) K s), O) := by
  obtain ⟨w, cw, c9, hT, hS, hI, hB, hM, hP, hF, hSh⟩ := hc
  have hsel := cw.sel
  have hw' := hw
  obtain ⟨wT, wS, wI, wP, wF, wSh, wt⟩ := hw
  have h8 := wT.1
  have h12 := wT.2.1
  have h4 := wT.2.2.1
  have h6 := wT.2.2.2.1
  have wMd : WMd A.1 (mds A.1 A.2.1.2.1 A.2.1.1) := mds_wf _ (by have := wS.1; omega)
  have kmC : ∀ k, k < nK A.1 → KM (O 0 0) k ((mds A.1 A.2.1.2.1 A.2.1.1).2 k) := fun k hk => hM.2.2 k hk (by rw [Nat.testBit_two_pow_sub_one, decide_eq_true hk])
  have h64 : 2 ^ nK A.1 ≤ 2 ^ 6 := Nat.pow_le_pow_right (by decide) h6
  rw [sX6_common_0]
  simp (disch := omega) only [nI_ltI, nI_eq, nI_add, nI_clamp, ib_n, pk_mul, q_and, q_or, q_dn, q_shl, q_shlm, q_p1, if_true, if_false, ↓reduceIte, Option.bind_some, bI_0, bI_1, bI_01, b_or, Nat.not_lt_zero, Nat.zero_add, Bool.false_eq_true, Bool.true_eq_false, or_false, or_true, true_or, false_or, hsel, m_areKinds (h := hT) (hT := wT), hs_y hK (by omega)]
  refine (lp_n (fun s a => ex (8 + 1) 85 17 [some (vr 6 0 0), some (vi (nI K)), some (vi (nI a)), some (vi (nI s))] [] O) (fun s a => if samA A.1 (mds A.1 A.2.1.2.1 A.2.1.1) K s = true then a ||| 2 ^ s else a) (nS A.1) (fun s a hs => ?_) 0).trans ?_
  · refine (sX6_common_17 ..).trans ?_
    simp (disch := omega) only [nI_ltI, nI_eq, nI_add, nI_clamp, ib_n, pk_mul, q_and, q_or, q_dn, q_shl, q_shlm, q_p1, if_true, if_false, ↓reduceIte, Option.bind_some, bI_0, bI_1, bI_01, b_or, Nat.not_lt_zero, Nat.zero_add, Bool.false_eq_true, Bool.true_eq_false, or_false, or_true, true_or, false_or, hsel, hT.1.2.2.1, hs, m_isSameForAll 4 (i := 0) (n := w) (K := K) (s := s) (M := (mds A.1 A.2.1.2.1 A.2.1.1)) (by omega) hs hT wT (fun k hk _ => kmC k hk) wMd.2]
    cases samA A.1 (mds A.1 A.2.1.2.1 A.2.1.1) K s <;> simp
  · refine (sX6_common_17 ..).trans ?_
    simp (disch := omega) only [nI_ltI, nI_eq, nI_add, nI_clamp, ib_n, pk_mul, q_and, q_or, q_dn, q_shl, q_shlm, q_p1, if_true, if_false, ↓reduceIte, Option.bind_some, bI_0, bI_1, bI_01, b_or, Nat.not_lt_zero, Nat.zero_add, Bool.false_eq_true, Bool.true_eq_false, or_false, or_true, true_or, false_or, hsel, hT.1.2.2.1, Nat.lt_irrefl, itn_ms]
theorem a_common_no (hw : WA A) (hc : CI O A) {x : Int32} (hx : hsI x (2 ^ nK A.1) = false) : ex 9 85 0 [some (vr 6 0 0), some (vi x)] [] O = some (-1, O) := by
  obtain ⟨w, cw, c9, hT, hS, hI, hB, hM, hP, hF, hSh⟩ := hc
  have hsel := cw.sel
  have hw' := hw
  obtain ⟨wT, wS, wI, wP, wF, wSh, wt⟩ := hw
  have h8 := wT.1
  have h12 := wT.2.1
  have h4 := wT.2.2.1
  have h6 := wT.2.2.2.1
  have wMd : WMd A.1 (mds A.1 A.2.1.2.1 A.2.1.1) := mds_wf _ (by have := wS.1; omega)
  have kmC : ∀ k, k < nK A.1 → KM (O 0 0) k ((mds A.1 A.2.1.2.1 A.2.1.1).2 k) := fun k hk => hM.2.2 k hk (by rw [Nat.testBit_two_pow_sub_one, decide_eq_true hk])
  rw [sX6_common_0]
  simp (disch := omega) only [nI_ltI, nI_eq, nI_add, nI_clamp, ib_n, pk_mul, q_and, q_or, q_dn, q_shl, q_shlm, q_p1, if_true, if_false, ↓reduceIte, Option.bind_some, bI_0, bI_1, bI_01, b_or, Nat.not_lt_zero, Nat.zero_add, Bool.false_eq_true, Bool.true_eq_false, or_false, or_true, true_or, false_or, hsel, m_areKinds (h := hT) (hT := wT), hx]
theorem a_answer (hw : WA A) (hc : CI O A) {k s t : Nat} (hk : k < nK A.1) (hs : s < nS A.1) (ht : t < nT A.1) : ex 9 91 0 [some (vr 6 0 0), some (vi (nI k)), some (vi (nI s)), some (vi (nI t))] [] O = some (oI (ans A.1 (mds A.1 A.2.1.2.1 A.2.1.1) k s t), O) := by
  obtain ⟨w, cw, c9, hT, hS, hI, hB, hM, hP, hF, hSh⟩ := hc
  have hsel := cw.sel
  have hw' := hw
  obtain ⟨wT, wS, wI, wP, wF, wSh, wt⟩ := hw
  have h8 := wT.1
  have h12 := wT.2.1
  have h4 := wT.2.2.1
  have h6 := wT.2.2.2.1
  have wMd : WMd A.1 (mds A.1 A.2.1.2.1 A.2.1.1) := mds_wf _ (by have := wS.1; omega)
  have kmC : ∀ k, k < nK A.1 → KM (O 0 0) k ((mds A.1 A.2.1.2.1 A.2.1.1).2 k) := fun k hk => hM.2.2 k hk (by rw [Nat.testBit_two_pow_sub_one, decide_eq_true hk])
  rw [sX6_answer_0]
  simp (disch := omega) only [nI_ltI, nI_eq, nI_add, nI_clamp, ib_n, pk_mul, q_and, q_or, q_dn, q_shl, q_shlm, q_p1, if_true, if_false, ↓reduceIte, Option.bind_some, bI_0, bI_1, bI_01, b_or, Nat.not_lt_zero, Nat.zero_add, Bool.false_eq_true, Bool.true_eq_false, or_false, or_true, true_or, false_or, hsel, m_hasKind (h := hT), m_hasSound (h := hT), m_hasThing (h := hT), hs_y hk (by omega), hs_y hs (by omega), hs_y ht (by omega), m_answerOf 6 (t := t) hk hs (by omega) hT wT (kmC k hk) (wMd.2 k)]
theorem a_answer_no (hw : WA A) (hc : CI O A) {k s : Nat} {z : Int32} (hk : k < nK A.1) (hs : s < nS A.1) (hz : hsI z (nT A.1) = false) : ex 9 91 0 [some (vr 6 0 0), some (vi (nI k)), some (vi (nI s)), some (vi z)] [] O = some (-1, O) := by
  obtain ⟨w, cw, c9, hT, hS, hI, hB, hM, hP, hF, hSh⟩ := hc
  have hsel := cw.sel
  have hw' := hw
  obtain ⟨wT, wS, wI, wP, wF, wSh, wt⟩ := hw
  have h8 := wT.1
  have h12 := wT.2.1
  have h4 := wT.2.2.1
  have h6 := wT.2.2.2.1
  have wMd : WMd A.1 (mds A.1 A.2.1.2.1 A.2.1.1) := mds_wf _ (by have := wS.1; omega)
  have kmC : ∀ k, k < nK A.1 → KM (O 0 0) k ((mds A.1 A.2.1.2.1 A.2.1.1).2 k) := fun k hk => hM.2.2 k hk (by rw [Nat.testBit_two_pow_sub_one, decide_eq_true hk])
  rw [sX6_answer_0]
  simp (disch := omega) only [nI_ltI, nI_eq, nI_add, nI_clamp, ib_n, pk_mul, q_and, q_or, q_dn, q_shl, q_shlm, q_p1, if_true, if_false, ↓reduceIte, Option.bind_some, bI_0, bI_1, bI_01, b_or, Nat.not_lt_zero, Nat.zero_add, Bool.false_eq_true, Bool.true_eq_false, or_false, or_true, true_or, false_or, hsel, m_hasKind (h := hT), m_hasSound (h := hT), m_hasThing (h := hT), hs_y hk (by omega), hs_y hs (by omega), hz]
theorem a_likely0 (hw : WA A) (hc : CI O A) {s c : Nat} (hs : s < nS A.1) (hcc : c < 2) (h0 : chc A.1 (2 ^ nK A.1 - 1) = 0) : ex 9 96 0 [some (vr 6 0 0), some (vi (nI s)), some (vi (nI c))] [] O = some (oI none, O) := by
  obtain ⟨w, cw, c9, hT, hS, hI, hB, hM, hP, hF, hSh⟩ := hc
  have hsel := cw.sel
  have hw' := hw
  obtain ⟨wT, wS, wI, wP, wF, wSh, wt⟩ := hw
  have h8 := wT.1
  have h12 := wT.2.1
  have h4 := wT.2.2.1
  have h6 := wT.2.2.2.1
  have wMd : WMd A.1 (mds A.1 A.2.1.2.1 A.2.1.1) := mds_wf _ (by have := wS.1; omega)
  have kmC : ∀ k, k < nK A.1 → KM (O 0 0) k ((mds A.1 A.2.1.2.1 A.2.1.1).2 k) := fun k hk => hM.2.2 k hk (by rw [Nat.testBit_two_pow_sub_one, decide_eq_true hk])
  have h64 : 2 ^ nK A.1 ≤ 2 ^ 6 := Nat.pow_le_pow_right (by decide) h6
  rw [sX6_likely_0]
  simp (disch := omega) only [nI_ltI, nI_eq, nI_add, nI_clamp, ib_n, pk_mul, q_and, q_or, q_dn, q_shl, q_shlm, q_p1, if_true, if_false, ↓reduceIte, Option.bind_some, bI_0, bI_1, bI_01, b_or, Nat.not_lt_zero, Nat.zero_add, Bool.false_eq_true, Bool.true_eq_false, or_false, or_true, true_or, false_or, hsel, m_hasSound (h := hT), hs_y hs (by omega), m_allKinds (h := hT) (hT := wT), m_chances 6 (n := w) (K := 2 ^ nK A.1 - 1) (by omega) hT wT, h0]
  rw [if_neg (by omega)]
theorem a_likely (hw : WA A) (hc : CI O A) {s c : Nat} (hs : s < nS A.1) (hcc : c < 2) (h0 : ¬ chc A.1 (2 ^ nK A.1 - 1) = 0) : ex 9 96 0 [some (vr 6 0 0), some (vi (nI s)), some (vi (nI c))] [] O = some (nI (if c = 0 then csm A.1 (mds A.1 A.2.1.2.1 A.2.1.1) s / (chc A.1 (2 ^ nK A.1 - 1)).gcd (csm A.1 (mds A.1 A.2.1.2.1 A.2.1.1) s) else chc A.1 (2 ^ nK A.1 - 1) / (chc A.1 (2 ^ nK A.1 - 1)).gcd (csm A.1 (mds A.1 A.2.1.2.1 A.2.1.1) s)), O) := by
  obtain ⟨w, cw, c9, hT, hS, hI, hB, hM, hP, hF, hSh⟩ := hc
  have hsel := cw.sel
  have hw' := hw
  obtain ⟨wT, wS, wI, wP, wF, wSh, wt⟩ := hw
  have h8 := wT.1
  have h12 := wT.2.1
  have h4 := wT.2.2.1
  have h6 := wT.2.2.2.1
  have wMd : WMd A.1 (mds A.1 A.2.1.2.1 A.2.1.1) := mds_wf _ (by have := wS.1; omega)
  have kmC : ∀ k, k < nK A.1 → KM (O 0 0) k ((mds A.1 A.2.1.2.1 A.2.1.1).2 k) := fun k hk => hM.2.2 k hk (by rw [Nat.testBit_two_pow_sub_one, decide_eq_true hk])
  have h64 : 2 ^ nK A.1 ≤ 2 ^ 6 := Nat.pow_le_pow_right (by decide) h6
  have hall := chc_le wT (2 ^ nK A.1 - 1)
  have hcs := csm_le wT (mds A.1 A.2.1.2.1 A.2.1.1) s
  rw [sX6_likely_0]
  simp (disch := omega) only [nI_ltI, nI_eq, nI_add, nI_clamp, ib_n, pk_mul, q_and, q_or, q_dn, q_shl, q_shlm, q_p1, if_true, if_false, ↓reduceIte, Option.bind_some, bI_0, bI_1, bI_01, b_or, Nat.not_lt_zero, Nat.zero_add, Bool.false_eq_true, Bool.true_eq_false, or_false, or_true, true_or, false_or, hsel, m_hasSound (h := hT), hs_y hs (by omega), m_allKinds (h := hT) (hT := wT), m_chances 6 (n := w) (K := 2 ^ nK A.1 - 1) (by omega) hT wT, m_chanceOfSame 4 (i := 0) (n := w) (s := s) (M := mds A.1 A.2.1.2.1 A.2.1.1) hs hT wT kmC wMd.2]
  rw [if_neg (by omega), if_neg h0]
  have l1 := m_lowest 7 O (a := csm A.1 (mds A.1 A.2.1.2.1 A.2.1.1) s) (b := chc A.1 (2 ^ nK A.1 - 1)) (lo := true) hcs (by omega) hall
  have l0 := m_lowest 7 O (a := csm A.1 (mds A.1 A.2.1.2.1 A.2.1.1) s) (b := chc A.1 (2 ^ nK A.1 - 1)) (lo := false) hcs (by omega) hall
  rw [bI_t] at l1
  rw [bI_f] at l0
  unfold csm at l0 l1
  rcases (by omega : c = 0 ∨ c = 1) with rfl | rfl
  · simp (disch := omega) only [nI_ltI, nI_eq, nI_add, nI_clamp, ib_n, pk_mul, q_and, q_or, q_dn, q_shl, q_shlm, q_p1, if_true, if_false, ↓reduceIte, Option.bind_some, bI_0, bI_1, bI_01, b_or, Nat.not_lt_zero, Nat.zero_add, Bool.false_eq_true, Bool.true_eq_false, or_false, or_true, true_or, false_or, l0]
    rfl
  · simp (disch := omega) only [nI_ltI, nI_eq, nI_add, nI_clamp, ib_n, pk_mul, q_and, q_or, q_dn, q_shl, q_shlm, q_p1, if_true, if_false, ↓reduceIte, Option.bind_some, bI_0, bI_1, bI_01, b_or, Nat.not_lt_zero, Nat.zero_add, Bool.false_eq_true, Bool.true_eq_false, or_false, or_true, true_or, false_or, l1]
    rfl
theorem a_likely_no (hw : WA A) (hc : CI O A) {s : Nat} (hs : s < nS A.1) : ex 9 96 0 [some (vr 6 0 0), some (vi (nI s)), some (vi (nI 2))] [] O = some (-1, O) := by
  obtain ⟨w, cw, c9, hT, hS, hI, hB, hM, hP, hF, hSh⟩ := hc
  have hsel := cw.sel
  have hw' := hw
  obtain ⟨wT, wS, wI, wP, wF, wSh, wt⟩ := hw
  have h8 := wT.1
  have h12 := wT.2.1
  have h4 := wT.2.2.1
  have h6 := wT.2.2.2.1
  have wMd : WMd A.1 (mds A.1 A.2.1.2.1 A.2.1.1) := mds_wf _ (by have := wS.1; omega)
  have kmC : ∀ k, k < nK A.1 → KM (O 0 0) k ((mds A.1 A.2.1.2.1 A.2.1.1).2 k) := fun k hk => hM.2.2 k hk (by rw [Nat.testBit_two_pow_sub_one, decide_eq_true hk])
  rw [sX6_likely_0]
  simp (disch := omega) only [nI_ltI, nI_eq, nI_add, nI_clamp, ib_n, pk_mul, q_and, q_or, q_dn, q_shl, q_shlm, q_p1, if_true, if_false, ↓reduceIte, Option.bind_some, bI_0, bI_1, bI_01, b_or, Nat.not_lt_zero, Nat.zero_add, Bool.false_eq_true, Bool.true_eq_false, or_false, or_true, true_or, false_or, hsel, m_hasSound (h := hT), hs_y hs (by omega)]
  simp
theorem a_count4 (hw : WA A) (hc : CI O A) : ex 9 108 0 [some (vr 6 0 0), some (vi (nI 4))] [] O = some (nI A.2.1.1, O) := by
  obtain ⟨w, cw, c9, hT, hS, hI, hB, hM, hP, hF, hSh⟩ := hc
  have hsel := cw.sel
  have hw' := hw
  obtain ⟨wT, wS, wI, wP, wF, wSh, wt⟩ := hw
  have h8 := wT.1
  have h12 := wT.2.1
  have h4 := wT.2.2.1
  have h6 := wT.2.2.2.1
  have wMd : WMd A.1 (mds A.1 A.2.1.2.1 A.2.1.1) := mds_wf _ (by have := wS.1; omega)
  have kmC : ∀ k, k < nK A.1 → KM (O 0 0) k ((mds A.1 A.2.1.2.1 A.2.1.1).2 k) := fun k hk => hM.2.2 k hk (by rw [Nat.testBit_two_pow_sub_one, decide_eq_true hk])
  rw [sX6_count_0]
  simp (disch := omega) only [nI_ltI, nI_eq, nI_add, nI_clamp, ib_n, pk_mul, q_and, q_or, q_dn, q_shl, q_shlm, q_p1, if_true, if_false, ↓reduceIte, Option.bind_some, bI_0, bI_1, bI_01, b_or, Nat.not_lt_zero, Nat.zero_add, Bool.false_eq_true, Bool.true_eq_false, or_false, or_true, true_or, false_or, hS.1]
  simp
theorem a_keep (hw : WA A) (hc : CI O A) {i : Nat} (hi : i < 2) : ∃ O2, ex 9 102 0 [some (vr 6 0 0), some (vi (nI i))] [] O = some (bI (A.2.2.1 i).isSome, O2) ∧ WA (A.1, A.2.1, (fun j => if j = i then some A.2.1 else A.2.2.1 j), A.2.2.2) ∧ CI O2 (A.1, A.2.1, (fun j => if j = i then some A.2.1 else A.2.2.1 j), A.2.2.2) ∧ O2 7 = O 7 ∧ O2 8 = O 8 := by
  have hc' := hc
  obtain ⟨w, cw, c9, hT, hS, hI, hB, hM, hP, hF, hSh⟩ := hc
  have hsel := cw.sel
  have hw' := hw
  obtain ⟨wT, wS, wI, wP, wF, wSh, wt⟩ := hw
  have h8 := wT.1
  have h12 := wT.2.1
  have h4 := wT.2.2.1
  have h6 := wT.2.2.2.1
  have wMd : WMd A.1 (mds A.1 A.2.1.2.1 A.2.1.1) := mds_wf _ (by have := wS.1; omega)
  have kmC : ∀ k, k < nK A.1 → KM (O 0 0) k ((mds A.1 A.2.1.2.1 A.2.1.1).2 k) := fun k hk => hM.2.2 k hk (by rw [Nat.testBit_two_pow_sub_one, decide_eq_true hk])
  obtain ⟨O1, e1, r1, s1, b1, k1⟩ := m_becomeS 7 (O := O) (i := 1 + i) (j := 0) (c := A.2.1) (by omega) ⟨wS.1, wS.2.2.2.1⟩ hS (hB 0 (by decide))
  have kept : O 1 (1 + i) 0 8 = bI (A.2.2.1 i).isSome := by
    have := hI i hi
    cases e : A.2.2.1 i with
    | none => rw [e] at this; exact this
    | some c => rw [e] at this; exact this.1
  have q1 : ∀ c n, c ≠ 1 ∨ n ≠ 1 + i → up O1 1 (1 + i) 0 8 (nI 1) c n = O c n := fun c n z => (up_row z).trans (r1 c n z)
  have qc : ∀ c, c ≠ 1 → up O1 1 (1 + i) 0 8 (nI 1) c = O c := fun c z => funext fun n => q1 c n (Or.inl z)
  generalize hO2 : up O1 1 (1 + i) 0 8 (nI 1) = O2 at q1 qc
  have wA' : WA (A.1, A.2.1, (fun j => if j = i then some A.2.1 else A.2.2.1 j), A.2.2.2) := by
    refine ⟨wT, wS, fun j c e => ?_, wP, wF, wSh, wt⟩
    have e : (if j = i then some A.2.1 else A.2.2.1 j) = some c := e
    split at e
    · cases e; exact wS
    · exact wI j c e
  refine ⟨O2, ?_, wA', ?_, qc 7 (by decide), qc 8 (by decide)⟩
  · rw [sX6_keep_0]
    simp (disch := omega) only [nI_ltI, nI_eq, nI_add, nI_clamp, ib_n, pk_mul, q_and, q_or, q_dn, q_shl, q_shlm, q_p1, if_true, if_false, ↓reduceIte, Option.bind_some, bI_0, bI_1, bI_01, b_or, Nat.not_lt_zero, Nat.zero_add, Bool.false_eq_true, Bool.true_eq_false, or_false, or_true, true_or, false_or, kept]
    rw [if_pos hi]
    have e28 : ex (8 + 1) 102 28 [some (vr 6 0 0), some (vi (nI i))] [vi (bI (A.2.2.1 i).isSome)] O = some (bI (A.2.2.1 i).isSome, O2) := by
      rw [sX6_keep_28]
      simp (disch := omega) only [nI_ltI, nI_eq, nI_add, nI_clamp, ib_n, pk_mul, q_and, q_or, q_dn, q_shl, q_shlm, q_p1, if_true, if_false, ↓reduceIte, Option.bind_some, bI_0, bI_1, bI_01, b_or, Nat.not_lt_zero, Nat.zero_add, Bool.false_eq_true, Bool.true_eq_false, or_false, or_true, true_or, false_or, e1, hO2]
    cases hk : (A.2.2.1 i).isSome with
    | false => rw [hk] at e28; simpa [bI] using e28
    | true => rw [hk] at e28; simpa [bI] using e28
  · refine ⟨w, by rw [qc 6 (by decide)]; exact cw, by rw [qc 6 (by decide)]; exact c9, by rw [qc 4 (by decide)]; exact hT, by rw [q1 1 0 (by omega)]; exact hS, fun j hj => ?_, fun j hj => ?_, by rw [qc 0 (by decide)]; exact hM, by rw [qc 3 (by decide)]; exact hP, by rw [qc 3 (by decide)]; exact hF, by rw [qc 2 (by decide)]; exact hSh⟩
    · by_cases e : j = i
      · subst e
        show CIm (O2 1 (1 + j)) (if j = j then some A.2.1 else A.2.2.1 j)
        rw [if_pos rfl, ← hO2]
        refine ⟨up_eq .., ?_, fun q hq => ?_, ?_, ?_, fun q hq => ?_⟩
        · rw [up_ne (by omega)]; exact s1.1
        · simp (disch := omega) only [up_ne]; exact s1.2.1 q hq
        · rw [up_ne (by omega)]; exact s1.2.2.1
        · rw [up_ne (by omega)]; exact s1.2.2.2.1
        · simp (disch := omega) only [up_ne]; exact s1.2.2.2.2 q hq
      · show CIm (O2 1 (1 + j)) (if j = i then some A.2.1 else A.2.2.1 j)
        rw [if_neg e, q1 1 (1 + j) (by omega)]
        exact hI j hj
    · by_cases e : j = 1 + i
      · subst e
        rw [← hO2]
        refine ⟨fun q hq => ?_, fun q hq => ?_⟩
        · simp (disch := omega) only [up_ne]; exact b1.1 q hq
        · simp (disch := omega) only [up_ne]; exact b1.2 q hq
      · rw [q1 1 j (Or.inr e)]; exact hB j hj
theorem a_keep_no (hw : WA A) (hc : CI O A) : ex 9 102 0 [some (vr 6 0 0), some (vi (nI 2))] [] O = some (-1, O) := by
  rw [sX6_keep_0]
  simp (disch := omega) only [nI_ltI, nI_eq, nI_add, nI_clamp, ib_n, pk_mul, q_and, q_or, q_dn, q_shl, q_shlm, q_p1, if_true, if_false, ↓reduceIte, Option.bind_some, bI_0, bI_1, bI_01, b_or, Nat.not_lt_zero, Nat.zero_add, Bool.false_eq_true, Bool.true_eq_false, or_false, or_true, true_or, false_or, Nat.lt_irrefl]
theorem a_back0 (hw : WA A) (hc : CI O A) {i : Nat} (hi : i < 2) (hk : A.2.2.1 i = none) : ex 9 103 0 [some (vr 6 0 0), some (vi (nI i))] [] O = some (-2, O) := by
  obtain ⟨w, cw, c9, hT, hS, hI, hB, hM, hP, hF, hSh⟩ := hc
  have hsel := cw.sel
  have hw' := hw
  obtain ⟨wT, wS, wI, wP, wF, wSh, wt⟩ := hw
  have h8 := wT.1
  have h12 := wT.2.1
  have h4 := wT.2.2.1
  have h6 := wT.2.2.2.1
  have wMd : WMd A.1 (mds A.1 A.2.1.2.1 A.2.1.1) := mds_wf _ (by have := wS.1; omega)
  have kmC : ∀ k, k < nK A.1 → KM (O 0 0) k ((mds A.1 A.2.1.2.1 A.2.1.1).2 k) := fun k hk => hM.2.2 k hk (by rw [Nat.testBit_two_pow_sub_one, decide_eq_true hk])
  have k1 := hI i hi
  rw [hk] at k1
  have k1 : O 1 (1 + i) 0 8 = nI 0 := k1
  rw [sX6_back_0]
  simp (disch := omega) only [nI_ltI, nI_eq, nI_add, nI_clamp, ib_n, pk_mul, q_and, q_or, q_dn, q_shl, q_shlm, q_p1, if_true, if_false, ↓reduceIte, Option.bind_some, bI_0, bI_1, bI_01, b_or, Nat.not_lt_zero, Nat.zero_add, Bool.false_eq_true, Bool.true_eq_false, or_false, or_true, true_or, false_or, k1]
  rw [if_pos hi]
theorem a_back (hw : WA A) (hc : CI O A) {i : Nat} {c : Sc_} (hi : i < 2) (hk : A.2.2.1 i = some c) : ∃ O2, ex 9 103 0 [some (vr 6 0 0), some (vi (nI i))] [] O = some (nI c.1, O2) ∧ WA (A.1, c, A.2.2) ∧ CI O2 (A.1, c, A.2.2) ∧ O2 7 = O 7 ∧ O2 8 = O 8 := by
  have hc' := hc
  obtain ⟨w, cw, c9, hT, hS, hI, hB, hM, hP, hF, hSh⟩ := hc
  have hsel := cw.sel
  have hw' := hw
  obtain ⟨wT, wS, wI, wP, wF, wSh, wt⟩ := hw
  have h8 := wT.1
  have h12 := wT.2.1
  have h4 := wT.2.2.1
  have h6 := wT.2.2.2.1
  have wMd : WMd A.1 (mds A.1 A.2.1.2.1 A.2.1.1) := mds_wf _ (by have := wS.1; omega)
  have kmC : ∀ k, k < nK A.1 → KM (O 0 0) k ((mds A.1 A.2.1.2.1 A.2.1.1).2 k) := fun k hk => hM.2.2 k hk (by rw [Nat.testBit_two_pow_sub_one, decide_eq_true hk])
  have k1 := hI i hi
  rw [hk] at k1
  have wc := wI i c hk
  obtain ⟨l1, l2⟩ := k1
  have w1 := wc.1
  obtain ⟨O1, e1, r1, s1, b1, -⟩ := m_becomeS 7 (O := O) (i := 0) (j := 1 + i) (c := c) (by omega) ⟨wc.1, wc.2.2.2.1⟩ l2 (hB (1 + i) (by omega))
  obtain ⟨O2, q2, c2, c7, c8, c10⟩ := m_rethink 3 (O1 := O1) (c := c) hc' wT wc (fun c z => funext fun n => r1 c n (Or.inl z)) (fun j z => r1 1 j (Or.inr z)) s1 b1
  refine ⟨O2, ?_, hw'.scene wc, c2, c7, c8⟩
  rw [sX6_back_0]
  simp (disch := omega) only [nI_ltI, nI_eq, nI_add, nI_clamp, ib_n, pk_mul, q_and, q_or, q_dn, q_shl, q_shlm, q_p1, if_true, if_false, ↓reduceIte, Option.bind_some, bI_0, bI_1, bI_01, b_or, Nat.not_lt_zero, Nat.zero_add, Bool.false_eq_true, Bool.true_eq_false, or_false, or_true, true_or, false_or, l1, e1, q2, c10, s1.1]
  rw [if_pos hi, if_neg (by decide)]
end
