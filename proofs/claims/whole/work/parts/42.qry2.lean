/-! CALLS THAT ONLY ASK, 2: count, never. -/
section
theorem m_imagesKept (d : Nat) {O : Mem_} {im : Nat → Option Sc_} (hI : ∀ i, i < 2 → CIm (O 1 (1 + i)) (im i)) : ex (d + 1) 120 0 [some (vr 6 0 0)] [] O = some (nI ((im 0).isSome.toNat + (im 1).isSome.toNat), O) := by
  have key : ∀ i, i < 2 → O 1 (1 + i) 0 8 = bI (im i).isSome := fun i hi => by
    have := hI i hi
    cases e : im i with
    | none => rw [e] at this; exact this
    | some c => rw [e] at this; exact this.1
  have k0 := key 0 (by decide)
  have k1 := key 1 (by decide)
  rw [sX6_imagesKept_0]
  have step : ∀ i a, i < 2 → ex (d + 1) 120 4 [some (vr 6 0 0), some (vi (nI a)), some (vi (nI i))] [] O = ex (d + 1) 120 4 [some (vr 6 0 0), some (vi (nI (a + (im i).isSome.toNat))), some (vi (nI (i + 1)))] [] O := fun i a hi => by
    refine (sX6_imagesKept_4 ..).trans ?_
    simp (disch := omega) only [nI_ltI, nI_eq, nI_add, nI_clamp, ib_n, pk_mul, q_and, q_or, q_dn, q_shl, q_shlm, q_p1, if_true, if_false, ↓reduceIte, Option.bind_some, bI_0, bI_1, bI_01, b_or, Nat.not_lt_zero, Nat.zero_add, Bool.false_eq_true, Bool.true_eq_false, or_false, or_true, true_or, false_or, hi, key i hi]
    cases (im i).isSome <;> simp
  rw [step 0 0 (by decide), step 1 _ (by decide)]
  refine (sX6_imagesKept_4 ..).trans ?_
  simp (disch := omega) only [nI_ltI, nI_eq, nI_add, nI_clamp, ib_n, pk_mul, q_and, q_or, q_dn, q_shl, q_shlm, q_p1, if_true, if_false, ↓reduceIte, Option.bind_some, bI_0, bI_1, bI_01, b_or, Nat.not_lt_zero, Nat.zero_add, Bool.false_eq_true, Bool.true_eq_false, or_false, or_true, true_or, false_or, Nat.reduceAdd, Nat.lt_irrefl]
theorem q_count (x : Int32) : Cal 108 216 [some (vi x)] := Cal.q fun O A hw hc hm => by
  obtain ⟨w, cw, c9, hT, hS, hI, hB, hM, hP, hF, hSh⟩ := hc
  have hsel := cw.sel
  obtain ⟨mT, mSc, mIm, mN, mP, mF, mSh, mt⟩ := hm
  have hw' := hw
  obtain ⟨wT, wS, wI, wP, wF, wSh, wt⟩ := hw
  have h8 := wT.1
  have h12 := wT.2.1
  have h4 := wT.2.2.1
  have h6 := wT.2.2.2.1
  have wMd : WMd A.1 (mds A.1 A.2.1.2.1 A.2.1.1) := mds_wf _ (by have := wS.1; omega)
  have kmC : ∀ k, k < nK A.1 → KM (O 0 0) k ((mds A.1 A.2.1.2.1 A.2.1.1).2 k) := fun k hk => hM.2.2 k hk (by rw [Nat.testBit_two_pow_sub_one, decide_eq_true hk])
  have kmN : ∀ k, k < nK A.1 → KN (O 7 0) (10 * k) ((mds A.1 A.2.1.2.1 A.2.1.1).2 k) := fun k hk => by have := mN.1 k hk; rwa [Nat.zero_add] at this
  by_cases hx : hsI x 9 = true
  · obtain ⟨c, hcc, rfl⟩ := hsI_of (by decide) hx
    have hcs : c = 0 ∨ c = 1 ∨ c = 2 ∨ c = 3 ∨ c = 4 ∨ c = 5 ∨ c = 6 ∨ c = 7 ∨ c = 8 := by omega
    rcases hcs with rfl | rfl | rfl | rfl | rfl | rfl | rfl | rfl | rfl
    · exact ⟨nI (nT A.1), by rw [sX6_count_0]; simp (disch := omega) only [nI_ltI, nI_eq, nI_add, nI_clamp, ib_n, pk_mul, q_and, q_or, q_dn, q_shl, q_shlm, q_p1, if_true, if_false, ↓reduceIte, Option.bind_some, bI_0, bI_1, bI_01, b_or, Nat.not_lt_zero, Nat.zero_add, Bool.false_eq_true, Bool.true_eq_false, or_false, or_true, true_or, false_or, hsel, hT.1.1], by rw [sX7_count_0]; simp (disch := omega) only [nI_ltI, nI_eq, nI_add, nI_clamp, ib_n, pk_mul, q_and, q_or, q_dn, q_shl, q_shlm, q_p1, if_true, if_false, ↓reduceIte, Option.bind_some, bI_0, bI_1, bI_01, b_or, Nat.not_lt_zero, Nat.zero_add, Bool.false_eq_true, Bool.true_eq_false, or_false, or_true, true_or, false_or, mT.1.1]⟩
    · exact ⟨nI (nM A.1), by rw [sX6_count_0]; simp (disch := omega) only [nI_ltI, nI_eq, nI_add, nI_clamp, ib_n, pk_mul, q_and, q_or, q_dn, q_shl, q_shlm, q_p1, if_true, if_false, ↓reduceIte, Option.bind_some, bI_0, bI_1, bI_01, b_or, Nat.not_lt_zero, Nat.zero_add, Bool.false_eq_true, Bool.true_eq_false, or_false, or_true, true_or, false_or, hsel, hT.1.2.1]; simp, by rw [sX7_count_0]; simp (disch := omega) only [nI_ltI, nI_eq, nI_add, nI_clamp, ib_n, pk_mul, q_and, q_or, q_dn, q_shl, q_shlm, q_p1, if_true, if_false, ↓reduceIte, Option.bind_some, bI_0, bI_1, bI_01, b_or, Nat.not_lt_zero, Nat.zero_add, Bool.false_eq_true, Bool.true_eq_false, or_false, or_true, true_or, false_or, mT.1.2.1]; simp⟩
    · exact ⟨nI (nS A.1), by rw [sX6_count_0]; simp (disch := omega) only [nI_ltI, nI_eq, nI_add, nI_clamp, ib_n, pk_mul, q_and, q_or, q_dn, q_shl, q_shlm, q_p1, if_true, if_false, ↓reduceIte, Option.bind_some, bI_0, bI_1, bI_01, b_or, Nat.not_lt_zero, Nat.zero_add, Bool.false_eq_true, Bool.true_eq_false, or_false, or_true, true_or, false_or, hsel, hT.1.2.2.1]; simp, by rw [sX7_count_0]; simp (disch := omega) only [nI_ltI, nI_eq, nI_add, nI_clamp, ib_n, pk_mul, q_and, q_or, q_dn, q_shl, q_shlm, q_p1, if_true, if_false, ↓reduceIte, Option.bind_some, bI_0, bI_1, bI_01, b_or, Nat.not_lt_zero, Nat.zero_add, Bool.false_eq_true, Bool.true_eq_false, or_false, or_true, true_or, false_or, mT.1.2.2.1]; simp⟩
    · exact ⟨nI (nK A.1), by rw [sX6_count_0]; simp (disch := omega) only [nI_ltI, nI_eq, nI_add, nI_clamp, ib_n, pk_mul, q_and, q_or, q_dn, q_shl, q_shlm, q_p1, if_true, if_false, ↓reduceIte, Option.bind_some, bI_0, bI_1, bI_01, b_or, Nat.not_lt_zero, Nat.zero_add, Bool.false_eq_true, Bool.true_eq_false, or_false, or_true, true_or, false_or, hsel, hT.1.2.2.2]; simp, by rw [sX7_count_0]; simp (disch := omega) only [nI_ltI, nI_eq, nI_add, nI_clamp, ib_n, pk_mul, q_and, q_or, q_dn, q_shl, q_shlm, q_p1, if_true, if_false, ↓reduceIte, Option.bind_some, bI_0, bI_1, bI_01, b_or, Nat.not_lt_zero, Nat.zero_add, Bool.false_eq_true, Bool.true_eq_false, or_false, or_true, true_or, false_or, mT.1.2.2.2]; simp⟩
    · exact ⟨nI A.2.1.1, by rw [sX6_count_0]; simp (disch := omega) only [nI_ltI, nI_eq, nI_add, nI_clamp, ib_n, pk_mul, q_and, q_or, q_dn, q_shl, q_shlm, q_p1, if_true, if_false, ↓reduceIte, Option.bind_some, bI_0, bI_1, bI_01, b_or, Nat.not_lt_zero, Nat.zero_add, Bool.false_eq_true, Bool.true_eq_false, or_false, or_true, true_or, false_or, hS.1]; simp, by rw [sX7_count_0]; simp (disch := omega) only [nI_ltI, nI_eq, nI_add, nI_clamp, ib_n, pk_mul, q_and, q_or, q_dn, q_shl, q_shlm, q_p1, if_true, if_false, ↓reduceIte, Option.bind_some, bI_0, bI_1, bI_01, b_or, Nat.not_lt_zero, Nat.zero_add, Bool.false_eq_true, Bool.true_eq_false, or_false, or_true, true_or, false_or, mSc.1]; simp⟩
    · exact ⟨nI A.2.1.2.2.2.1, by rw [sX6_count_0]; simp (disch := omega) only [nI_ltI, nI_eq, nI_add, nI_clamp, ib_n, pk_mul, q_and, q_or, q_dn, q_shl, q_shlm, q_p1, if_true, if_false, ↓reduceIte, Option.bind_some, bI_0, bI_1, bI_01, b_or, Nat.not_lt_zero, Nat.zero_add, Bool.false_eq_true, Bool.true_eq_false, or_false, or_true, true_or, false_or, hS.2.2.2.1]; simp, by rw [sX7_count_0]; simp (disch := omega) only [nI_ltI, nI_eq, nI_add, nI_clamp, ib_n, pk_mul, q_and, q_or, q_dn, q_shl, q_shlm, q_p1, if_true, if_false, ↓reduceIte, Option.bind_some, bI_0, bI_1, bI_01, b_or, Nat.not_lt_zero, Nat.zero_add, Bool.false_eq_true, Bool.true_eq_false, or_false, or_true, true_or, false_or, mSc.2.2.2.1]; simp⟩
    · refine ⟨nI ((A.2.2.1 0).isSome.toNat + (A.2.2.1 1).isSome.toNat), ?_, ?_⟩
      · rw [sX6_count_0]
        simp (disch := omega) only [nI_ltI, nI_eq, nI_add, nI_clamp, ib_n, pk_mul, q_and, q_or, q_dn, q_shl, q_shlm, q_p1, if_true, if_false, ↓reduceIte, Option.bind_some, bI_0, bI_1, bI_01, b_or, Nat.not_lt_zero, Nat.zero_add, Bool.false_eq_true, Bool.true_eq_false, or_false, or_true, true_or, false_or, m_imagesKept 38 hI]
        simp
      · have key : ∀ i, i < 2 → O 7 0 38 i = bI (A.2.2.1 i).isSome := fun i hi => by
          have := mIm i hi
          cases e : A.2.2.1 i with
          | none => rw [e] at this; exact this
          | some c => rw [e] at this; exact this.1
        rw [sX7_count_0]
        simp (disch := omega) only [nI_ltI, nI_eq, nI_add, nI_clamp, ib_n, pk_mul, q_and, q_or, q_dn, q_shl, q_shlm, q_p1, if_true, if_false, ↓reduceIte, Option.bind_some, bI_0, bI_1, bI_01, b_or, Nat.not_lt_zero, Nat.zero_add, Bool.false_eq_true, Bool.true_eq_false, or_false, or_true, true_or, false_or, key 0 (by decide), key 1 (by decide), m_flag]
        simp [bI, nI_add]
    · exact ⟨nI A.2.2.2.1.1, by rw [sX6_count_0]; simp (disch := omega) only [nI_ltI, nI_eq, nI_add, nI_clamp, ib_n, pk_mul, q_and, q_or, q_dn, q_shl, q_shlm, q_p1, if_true, if_false, ↓reduceIte, Option.bind_some, bI_0, bI_1, bI_01, b_or, Nat.not_lt_zero, Nat.zero_add, Bool.false_eq_true, Bool.true_eq_false, or_false, or_true, true_or, false_or, hP.1]; simp, by rw [sX7_count_0]; simp (disch := omega) only [nI_ltI, nI_eq, nI_add, nI_clamp, ib_n, pk_mul, q_and, q_or, q_dn, q_shl, q_shlm, q_p1, if_true, if_false, ↓reduceIte, Option.bind_some, bI_0, bI_1, bI_01, b_or, Nat.not_lt_zero, Nat.zero_add, Bool.false_eq_true, Bool.true_eq_false, or_false, or_true, true_or, false_or, mP.1]; simp⟩
    · have a1 := hSh 0 (by decide)
      have a2 := mSh 0 (by decide)
      cases e : A.2.2.2.2.2.1 0 with
      | none =>
        rw [e] at a1 a2
        exact ⟨oI none, by rw [sX6_count_0]; simp (disch := omega) only [nI_ltI, nI_eq, nI_add, nI_clamp, ib_n, pk_mul, q_and, q_or, q_dn, q_shl, q_shlm, q_p1, if_true, if_false, ↓reduceIte, Option.bind_some, bI_0, bI_1, bI_01, b_or, Nat.not_lt_zero, Nat.zero_add, Bool.false_eq_true, Bool.true_eq_false, or_false, or_true, true_or, false_or, a1]; simp, by rw [sX7_count_0]; simp (disch := omega) only [nI_ltI, nI_eq, nI_add, nI_clamp, ib_n, pk_mul, q_and, q_or, q_dn, q_shl, q_shlm, q_p1, if_true, if_false, ↓reduceIte, Option.bind_some, bI_0, bI_1, bI_01, b_or, Nat.not_lt_zero, Nat.zero_add, Bool.false_eq_true, Bool.true_eq_false, or_false, or_true, true_or, false_or, a2]; simp⟩
      | some z =>
        rw [e] at a1 a2
        have hz := wSh 0 z e
        have hne := oI_none (j := z.1) (by omega)
        exact ⟨nI z.2.1, by rw [sX6_count_0]; simp (disch := omega) only [nI_ltI, nI_eq, nI_add, nI_clamp, ib_n, pk_mul, q_and, q_or, q_dn, q_shl, q_shlm, q_p1, if_true, if_false, ↓reduceIte, Option.bind_some, bI_0, bI_1, bI_01, b_or, Nat.not_lt_zero, Nat.zero_add, Bool.false_eq_true, Bool.true_eq_false, or_false, or_true, true_or, false_or, a1.1]; simp, by rw [sX7_count_0]; simp (disch := omega) only [nI_ltI, nI_eq, nI_add, nI_clamp, ib_n, pk_mul, q_and, q_or, q_dn, q_shl, q_shlm, q_p1, if_true, if_false, ↓reduceIte, Option.bind_some, bI_0, bI_1, bI_01, b_or, Nat.not_lt_zero, Nat.zero_add, Bool.false_eq_true, Bool.true_eq_false, or_false, or_true, true_or, false_or, a2.1, a2.2.1, hne]; simp⟩
  · have hx := bool_ne hx
    have n0 := hsI_ne (by decide) hx (c := 0) (by decide)
    have n1 := hsI_ne (by decide) hx (c := 1) (by decide)
    have n2 := hsI_ne (by decide) hx (c := 2) (by decide)
    have n3 := hsI_ne (by decide) hx (c := 3) (by decide)
    have n4 := hsI_ne (by decide) hx (c := 4) (by decide)
    have n5 := hsI_ne (by decide) hx (c := 5) (by decide)
    have n6 := hsI_ne (by decide) hx (c := 6) (by decide)
    have n7 := hsI_ne (by decide) hx (c := 7) (by decide)
    have n8 := hsI_ne (by decide) hx (c := 8) (by decide)
    exact ⟨-1, by rw [sX6_count_0]; simp (disch := omega) only [nI_ltI, nI_eq, nI_add, nI_clamp, ib_n, pk_mul, q_and, q_or, q_dn, q_shl, q_shlm, q_p1, if_true, if_false, ↓reduceIte, Option.bind_some, bI_0, bI_1, bI_01, b_or, Nat.not_lt_zero, Nat.zero_add, Bool.false_eq_true, Bool.true_eq_false, or_false, or_true, true_or, false_or, n0, n1, n2, n3, n4, n5, n6, n7, n8], by rw [sX7_count_0]; simp (disch := omega) only [nI_ltI, nI_eq, nI_add, nI_clamp, ib_n, pk_mul, q_and, q_or, q_dn, q_shl, q_shlm, q_p1, if_true, if_false, ↓reduceIte, Option.bind_some, bI_0, bI_1, bI_01, b_or, Nat.not_lt_zero, Nat.zero_add, Bool.false_eq_true, Bool.true_eq_false, or_false, or_true, true_or, false_or, n0, n1, n2, n3, n4, n5, n6, n7, n8]⟩
theorem q_never (x y : Int32) : Cal 87 184 [some (vi x), some (vi y)] := Cal.q fun O A hw hc hm => by
  obtain ⟨w, cw, c9, hT, hS, hI, hB, hM, hP, hF, hSh⟩ := hc
  have hsel := cw.sel
  obtain ⟨mT, mSc, mIm, mN, mP, mF, mSh, mt⟩ := hm
  have hw' := hw
  obtain ⟨wT, wS, wI, wP, wF, wSh, wt⟩ := hw
  have h8 := wT.1
  have h12 := wT.2.1
  have h4 := wT.2.2.1
  have h6 := wT.2.2.2.1
  have wMd : WMd A.1 (mds A.1 A.2.1.2.1 A.2.1.1) := mds_wf _ (by have := wS.1; omega)
  have kmC : ∀ k, k < nK A.1 → KM (O 0 0) k ((mds A.1 A.2.1.2.1 A.2.1.1).2 k) := fun k hk => hM.2.2 k hk (by rw [Nat.testBit_two_pow_sub_one, decide_eq_true hk])
  have kmN : ∀ k, k < nK A.1 → KN (O 7 0) (10 * k) ((mds A.1 A.2.1.2.1 A.2.1.1).2 k) := fun k hk => by have := mN.1 k hk; rwa [Nat.zero_add] at this
  by_cases hx : hsI x (nK A.1) = true
  · obtain ⟨k, hk, rfl⟩ := hsI_of (by omega) hx
    by_cases hy : hsI y (nS A.1) = true
    · obtain ⟨s, hs, rfl⟩ := hsI_of (by omega) hy
      have c1 := can_lt wT k
      have c2 := tgL_lt wT s
      have c3 := tgA_lt wT s
      have c4 : can A.1 k &&& tgL A.1 s ≤ can A.1 k := Nat.and_le_left
      refine ⟨bI (can A.1 k &&& tgL A.1 s == 0), ?_, ?_⟩
      · rw [sX6_never_0]
        simp (disch := omega) only [nI_ltI, nI_eq, nI_add, nI_clamp, ib_n, pk_mul, q_and, q_or, q_dn, q_shl, q_shlm, q_p1, if_true, if_false, ↓reduceIte, Option.bind_some, bI_0, bI_1, bI_01, b_or, Nat.not_lt_zero, Nat.zero_add, Bool.false_eq_true, Bool.true_eq_false, or_false, or_true, true_or, false_or, hsel, m_hasKind (h := hT), m_hasSound (h := hT), hx, hy, (hT.2.2.2.2 k hk).2.2.2.2.2, m_likeTarget _ hs hT wT, b0]
        by_cases e : can A.1 k &&& tgL A.1 s = 0 <;> simp [e, bI]
      · rw [sX7_never_0]
        simp (disch := omega) only [nI_ltI, nI_eq, nI_add, nI_clamp, ib_n, pk_mul, q_and, q_or, q_dn, q_shl, q_shlm, q_p1, if_true, if_false, ↓reduceIte, Option.bind_some, bI_0, bI_1, bI_01, b_or, Nat.not_lt_zero, Nat.zero_add, Bool.false_eq_true, Bool.true_eq_false, or_false, or_true, true_or, false_or, n_isKind (h := mT) (hT := wT), n_isSound (h := mT) (hT := wT), hx, hy]
        refine Exists.elim (lp_i (fun m (a : Bool) => ex (39 + 1) 184 23 [some (vr 7 0 0), some (vi (nI k)), some (vi (nI s)), some (vi (bI a)), some (vi (nI m))] [] O) (fun m a => a = (List.range m).all fun m => !((can A.1 k).testBit m && (are A.1 m == tgA A.1 s))) (nM A.1) ?_ true (by simp)) ?_
        · intro m a hm ha
          have am := are_lt wT m
          refine ⟨a && !((can A.1 k).testBit m && (are A.1 m == tgA A.1 s)), ?_, by rw [List.range_succ, List.all_append, ← ha]; simp⟩
          refine (sX7_never_23 ..).trans ?_
          cases a with
          | false => simp (disch := omega) only [nI_ltI, nI_eq, nI_add, nI_clamp, ib_n, pk_mul, q_and, q_or, q_dn, q_shl, q_shlm, q_p1, if_true, if_false, ↓reduceIte, Option.bind_some, bI_0, bI_1, bI_01, b_or, Nat.not_lt_zero, Nat.zero_add, Bool.false_eq_true, Bool.true_eq_false, or_false, or_true, true_or, false_or, mT.1.2.1, hm]; rfl
          | true =>
            simp (disch := omega) only [nI_ltI, nI_eq, nI_add, nI_clamp, ib_n, pk_mul, q_and, q_or, q_dn, q_shl, q_shlm, q_p1, if_true, if_false, ↓reduceIte, Option.bind_some, bI_0, bI_1, bI_01, b_or, Nat.not_lt_zero, Nat.zero_add, Bool.false_eq_true, Bool.true_eq_false, or_false, or_true, true_or, false_or, mT.1.2.1, hm, n_canThink _ hk mT wT, q_bit, (mT.2.2.1 m hm).2.2, n_targetOf _ hs mT wT]
            cases (can A.1 k).testBit m with
            | false => simp [bI]
            | true =>
              by_cases e : are A.1 m = tgA A.1 s
              · simp [e, bI]
              · have e3 : (are A.1 m == tgA A.1 s) = false := beq_false_of_ne e
                simp [e, e3, bI]
        · rintro a ⟨e, ha⟩
          refine e.trans ((sX7_never_23 ..).trans ?_)
          simp (disch := omega) only [nI_ltI, nI_eq, nI_add, nI_clamp, ib_n, pk_mul, q_and, q_or, q_dn, q_shl, q_shlm, q_p1, if_true, if_false, ↓reduceIte, Option.bind_some, bI_0, bI_1, bI_01, b_or, Nat.not_lt_zero, Nat.zero_add, Bool.false_eq_true, Bool.true_eq_false, or_false, or_true, true_or, false_or, mT.1.2.1, Nat.lt_irrefl, m_flag]
          congr 3
          rw [ha, Bool.eq_iff_iff]
          simp only [List.all_eq_true, List.mem_range, beq_iff_eq, Bool.not_eq_true', Bool.and_eq_false_iff]
          constructor
          · intro g
            apply Nat.eq_of_testBit_eq
            intro m
            rw [Nat.testBit_and, Nat.zero_testBit]
            by_cases hm : m < nM A.1
            · rcases g m hm with z | z
              · rw [z, Bool.false_and]
              · have : (tgL A.1 s).testBit m = false := by
                  rw [tgL, alike, ms_bit, decide_eq_true hm, Bool.true_and]
                  exact beq_false_of_ne (fun q => (beq_eq_false_iff_ne.mp z) q.symm)
                rw [this, Bool.and_false]
            · have : (tgL A.1 s).testBit m = false := by rw [tgL, alike, ms_bit, decide_eq_false hm, Bool.false_and]
              rw [this, Bool.and_false]
          · intro g m hm
            have := congrArg (fun z => z.testBit m) g
            simp only [Nat.testBit_and, Nat.zero_testBit, tgL, alike, ms_bit, hm, decide_true, Bool.true_and, Bool.and_eq_false_iff] at this
            rcases this with z | z
            · exact Or.inl z
            · exact Or.inr (beq_false_of_ne (fun q => (beq_eq_false_iff_ne.mp z) q.symm))
    · refine ⟨-1, ?_, ?_⟩
      · rw [sX6_never_0]
        simp (disch := omega) only [nI_ltI, nI_eq, nI_add, nI_clamp, ib_n, pk_mul, q_and, q_or, q_dn, q_shl, q_shlm, q_p1, if_true, if_false, ↓reduceIte, Option.bind_some, bI_0, bI_1, bI_01, b_or, Nat.not_lt_zero, Nat.zero_add, Bool.false_eq_true, Bool.true_eq_false, or_false, or_true, true_or, false_or, hsel, m_hasKind (h := hT), m_hasSound (h := hT), hx, hy]
      · rw [sX7_never_0]
        simp (disch := omega) only [nI_ltI, nI_eq, nI_add, nI_clamp, ib_n, pk_mul, q_and, q_or, q_dn, q_shl, q_shlm, q_p1, if_true, if_false, ↓reduceIte, Option.bind_some, bI_0, bI_1, bI_01, b_or, Nat.not_lt_zero, Nat.zero_add, Bool.false_eq_true, Bool.true_eq_false, or_false, or_true, true_or, false_or, n_isKind (h := mT) (hT := wT), n_isSound (h := mT) (hT := wT), hx, hy]
  · refine ⟨-1, ?_, ?_⟩
    · rw [sX6_never_0]
      simp (disch := omega) only [nI_ltI, nI_eq, nI_add, nI_clamp, ib_n, pk_mul, q_and, q_or, q_dn, q_shl, q_shlm, q_p1, if_true, if_false, ↓reduceIte, Option.bind_some, bI_0, bI_1, bI_01, b_or, Nat.not_lt_zero, Nat.zero_add, Bool.false_eq_true, Bool.true_eq_false, or_false, or_true, true_or, false_or, hsel, m_hasKind (h := hT), hx]
    · rw [sX7_never_0]
      simp (disch := omega) only [nI_ltI, nI_eq, nI_add, nI_clamp, ib_n, pk_mul, q_and, q_or, q_dn, q_shl, q_shlm, q_p1, if_true, if_false, ↓reduceIte, Option.bind_some, bI_0, bI_1, bI_01, b_or, Nat.not_lt_zero, Nat.zero_add, Bool.false_eq_true, Bool.true_eq_false, or_false, or_true, true_or, false_or, n_isKind (h := mT) (hT := wT), hx]
end
