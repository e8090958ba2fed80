/-! IMAGES: keep, back. -/
section
theorem MT.lo {R R' : Nat → Nat → Int32} {T : Td_} (g : MT R T) (e : ∀ p q, p < 20 → (p ≠ 0 ∨ q < 8) → R' p q = R p q) : MT R' T := by
  refine ⟨⟨?_, ?_, ?_, ?_⟩, fun t ht => ?_, fun m hm => ⟨?_, ?_, ?_⟩, fun s hs => ?_, fun k hk => ⟨?_, ?_, ?_, ?_, ?_⟩⟩ <;> rw [e _ _ (by decide) (by omega)]
  · exact g.1.1
  · exact g.1.2.1
  · exact g.1.2.2.1
  · exact g.1.2.2.2
  · exact g.2.1 t ht
  · exact (g.2.2.1 m hm).1
  · exact (g.2.2.1 m hm).2.1
  · exact (g.2.2.1 m hm).2.2
  · exact g.2.2.2.1 s hs
  · exact (g.2.2.2.2 k hk).1
  · exact (g.2.2.2.2 k hk).2.1
  · exact (g.2.2.2.2 k hk).2.2.1
  · exact (g.2.2.2.2 k hk).2.2.2.1
  · exact (g.2.2.2.2 k hk).2.2.2.2
theorem NM.eq {R R' : Nat → Nat → Int32} {b : Nat} {T : Td_} {M : Md_} (h : NM R b T M) (e : ∀ q, R' 28 q = R 28 q) : NM R' b T M := by
  obtain ⟨g1, S, N, g2⟩ := h
  refine ⟨fun k hk => ⟨fun s hs => ?_, ?_, ?_⟩, S, N, fun s hs => ?_⟩
  · rw [e, e]; exact (g1 k hk).1 s hs
  · rw [e]; exact (g1 k hk).2.1
  · rw [e]; exact (g1 k hk).2.2
  · rw [e, e]; exact g2 s hs
theorem MS.eq {R R' : Nat → Nat → Int32} {c : Sc_} (h : MS R c) (e : ∀ p q, p < 38 → (p ≠ 0 ∨ (28 ≤ q ∧ q ≤ 34)) → R' p q = R p q) : MS R' c := by
  refine ⟨?_, fun j hj => ?_, ?_, ?_, fun j hj => ?_⟩
  · rw [e _ _ (by decide) (by omega)]; exact h.1
  · rw [e _ _ (by decide) (by omega), e _ _ (by decide) (by omega), e _ _ (by decide) (by omega)]; exact h.2.1 j hj
  · rw [e _ _ (by decide) (by omega)]; exact h.2.2.1
  · rw [e _ _ (by decide) (by omega)]; exact h.2.2.2.1
  · rw [e _ _ (by decide) (by omega), e _ _ (by decide) (by omega)]; exact h.2.2.2.2 j hj
theorem m_flagX (d : Nat) (O : Mem_) (x : Int32) : ∃ v, ex (d + 1) 122 0 [some (vi x)] [] O = some (v, O) ∧ ∀ b, x = bI b → v = bI b := by
  by_cases h : x = nI 0
  · refine ⟨nI 0, by rw [sX7_flag_0, if_pos h], fun b e => ?_⟩
    rw [h] at e
    cases b with
    | false => rfl
    | true => exact absurd e (by decide)
  · refine ⟨nI 1, by rw [sX7_flag_0, if_neg h], fun b e => ?_⟩
    cases b with
    | false => exact absurd e h
    | true => rfl
/-- the images' rows of the model -/
theorem n_keep71 (d : Nat) {O : Mem_} {i : Nat} {v : Int32} (hi : i < 2) : ∃ O', ex (d + 1) 209 71 [some (vr 7 0 0), some (vi (nI i)), some (vi v), some (vi (nI 0))] [] O = ex (d + 1) 209 102 [some (vr 7 0 0), some (vi (nI i)), some (vi v), some (vi (nI 0))] [] O' ∧ Ro 7 0 O O' ∧ (∀ p q, ¬ (p = 40 ∧ 72 * i ≤ q ∧ q < 72 * i + 72) → O' 7 0 p q = O 7 0 p q) ∧ ∀ q, q < 72 → O' 7 0 40 (72 * i + q) = O 7 0 30 q := by
  refine Exists.elim (lp_i (fun j (O : Mem_) => ex (d + 1) 209 71 [some (vr 7 0 0), some (vi (nI i)), some (vi v), some (vi (nI j))] [] O) (fun j O' => Ro 7 0 O O' ∧ (∀ p q, ¬ (p = 40 ∧ 72 * i ≤ q ∧ q < 72 * i + 72) → O' 7 0 p q = O 7 0 p q) ∧ ∀ q, q < j → O' 7 0 40 (72 * i + q) = O 7 0 30 q) 72 ?_ O ⟨Ro.rfl, fun _ _ _ => rfl, fun q hq => by omega⟩) ?_
  · intro j O' hj ⟨h1, h2, h3⟩
    refine ⟨up O' 7 0 40 (72 * i + j) (O' 7 0 30 j), ?_, h1.up, fun p q z => ?_, fun q hq => ?_⟩
    · refine (sX7_keep_71 ..).trans ?_
      simp (disch := omega) only [nI_ltI, nI_eq, nI_add, nI_clamp, ib_n, pk_mul, q_and, q_or, q_dn, q_shl, q_shlm, q_p1, if_true, if_false, ↓reduceIte, Option.bind_some, bI_0, bI_1, bI_01, b_or, Nat.not_lt_zero, Nat.zero_add, Bool.false_eq_true, Bool.true_eq_false, or_false, or_true, true_or, false_or, hj]
    · rw [up_ne (by omega)]; exact h2 p q z
    · by_cases e : q = j
      · subst e; rw [up_eq, h2 _ _ (by omega)]
      · rw [up_ne (by omega)]; exact h3 q (by omega)
  · rintro O' ⟨e, h1, h2, h3⟩
    refine ⟨O', e.trans ?_, h1, h2, h3⟩
    refine (sX7_keep_71 ..).trans ?_
    simp (disch := omega) only [nI_ltI, nI_eq, nI_add, nI_clamp, ib_n, pk_mul, q_and, q_or, q_dn, q_shl, q_shlm, q_p1, if_true, if_false, ↓reduceIte, Option.bind_some, bI_0, bI_1, bI_01, b_or, Nat.not_lt_zero, Nat.zero_add, Bool.false_eq_true, Bool.true_eq_false, or_false, or_true, true_or, false_or, Nat.lt_irrefl]
theorem n_keep102 (d : Nat) {O : Mem_} {i : Nat} {v : Int32} (hi : i < 2) : ∃ O', ex (d + 2) 209 102 [some (vr 7 0 0), some (vi (nI i)), some (vi v), some (vi (nI 0))] [] O = some (v, O') ∧ Ro 7 0 O O' ∧ (∀ p q, ¬ (p = 41 ∧ 24 * i ≤ q ∧ q < 24 * i + 24) → O' 7 0 p q = O 7 0 p q) ∧ ∀ q, q < 12 → O' 7 0 41 (24 * i + 2 * q) = O 7 0 36 q ∧ ∀ b, O 7 0 37 q = bI b → O' 7 0 41 (24 * i + 2 * q + 1) = bI b := by
  refine Exists.elim (lp_i (fun j (O : Mem_) => ex (d + 2) 209 102 [some (vr 7 0 0), some (vi (nI i)), some (vi v), some (vi (nI j))] [] O) (fun j O' => Ro 7 0 O O' ∧ (∀ p q, ¬ (p = 41 ∧ 24 * i ≤ q ∧ q < 24 * i + 24) → O' 7 0 p q = O 7 0 p q) ∧ ∀ q, q < j → O' 7 0 41 (24 * i + 2 * q) = O 7 0 36 q ∧ ∀ b, O 7 0 37 q = bI b → O' 7 0 41 (24 * i + 2 * q + 1) = bI b) 12 ?_ O ⟨Ro.rfl, fun _ _ _ => rfl, fun q hq => by omega⟩) ?_
  · intro j O' hj ⟨h1, h2, h3⟩
    obtain ⟨u, hu1, hu2⟩ := m_flagX d (up O' 7 0 41 (24 * i + 2 * j) (O' 7 0 36 j)) (O' 7 0 37 j)
    refine ⟨up (up O' 7 0 41 (24 * i + 2 * j) (O' 7 0 36 j)) 7 0 41 (24 * i + 2 * j + 1) u, ?_, h1.up.up, fun p q z => ?_, fun q hq => ?_⟩
    · refine (sX7_keep_102 ..).trans ?_
      simp (disch := omega) only [nI_ltI, nI_eq, nI_add, nI_clamp, ib_n, pk_mul, q_and, q_or, q_dn, q_shl, q_shlm, q_p1, if_true, if_false, ↓reduceIte, Option.bind_some, bI_0, bI_1, bI_01, b_or, Nat.not_lt_zero, Nat.zero_add, Bool.false_eq_true, Bool.true_eq_false, or_false, or_true, true_or, false_or, hj, up_ne, hu1]
    · rw [up_ne (by omega), up_ne (by omega)]; exact h2 p q z
    · by_cases e : q = j
      · subst e
        rw [up_ne (by omega), up_eq, up_eq]
        refine ⟨h2 _ _ (by omega), fun b hb => hu2 b ?_⟩
        rw [h2 _ _ (by omega)]; exact hb
      · rw [up_ne (by omega), up_ne (by omega), up_ne (by omega), up_ne (by omega)]; exact h3 q (by omega)
  · rintro O' ⟨e, h1, h2, h3⟩
    refine ⟨O', e.trans ?_, h1, h2, h3⟩
    refine (sX7_keep_102 ..).trans ?_
    simp (disch := omega) only [nI_ltI, nI_eq, nI_add, nI_clamp, ib_n, pk_mul, q_and, q_or, q_dn, q_shl, q_shlm, q_p1, if_true, if_false, ↓reduceIte, Option.bind_some, bI_0, bI_1, bI_01, b_or, Nat.not_lt_zero, Nat.zero_add, Bool.false_eq_true, Bool.true_eq_false, or_false, or_true, true_or, false_or, Nat.lt_irrefl]
theorem q_keep (x : Int32) : Cal 102 209 [some (vi x)] := Cal.of fun O A hw hc hm => by
  have hc' := hc
  have hm' := hm
  obtain ⟨w, cw, c9, hT, hS, hI, hB, hM, hP, hF, hSh⟩ := hc
  have hsel := cw.sel
  obtain ⟨mT, mSc, mIm, mN, mP, mF, mSh, mt⟩ := hm
  have hw' := hw
  obtain ⟨wT, wS, wI, wP, wF, wSh, wt⟩ := hw
  have h8 := wT.1
  have h12 := wT.2.1
  have h4 := wT.2.2.1
  have h6 := wT.2.2.2.1
  have wMd : WMd A.1 (mds A.1 A.2.1.2.1 A.2.1.1) := mds_wf _ (by have := wS.1; omega)
  have kmC : ∀ k, k < nK A.1 → KM (O 0 0) k ((mds A.1 A.2.1.2.1 A.2.1.1).2 k) := fun k hk => hM.2.2 k hk (by rw [Nat.testBit_two_pow_sub_one, decide_eq_true hk])
  have kmN : ∀ k, k < nK A.1 → KN (O 7 0) (10 * k) ((mds A.1 A.2.1.2.1 A.2.1.1).2 k) := fun k hk => by have := mN.1 k hk; rwa [Nat.zero_add] at this
  by_cases hx : hsI x 2 = true
  · have hx' := hx
    obtain ⟨i, hi, rfl⟩ := hsI_of (by omega) hx
    obtain ⟨O1, e1, r1, s1, b1, k1⟩ := m_becomeS 38 (O := O) (i := 1 + i) (j := 0) (c := A.2.1) (by omega) ⟨wS.1, wS.2.2.2.1⟩ hS (hB 0 (by decide))
    have kept : O 1 (1 + i) 0 8 = bI (A.2.2.1 i).isSome := by
      have := hI i hi
      cases e : A.2.2.1 i with
      | none => rw [e] at this; exact this
      | some c => rw [e] at this; exact this.1
    have keptM : O 7 0 38 i = bI (A.2.2.1 i).isSome := by
      have := mIm i hi
      cases e : A.2.2.1 i with
      | none => rw [e] at this; exact this
      | some c => rw [e] at this; exact this.1
    have q1 : ∀ c n, c ≠ 1 ∨ n ≠ 1 + i → up O1 1 (1 + i) 0 8 (nI 1) c n = O c n := fun c n z => (up_row z).trans (r1 c n z)
    have qc : ∀ c, c ≠ 1 → up O1 1 (1 + i) 0 8 (nI 1) c = O c := fun c z => funext fun n => q1 c n (Or.inl z)
    generalize hO2 : up O1 1 (1 + i) 0 8 (nI 1) = O2 at q1 qc
    -- the model
    obtain ⟨O3, e3, r3, p3, s3⟩ := n_keep71 39 (O := up (up (up (up O2 7 0 38 i (nI 1)) 7 0 39 (3 * i) (nI A.2.1.1)) 7 0 39 (3 * i + 1) (nI A.2.1.2.2.1)) 7 0 39 (3 * i + 2) (nI A.2.1.2.2.2.1)) (i := i) (v := bI (A.2.2.1 i).isSome) hi
    obtain ⟨O4, e4, r4, p4, s4⟩ := n_keep102 38 (O := O3) (i := i) (v := bI (A.2.2.1 i).isSome) hi
    have pp : ∀ p q, (p < 38 ∨ 41 < p) → O4 7 0 p q = O 7 0 p q := fun p q z => by
      rw [p4 _ _ (by omega), p3 _ _ (by omega)]
      simp (disch := omega) only [up_ne]
      rw [qc 7 (by decide)]
    have rr : ∀ c, c ≠ 7 → O4 c = O2 c := fun c z => funext fun n => by
      rw [r4 c n (Or.inl z), r3 c n (Or.inl z)]
      simp (disch := omega) only [up_row]
    have wA' : WA (A.1, A.2.1, (fun j => if j = i then some A.2.1 else A.2.2.1 j), A.2.2.2) := by
      refine ⟨wT, wS, fun j c e => ?_, wP, wF, wSh, wt⟩
      have e : (if j = i then some A.2.1 else A.2.2.1 j) = some c := e
      split at e
      · cases e; exact wS
      · exact wI j c e
    refine ⟨bI (A.2.2.1 i).isSome, (A.1, A.2.1, (fun j => if j = i then some A.2.1 else A.2.2.1 j), A.2.2.2), O2, wA', ?_, ?_, qc 7 (by decide), qc 8 (by decide), O4, ?_, ?_, rr⟩
    · rw [sX6_keep_0]
      simp (disch := omega) only [nI_ltI, nI_eq, nI_add, nI_clamp, ib_n, pk_mul, q_and, q_or, q_dn, q_shl, q_shlm, q_p1, if_true, if_false, ↓reduceIte, Option.bind_some, bI_0, bI_1, bI_01, b_or, Nat.not_lt_zero, Nat.zero_add, Bool.false_eq_true, Bool.true_eq_false, or_false, or_true, true_or, false_or, kept]
      rw [if_pos hi]
      have e28 : ex (39 + 1) 102 28 [some (vr 6 0 0), some (vi (nI i))] [vi (bI (A.2.2.1 i).isSome)] O = some (bI (A.2.2.1 i).isSome, O2) := by
        rw [sX6_keep_28]
        simp (disch := omega) only [nI_ltI, nI_eq, nI_add, nI_clamp, ib_n, pk_mul, q_and, q_or, q_dn, q_shl, q_shlm, q_p1, if_true, if_false, ↓reduceIte, Option.bind_some, bI_0, bI_1, bI_01, b_or, Nat.not_lt_zero, Nat.zero_add, Bool.false_eq_true, Bool.true_eq_false, or_false, or_true, true_or, false_or, e1, hO2]
      cases hk : (A.2.2.1 i).isSome with
      | false => rw [hk] at e28; simpa [bI] using e28
      | true => rw [hk] at e28; simpa [bI] using e28
    · refine ⟨w, by rw [qc 6 (by decide)]; exact cw, by rw [qc 6 (by decide)]; exact c9, by rw [qc 4 (by decide)]; exact hT, by rw [q1 1 0 (by omega)]; exact hS, fun j hj => ?_, fun j hj => ?_, by rw [qc 0 (by decide)]; exact hM, by rw [qc 3 (by decide)]; exact hP, by rw [qc 3 (by decide)]; exact hF, by rw [qc 2 (by decide)]; exact hSh⟩
      · by_cases e : j = i
        · subst e
          show CIm (O2 1 (1 + j)) (if j = j then some A.2.1 else A.2.2.1 j)
          rw [if_pos rfl, ← hO2]
          refine ⟨up_eq .., ?_, fun q hq => ?_, ?_, ?_, fun q hq => ?_⟩
          · rw [up_ne (by omega)]; exact s1.1
          · simp (disch := omega) only [up_ne]; exact s1.2.1 q hq
          · rw [up_ne (by omega)]; exact s1.2.2.1
          · rw [up_ne (by omega)]; exact s1.2.2.2.1
          · simp (disch := omega) only [up_ne]; exact s1.2.2.2.2 q hq
        · show CIm (O2 1 (1 + j)) (if j = i then some A.2.1 else A.2.2.1 j)
          rw [if_neg e, q1 1 (1 + j) (by omega)]
          exact hI j hj
      · by_cases e : j = 1 + i
        · subst e
          rw [← hO2]
          refine ⟨fun q hq => ?_, fun q hq => ?_⟩
          · simp (disch := omega) only [up_ne]; exact b1.1 q hq
          · simp (disch := omega) only [up_ne]; exact b1.2 q hq
        · rw [q1 1 j (Or.inr e)]; exact hB j hj
    · rw [sX7_keep_0, m_in _ _ _ (nI 0) (nI 1) (a := 0) (b := 1) (by decide) (by decide), inI_c _ (by decide), hx']
      simp (disch := omega) only [nI_ltI, nI_eq, nI_add, nI_clamp, ib_n, pk_mul, q_and, q_or, q_dn, q_shl, q_shlm, q_p1, if_true, if_false, ↓reduceIte, Option.bind_some, bI_0, bI_1, bI_01, b_or, Nat.not_lt_zero, Nat.zero_add, Bool.false_eq_true, Bool.true_eq_false, or_false, or_true, true_or, false_or, qc 7 (by decide), keptM, m_flag]
      simp (disch := omega) only [up_ne]
      simp (disch := omega) only [nI_ltI, nI_eq, nI_add, nI_clamp, ib_n, pk_mul, q_and, q_or, q_dn, q_shl, q_shlm, q_p1, if_true, if_false, ↓reduceIte, Option.bind_some, bI_0, bI_1, bI_01, b_or, Nat.not_lt_zero, Nat.zero_add, Bool.false_eq_true, Bool.true_eq_false, or_false, or_true, true_or, false_or, qc 7 (by decide), mSc.1, mSc.2.2.1, mSc.2.2.2.1]
      exact e3.trans e4
    · refine ⟨mT.lo fun p q a b => ?_, ?_, fun j hj => ?_, ?_, ?_, ?_, ?_, ?_⟩
      · exact pp p q (by omega)
      · exact mSc.eq fun p q a b => pp p q (by omega)
      · by_cases e : j = i
        · subst e
          show MIm (O4 7 0) j (if j = j then some A.2.1 else A.2.2.1 j)
          rw [if_pos rfl]
          refine ⟨?_, ?_, ?_, ?_, fun q hq => ⟨?_, ?_, ?_⟩, fun q hq => ⟨?_, ?_⟩⟩
          · rw [p4 _ _ (by omega), p3 _ _ (by omega)]; simp (disch := omega) only [up_ne, up_eq]
          · rw [p4 _ _ (by omega), p3 _ _ (by omega)]; simp (disch := omega) only [up_ne, up_eq]
          · rw [p4 _ _ (by omega), p3 _ _ (by omega)]; simp (disch := omega) only [up_ne, up_eq]
          · rw [p4 _ _ (by omega), p3 _ _ (by omega)]; simp (disch := omega) only [up_ne, up_eq]
          · have := wS.1
            rw [p4 _ _ (by omega), s3 _ (by omega)]; simp (disch := omega) only [up_ne]; rw [qc 7 (by decide)]; exact (mSc.2.1 q hq).1
          · have := wS.1
            rw [p4 _ _ (by omega), s3 _ (by omega)]; simp (disch := omega) only [up_ne]; rw [qc 7 (by decide)]; exact (mSc.2.1 q hq).2.1
          · have := wS.1
            rw [p4 _ _ (by omega), s3 _ (by omega)]; simp (disch := omega) only [up_ne]; rw [qc 7 (by decide)]; exact (mSc.2.1 q hq).2.2
          · have := wS.2.2.2.1
            rw [(s4 q (by omega)).1, p3 _ _ (by omega)]; simp (disch := omega) only [up_ne]; rw [qc 7 (by decide)]; exact (mSc.2.2.2.2 q hq).1
          · have := wS.2.2.2.1
            refine (s4 q (by omega)).2 _ ?_
            rw [p3 _ _ (by omega)]; simp (disch := omega) only [up_ne]; rw [qc 7 (by decide)]; exact (mSc.2.2.2.2 q hq).2
        · show MIm (O4 7 0) j (if j = i then some A.2.1 else A.2.2.1 j)
          rw [if_neg e]
          have := mIm j hj
          cases hk : A.2.2.1 j with
          | none =>
            rw [hk] at this
            show O4 7 0 38 j = nI 0
            rw [p4 _ _ (by omega), p3 _ _ (by omega)]; simp (disch := omega) only [up_ne]; rw [qc 7 (by decide)]; exact this
          | some c =>
            rw [hk] at this
            have wc := wI j c hk
            have w1 := wc.1
            have w2 := wc.2.2.2.1
            refine ⟨?_, ?_, ?_, ?_, fun q hq => ⟨?_, ?_, ?_⟩, fun q hq => ⟨?_, ?_⟩⟩
            · rw [p4 _ _ (by omega), p3 _ _ (by omega)]; simp (disch := omega) only [up_ne]; rw [qc 7 (by decide)]; exact this.1
            · rw [p4 _ _ (by omega), p3 _ _ (by omega)]; simp (disch := omega) only [up_ne]; rw [qc 7 (by decide)]; exact this.2.1
            · rw [p4 _ _ (by omega), p3 _ _ (by omega)]; simp (disch := omega) only [up_ne]; rw [qc 7 (by decide)]; exact this.2.2.1
            · rw [p4 _ _ (by omega), p3 _ _ (by omega)]; simp (disch := omega) only [up_ne]; rw [qc 7 (by decide)]; exact this.2.2.2.1
            · rw [p4 _ _ (by omega), p3 _ _ (by omega)]; simp (disch := omega) only [up_ne]; rw [qc 7 (by decide)]; exact (this.2.2.2.2.1 q hq).1
            · rw [p4 _ _ (by omega), p3 _ _ (by omega)]; simp (disch := omega) only [up_ne]; rw [qc 7 (by decide)]; exact (this.2.2.2.2.1 q hq).2.1
            · rw [p4 _ _ (by omega), p3 _ _ (by omega)]; simp (disch := omega) only [up_ne]; rw [qc 7 (by decide)]; exact (this.2.2.2.2.1 q hq).2.2
            · rw [p4 _ _ (by omega), p3 _ _ (by omega)]; simp (disch := omega) only [up_ne]; rw [qc 7 (by decide)]; exact (this.2.2.2.2.2 q hq).1
            · rw [p4 _ _ (by omega), p3 _ _ (by omega)]; simp (disch := omega) only [up_ne]; rw [qc 7 (by decide)]; exact (this.2.2.2.2.2 q hq).2
      · exact mN.eq fun q => pp _ _ (by decide)
      · exact mP.of (pp _ _ (by decide)) (fun q => pp _ _ (by decide))
      · exact (pp _ _ (by decide)).trans mF
      · exact mSh.of fun p q a b => pp p q (by omega)
      · exact (pp _ _ (by decide)).trans mt
  · have hx := bool_ne hx
    refine CalAt.q hw' hc' hm' (-1) ?_ ?_
    · rw [sX6_keep_0]
      unfold hsI at hx
      by_cases z : x < nI 0
      · rw [if_pos z]
      · rw [decide_eq_false z] at hx
        rw [if_neg z, if_neg (fun q => by rw [decide_eq_true q] at hx; cases hx)]
    · rw [sX7_keep_0, m_in _ _ _ (nI 0) (nI 1) (a := 0) (b := 1) (by decide) (by decide), inI_c _ (by decide), hx]
      simp (disch := omega) only [nI_ltI, nI_eq, nI_add, nI_clamp, ib_n, pk_mul, q_and, q_or, q_dn, q_shl, q_shlm, q_p1, if_true, if_false, ↓reduceIte, Option.bind_some, bI_0, bI_1, bI_01, b_or, Nat.not_lt_zero, Nat.zero_add, Bool.false_eq_true, Bool.true_eq_false, or_false, or_true, true_or, false_or]
theorem n_back66 (d : Nat) {O : Mem_} {i : Nat} (hi : i < 2) : ∃ O', ex (d + 1) 210 66 [some (vr 7 0 0), some (vi (nI i)), some (vi (nI 0))] [] O = ex (d + 1) 210 97 [some (vr 7 0 0), some (vi (nI i)), some (vi (nI 0))] [] O' ∧ Ro 7 0 O O' ∧ (∀ p q, p ≠ 30 → O' 7 0 p q = O 7 0 p q) ∧ ∀ q, q < 72 → O' 7 0 30 q = O 7 0 40 (72 * i + q) := by
  refine Exists.elim (lp_i (fun j (O : Mem_) => ex (d + 1) 210 66 [some (vr 7 0 0), some (vi (nI i)), some (vi (nI j))] [] O) (fun j O' => Ro 7 0 O O' ∧ (∀ p q, p ≠ 30 → O' 7 0 p q = O 7 0 p q) ∧ ∀ q, q < j → O' 7 0 30 q = O 7 0 40 (72 * i + q)) 72 ?_ O ⟨Ro.rfl, fun _ _ _ => rfl, fun q hq => by omega⟩) ?_
  · intro j O' hj ⟨h1, h2, h3⟩
    refine ⟨up O' 7 0 30 j (O' 7 0 40 (72 * i + j)), ?_, h1.up, fun p q z => ?_, fun q hq => ?_⟩
    · refine (sX7_back_66 ..).trans ?_
      simp (disch := omega) only [nI_ltI, nI_eq, nI_add, nI_clamp, ib_n, pk_mul, q_and, q_or, q_dn, q_shl, q_shlm, q_p1, if_true, if_false, ↓reduceIte, Option.bind_some, bI_0, bI_1, bI_01, b_or, Nat.not_lt_zero, Nat.zero_add, Bool.false_eq_true, Bool.true_eq_false, or_false, or_true, true_or, false_or, hj]
    · rw [up_ne (by omega)]; exact h2 p q z
    · by_cases e : q = j
      · subst e; rw [up_eq, h2 _ _ (by omega)]
      · rw [up_ne (by omega)]; exact h3 q (by omega)
  · rintro O' ⟨e, h1, h2, h3⟩
    refine ⟨O', e.trans ?_, h1, h2, h3⟩
    refine (sX7_back_66 ..).trans ?_
    simp (disch := omega) only [nI_ltI, nI_eq, nI_add, nI_clamp, ib_n, pk_mul, q_and, q_or, q_dn, q_shl, q_shlm, q_p1, if_true, if_false, ↓reduceIte, Option.bind_some, bI_0, bI_1, bI_01, b_or, Nat.not_lt_zero, Nat.zero_add, Bool.false_eq_true, Bool.true_eq_false, or_false, or_true, true_or, false_or, Nat.lt_irrefl]
theorem n_back97 (d : Nat) {O : Mem_} {i : Nat} (hi : i < 2) : ∃ O', ex (d + 1) 210 97 [some (vr 7 0 0), some (vi (nI i)), some (vi (nI 0))] [] O = ((ex d 162 0 [some (vr 7 0 0)] [] O').bind fun r0 => some ((r0.2 7 0 0 28), r0.2)) ∧ Ro 7 0 O O' ∧ (∀ p q, p ≠ 36 → p ≠ 37 → O' 7 0 p q = O 7 0 p q) ∧ ∀ q, q < 12 → O' 7 0 36 q = O 7 0 41 (24 * i + 2 * q) ∧ ∀ b, O 7 0 41 (24 * i + 2 * q + 1) = bI b → O' 7 0 37 q = bI b := by
  refine Exists.elim (lp_i (fun j (O : Mem_) => ex (d + 1) 210 97 [some (vr 7 0 0), some (vi (nI i)), some (vi (nI j))] [] O) (fun j O' => Ro 7 0 O O' ∧ (∀ p q, p ≠ 36 → p ≠ 37 → O' 7 0 p q = O 7 0 p q) ∧ ∀ q, q < j → O' 7 0 36 q = O 7 0 41 (24 * i + 2 * q) ∧ ∀ b, O 7 0 41 (24 * i + 2 * q + 1) = bI b → O' 7 0 37 q = bI b) 12 ?_ O ⟨Ro.rfl, fun _ _ _ _ => rfl, fun q hq => by omega⟩) ?_
  · intro j O' hj ⟨h1, h2, h3⟩
    have go : ∀ v : Int32, (∀ b, O 7 0 41 (24 * i + 2 * j + 1) = bI b → v = bI b) → Ro 7 0 O (up (up O' 7 0 36 j (O' 7 0 41 (24 * i + 2 * j))) 7 0 37 j v) ∧ (∀ p q, p ≠ 36 → p ≠ 37 → up (up O' 7 0 36 j (O' 7 0 41 (24 * i + 2 * j))) 7 0 37 j v 7 0 p q = O 7 0 p q) ∧ ∀ q, q < j + 1 → up (up O' 7 0 36 j (O' 7 0 41 (24 * i + 2 * j))) 7 0 37 j v 7 0 36 q = O 7 0 41 (24 * i + 2 * q) ∧ ∀ b, O 7 0 41 (24 * i + 2 * q + 1) = bI b → up (up O' 7 0 36 j (O' 7 0 41 (24 * i + 2 * j))) 7 0 37 j v 7 0 37 q = bI b := fun v hv => by
      refine ⟨h1.up.up, fun p q z1 z2 => ?_, fun q hq => ?_⟩
      · rw [up_ne (by omega), up_ne (by omega)]; exact h2 p q z1 z2
      · by_cases e : q = j
        · subst e
          rw [up_ne (by omega), up_eq, up_eq]
          exact ⟨h2 _ _ (by decide) (by decide), hv⟩
        · rw [up_ne (by omega), up_ne (by omega), up_ne (by omega), up_ne (by omega)]; exact h3 q (by omega)
    have e41 := h2 41 (24 * i + 2 * j + 1) (by decide) (by decide)
    by_cases hv : O 7 0 41 (24 * i + 2 * j + 1) = nI 1
    · refine ⟨_, ?_, go (nI 1) fun b hb => by rw [← hv]; exact hb⟩
      refine (sX7_back_97 ..).trans ?_
      simp (disch := omega) only [nI_ltI, nI_eq, nI_add, nI_clamp, ib_n, pk_mul, q_and, q_or, q_dn, q_shl, q_shlm, q_p1, if_true, if_false, ↓reduceIte, Option.bind_some, bI_0, bI_1, bI_01, b_or, Nat.not_lt_zero, Nat.zero_add, Bool.false_eq_true, Bool.true_eq_false, or_false, or_true, true_or, false_or, hj, up_ne, e41, hv]
    · refine ⟨_, ?_, go (nI 0) fun b hb => by
        cases b with
        | false => rfl
        | true => exact absurd hb hv⟩
      refine (sX7_back_97 ..).trans ?_
      simp (disch := omega) only [nI_ltI, nI_eq, nI_add, nI_clamp, ib_n, pk_mul, q_and, q_or, q_dn, q_shl, q_shlm, q_p1, if_true, if_false, ↓reduceIte, Option.bind_some, bI_0, bI_1, bI_01, b_or, Nat.not_lt_zero, Nat.zero_add, Bool.false_eq_true, Bool.true_eq_false, or_false, or_true, true_or, false_or, hj, up_ne, e41, hv]
  · rintro O' ⟨e, h1, h2, h3⟩
    refine ⟨O', e.trans ?_, h1, h2, h3⟩
    refine (sX7_back_97 ..).trans ?_
    simp (disch := omega) only [nI_ltI, nI_eq, nI_add, nI_clamp, ib_n, pk_mul, q_and, q_or, q_dn, q_shl, q_shlm, q_p1, if_true, if_false, ↓reduceIte, Option.bind_some, bI_0, bI_1, bI_01, b_or, Nat.not_lt_zero, Nat.zero_add, Bool.false_eq_true, Bool.true_eq_false, or_false, or_true, true_or, false_or, Nat.lt_irrefl]
theorem q_back (x : Int32) : Cal 103 210 [some (vi x)] := Cal.of fun O A hw hc hm => by
  have hc' := hc
  have hm' := hm
  obtain ⟨w, cw, c9, hT, hS, hI, hB, hM, hP, hF, hSh⟩ := hc
  have hsel := cw.sel
  obtain ⟨mT, mSc, mIm, mN, mP, mF, mSh, mt⟩ := hm
  have hw' := hw
  obtain ⟨wT, wS, wI, wP, wF, wSh, wt⟩ := hw
  have h8 := wT.1
  have h12 := wT.2.1
  have h4 := wT.2.2.1
  have h6 := wT.2.2.2.1
  have wMd : WMd A.1 (mds A.1 A.2.1.2.1 A.2.1.1) := mds_wf _ (by have := wS.1; omega)
  have kmC : ∀ k, k < nK A.1 → KM (O 0 0) k ((mds A.1 A.2.1.2.1 A.2.1.1).2 k) := fun k hk => hM.2.2 k hk (by rw [Nat.testBit_two_pow_sub_one, decide_eq_true hk])
  have kmN : ∀ k, k < nK A.1 → KN (O 7 0) (10 * k) ((mds A.1 A.2.1.2.1 A.2.1.1).2 k) := fun k hk => by have := mN.1 k hk; rwa [Nat.zero_add] at this
  by_cases hx : hsI x 2 = true
  · have hx' := hx
    obtain ⟨i, hi, rfl⟩ := hsI_of (by omega) hx
    cases hk : A.2.2.1 i with
    | none =>
      have k1 := hI i hi
      have k2 := mIm i hi
      rw [hk] at k1 k2
      have k1 : O 1 (1 + i) 0 8 = nI 0 := k1
      have k2 : O 7 0 38 i = nI 0 := k2
      refine CalAt.q hw' hc' hm' (-2) ?_ ?_
      · rw [sX6_back_0]
        simp (disch := omega) only [nI_ltI, nI_eq, nI_add, nI_clamp, ib_n, pk_mul, q_and, q_or, q_dn, q_shl, q_shlm, q_p1, if_true, if_false, ↓reduceIte, Option.bind_some, bI_0, bI_1, bI_01, b_or, Nat.not_lt_zero, Nat.zero_add, Bool.false_eq_true, Bool.true_eq_false, or_false, or_true, true_or, false_or, k1]
        rw [if_pos hi]
      · rw [sX7_back_0, m_in _ _ _ (nI 0) (nI 1) (a := 0) (b := 1) (by decide) (by decide), inI_c _ (by decide), hx']
        simp (disch := omega) only [nI_ltI, nI_eq, nI_add, nI_clamp, ib_n, pk_mul, q_and, q_or, q_dn, q_shl, q_shlm, q_p1, if_true, if_false, ↓reduceIte, Option.bind_some, bI_0, bI_1, bI_01, b_or, Nat.not_lt_zero, Nat.zero_add, Bool.false_eq_true, Bool.true_eq_false, or_false, or_true, true_or, false_or, k2]
    | some c =>
      have k1 := hI i hi
      have k2 := mIm i hi
      rw [hk] at k1 k2
      have wc := wI i c hk
      obtain ⟨l1, l2⟩ := k1
      obtain ⟨g1, g2, g3, g4, g5, g6⟩ := k2
      have w1 := wc.1
      have w2 := wc.2.2.2.1
      obtain ⟨O1, e1, r1, s1, b1, -⟩ := m_becomeS 38 (O := O) (i := 0) (j := 1 + i) (c := c) (by omega) ⟨wc.1, wc.2.2.2.1⟩ l2 (hB (1 + i) (by omega))
      obtain ⟨O2, q2, c2, c7, c8, c10⟩ := m_rethink 34 (O1 := O1) (c := c) hc' wT wc (fun c z => funext fun n => r1 c n (Or.inl z)) (fun j z => r1 1 j (Or.inr z)) s1 b1
      obtain ⟨O3, e3, r3, p3, s3⟩ := n_back66 39 (O := up (up (up O2 7 0 0 28 (nI c.1)) 7 0 0 33 (nI c.2.2.1)) 7 0 0 34 (nI c.2.2.2.1)) (i := i) hi
      obtain ⟨O4, e4, r4, p4, s4⟩ := n_back97 39 (O := O3) (i := i) hi
      have up7 : ∀ p q, p ≠ 0 → up (up (up O2 7 0 0 28 (nI c.1)) 7 0 0 33 (nI c.2.2.1)) 7 0 0 34 (nI c.2.2.2.1) 7 0 p q = O 7 0 p q := fun p q z => by
        simp (disch := omega) only [up_ne]
        rw [c7]
      have hMS : MS (O4 7 0) c := by
        refine ⟨?_, fun j hj => ⟨?_, ?_, ?_⟩, ?_, ?_, fun j hj => ⟨?_, ?_⟩⟩
        · rw [p4 _ _ (by decide) (by decide), p3 _ _ (by decide)]; simp (disch := omega) only [up_ne, up_eq]
        · rw [p4 _ _ (by decide) (by decide), s3 _ (by omega), up7 _ _ (by decide)]; exact (g5 j hj).1
        · rw [p4 _ _ (by decide) (by decide), s3 _ (by omega), up7 _ _ (by decide)]; exact (g5 j hj).2.1
        · rw [p4 _ _ (by decide) (by decide), s3 _ (by omega), up7 _ _ (by decide)]; exact (g5 j hj).2.2
        · rw [p4 _ _ (by decide) (by decide), p3 _ _ (by decide)]; simp (disch := omega) only [up_ne, up_eq]
        · rw [p4 _ _ (by decide) (by decide), p3 _ _ (by decide)]; simp (disch := omega) only [up_ne, up_eq]
        · rw [(s4 j (by omega)).1, p3 _ _ (by decide), up7 _ _ (by decide)]; exact (g6 j hj).1
        · exact (s4 j (by omega)).2 _ (by rw [p3 _ _ (by decide), up7 _ _ (by decide)]; exact (g6 j hj).2)
      obtain ⟨O5, q5, m5, r5, r28⟩ := n_rethink 32 (O := O) (O1 := O4) (A := A) (c := c) hm' wT wc (fun p q a b d f g => by
        rw [p4 _ _ d f, p3 _ _ b]
        simp (disch := omega) only [up_ne]
        rw [c7]) hMS
      refine ⟨nI c.1, _, O2, hw'.scene wc, ?_, c2, c7, c8, O5, ?_, m5, fun c z => ?_⟩
      · rw [sX6_back_0]
        simp (disch := omega) only [nI_ltI, nI_eq, nI_add, nI_clamp, ib_n, pk_mul, q_and, q_or, q_dn, q_shl, q_shlm, q_p1, if_true, if_false, ↓reduceIte, Option.bind_some, bI_0, bI_1, bI_01, b_or, Nat.not_lt_zero, Nat.zero_add, Bool.false_eq_true, Bool.true_eq_false, or_false, or_true, true_or, false_or, l1, e1, q2, c10, s1.1]
        rw [if_pos hi, if_neg (by decide)]
      · rw [sX7_back_0, m_in _ _ _ (nI 0) (nI 1) (a := 0) (b := 1) (by decide) (by decide), inI_c _ (by decide), hx']
        simp (disch := omega) only [nI_ltI, nI_eq, nI_add, nI_clamp, ib_n, pk_mul, q_and, q_or, q_dn, q_shl, q_shlm, q_p1, if_true, if_false, ↓reduceIte, Option.bind_some, bI_0, bI_1, bI_01, b_or, Nat.not_lt_zero, Nat.zero_add, Bool.false_eq_true, Bool.true_eq_false, or_false, or_true, true_or, false_or, c7, g1, g2]
        simp (disch := omega) only [up_ne]
        simp (disch := omega) only [nI_ltI, nI_eq, nI_add, nI_clamp, ib_n, pk_mul, q_and, q_or, q_dn, q_shl, q_shlm, q_p1, if_true, if_false, ↓reduceIte, Option.bind_some, bI_0, bI_1, bI_01, b_or, Nat.not_lt_zero, Nat.zero_add, Bool.false_eq_true, Bool.true_eq_false, or_false, or_true, true_or, false_or, c7, g3, g4]
        rw [e3, e4, q5]
        simp (disch := omega) only [nI_ltI, nI_eq, nI_add, nI_clamp, ib_n, pk_mul, q_and, q_or, q_dn, q_shl, q_shlm, q_p1, if_true, if_false, ↓reduceIte, Option.bind_some, bI_0, bI_1, bI_01, b_or, Nat.not_lt_zero, Nat.zero_add, Bool.false_eq_true, Bool.true_eq_false, or_false, or_true, true_or, false_or, r28]
        rw [if_neg (by decide)]
      · rw [r5 c z]
        funext n
        rw [r4 c n (Or.inl z), r3 c n (Or.inl z)]
        simp (disch := omega) only [up_row]
  · have hx := bool_ne hx
    refine CalAt.q hw' hc' hm' (-1) ?_ ?_
    · rw [sX6_back_0]
      unfold hsI at hx
      by_cases z : x < nI 0
      · rw [if_pos z]
      · rw [decide_eq_false z] at hx
        rw [if_neg z, if_neg (fun q => by rw [decide_eq_true q] at hx; cases hx)]
    · rw [sX7_back_0, m_in _ _ _ (nI 0) (nI 1) (a := 0) (b := 1) (by decide) (by decide), inI_c _ (by decide), hx]
      simp (disch := omega) only [nI_ltI, nI_eq, nI_add, nI_clamp, ib_n, pk_mul, q_and, q_or, q_dn, q_shl, q_shlm, q_p1, if_true, if_false, ↓reduceIte, Option.bind_some, bI_0, bI_1, bI_01, b_or, Nat.not_lt_zero, Nat.zero_add, Bool.false_eq_true, Bool.true_eq_false, or_false, or_true, true_or, false_or]
end
