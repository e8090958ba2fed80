/-! CALLS THAT CHANGE THE SCENE, 2: undo, clear, theirs, hush, heard. -/
section
theorem MT.of2 {R R' : Nat → Nat → Int32} {T : Td_} (g : MT R T) (e : ∀ p q, p ≠ 28 → p ≠ 30 → p ≠ 36 → p ≠ 37 → ¬ (p = 0 ∧ (q = 28 ∨ q = 33 ∨ q = 34)) → R' p q = R p q) : MT R' T := by
  refine ⟨⟨?_, ?_, ?_, ?_⟩, fun t ht => ?_, fun m hm => ⟨?_, ?_, ?_⟩, fun s hs => ?_, fun k hk => ⟨?_, ?_, ?_, ?_, ?_⟩⟩ <;> rw [e _ _ (by decide) (by decide) (by decide) (by decide) (by omega)]
  · exact g.1.1
  · exact g.1.2.1
  · exact g.1.2.2.1
  · exact g.1.2.2.2
  · exact g.2.1 t ht
  · exact (g.2.2.1 m hm).1
  · exact (g.2.2.1 m hm).2.1
  · exact (g.2.2.1 m hm).2.2
  · exact g.2.2.2.1 s hs
  · exact (g.2.2.2.2 k hk).1
  · exact (g.2.2.2.2 k hk).2.1
  · exact (g.2.2.2.2 k hk).2.2.1
  · exact (g.2.2.2.2 k hk).2.2.2.1
  · exact (g.2.2.2.2 k hk).2.2.2.2
theorem m_rethink (d : Nat) {O O1 : Mem_} {A : A_} {c : Sc_} (hc : CI O A) (wT : WT A.1) (wc : WSc A.1 c) (e : ∀ c, c ≠ 1 → O1 c = O c) (ei : ∀ i, i ≠ 0 → O1 1 i = O 1 i) (hS : CS (O1 1 0) c) (hB : CB (O1 1 0)) : ∃ O2, ex (d + 5) 112 0 [some (vr 6 0 0)] [] O1 = some (nI 0, O2) ∧ CI O2 (A.1, c, A.2.2) ∧ O2 7 = O 7 ∧ O2 8 = O 8 ∧ O2 1 0 = O1 1 0 := by
  have hc' := hc
  obtain ⟨w, cw, c9, hT, -, hI, -, -, hP, hF, hSh⟩ := hc
  obtain ⟨O2, e2, r2, m2⟩ := m_thinkAgain (O := O1) d (w := w) (by rw [e 6 (by decide)]; exact cw.sel) (by rw [e 4 (by decide)]; exact hT) wT hS wc
  have rr : ∀ c, c ≠ 0 → O2 c = O1 c := fun c z => funext fun n => r2 c n (Or.inl z)
  refine ⟨O2, e2, hc'.scene c (fun i hi => ?_) ?_ ?_ ?_ ?_ ?_ ?_ m2, ?_, ?_, ?_⟩
  · rw [rr 1 (by decide), ei i hi]
  · rw [rr 2 (by decide), e 2 (by decide)]
  · rw [rr 3 (by decide), e 3 (by decide)]
  · rw [rr 4 (by decide), e 4 (by decide)]
  · rw [rr 6 (by decide), e 6 (by decide)]
  · rw [rr 1 (by decide)]; exact hS
  · rw [rr 1 (by decide)]; exact hB
  · rw [rr 7 (by decide), e 7 (by decide)]
  · rw [rr 8 (by decide), e 8 (by decide)]
  · rw [rr 1 (by decide)]
theorem n_rethink (d : Nat) {O O1 : Mem_} {A : A_} {c : Sc_} (hm : MI (O 7 0) A) (wT : WT A.1) (wc : WSc A.1 c) (e : ∀ p q, p ≠ 28 → p ≠ 30 → p ≠ 36 → p ≠ 37 → ¬ (p = 0 ∧ (q = 28 ∨ q = 33 ∨ q = 34)) → O1 7 0 p q = O 7 0 p q) (hS : MS (O1 7 0) c) : ∃ O2, ex (d + 7) 162 0 [some (vr 7 0 0)] [] O1 = some (nI 0, O2) ∧ MI (O2 7 0) (A.1, c, A.2.2) ∧ (∀ c, c ≠ 7 → O2 c = O1 c) ∧ O2 7 0 0 28 = nI c.1 := by
  obtain ⟨O2, e2, r2, m2⟩ := n_replays (O := O1) d (hm.1.of2 e) wT hS.1 hS.2.1 wc
  have ez : ∀ p q, p ≠ 28 → O2 7 0 p q = O1 7 0 p q := fun p q z => r2.2 p q (fun y => z y.1)
  refine ⟨O2, e2, hm.scene c (fun p q a b d f g => (ez p q a).trans (e p q a b d f g)) ?_ m2, fun c z => funext fun n => r2.1 c n (Or.inl z), (ez 0 28 (by decide)).trans hS.1⟩
  refine ⟨(ez _ _ (by decide)).trans hS.1, fun j hj => ?_, (ez _ _ (by decide)).trans hS.2.2.1, (ez _ _ (by decide)).trans hS.2.2.2.1, fun j hj => ?_⟩
  · rw [ez _ _ (by decide), ez _ _ (by decide), ez _ _ (by decide)]; exact hS.2.1 j hj
  · rw [ez _ _ (by decide), ez _ _ (by decide)]; exact hS.2.2.2.2 j hj
theorem q_undo : Cal 77 167 [] := Cal.of fun O A hw hc hm => by
  have hc' := hc
  have hm' := hm
  obtain ⟨w, cw, c9, hT, hS, hI, hB, hM, hP, hF, hSh⟩ := hc
  have hsel := cw.sel
  obtain ⟨mT, mSc, mIm, mN, mP, mF, mSh, mt⟩ := hm
  have hw' := hw
  obtain ⟨wT, wS, wI, wP, wF, wSh, wt⟩ := hw
  have h8 := wT.1
  have h12 := wT.2.1
  have h4 := wT.2.2.1
  have h6 := wT.2.2.2.1
  have wMd : WMd A.1 (mds A.1 A.2.1.2.1 A.2.1.1) := mds_wf _ (by have := wS.1; omega)
  have kmC : ∀ k, k < nK A.1 → KM (O 0 0) k ((mds A.1 A.2.1.2.1 A.2.1.1).2 k) := fun k hk => hM.2.2 k hk (by rw [Nat.testBit_two_pow_sub_one, decide_eq_true hk])
  have kmN : ∀ k, k < nK A.1 → KN (O 7 0) (10 * k) ((mds A.1 A.2.1.2.1 A.2.1.1).2 k) := fun k hk => by have := mN.1 k hk; rwa [Nat.zero_add] at this
  have h24 := wS.1
  by_cases h0 : A.2.1.1 = 0
  · refine CalAt.q hw' hc' hm' (oI none) ?_ ?_
    · rw [sX6_undo_0]
      simp (disch := omega) only [nI_ltI, nI_eq, nI_add, nI_clamp, ib_n, pk_mul, q_and, q_or, q_dn, q_shl, q_shlm, q_p1, if_true, if_false, ↓reduceIte, Option.bind_some, bI_0, bI_1, bI_01, b_or, Nat.not_lt_zero, Nat.zero_add, Bool.false_eq_true, Bool.true_eq_false, or_false, or_true, true_or, false_or, hS.1, h0, Nat.lt_irrefl]
    · rw [sX7_undo_0]
      simp (disch := omega) only [nI_ltI, nI_eq, nI_add, nI_clamp, ib_n, pk_mul, q_and, q_or, q_dn, q_shl, q_shlm, q_p1, if_true, if_false, ↓reduceIte, Option.bind_some, bI_0, bI_1, bI_01, b_or, Nat.not_lt_zero, Nat.zero_add, Bool.false_eq_true, Bool.true_eq_false, or_false, or_true, true_or, false_or, mSc.1, h0]
  · have wc : WSc A.1 (A.2.1.1 - 1, A.2.1.2) := ⟨Nat.le_trans (Nat.sub_le _ _) h24, fun j hj => wS.2.1 j (Nat.lt_of_lt_of_le hj (Nat.sub_le _ _)), wS.2.2⟩
    have e1 : nI A.2.1.1 - nI 1 = nI (A.2.1.1 - 1) := pk_sub (by omega)
    have hCS : CS ((up O 1 0 0 0 (nI (A.2.1.1 - 1))) 1 0) (A.2.1.1 - 1, A.2.1.2) := by
      refine ⟨up_eq .., fun j hj => ?_, ?_, ?_, fun j hj => ?_⟩
      · have hj : j < A.2.1.1 - 1 := hj
        simp (disch := omega) only [up_ne]; exact hS.2.1 j (by omega)
      · simp (disch := omega) only [up_ne]; exact hS.2.2.1
      · simp (disch := omega) only [up_ne]; exact hS.2.2.2.1
      · simp (disch := omega) only [up_ne]; exact hS.2.2.2.2 j hj
    have hCB : CB ((up O 1 0 0 0 (nI (A.2.1.1 - 1))) 1 0) := by
      refine ⟨fun j hj => ?_, fun j hj => ?_⟩
      · simp (disch := omega) only [up_ne]; exact (hB 0 (by decide)).1 j hj
      · simp (disch := omega) only [up_ne]; exact (hB 0 (by decide)).2 j hj
    obtain ⟨O1, q1, c1, c7, c8, c10⟩ := m_rethink 34 (O1 := up O 1 0 0 0 (nI (A.2.1.1 - 1))) (c := (A.2.1.1 - 1, A.2.1.2)) hc' wT wc (fun c z => funext fun n => up_row (Or.inl z)) (fun i z => up_row (Or.inr z)) hCS hCB
    have hMS : MS ((up O1 7 0 0 28 (nI (A.2.1.1 - 1))) 7 0) (A.2.1.1 - 1, A.2.1.2) := by
      refine ⟨up_eq .., fun j hj => ?_, ?_, ?_, fun j hj => ?_⟩
      · have hj : j < A.2.1.1 - 1 := hj
        simp (disch := omega) only [up_ne]; rw [c7]; exact mSc.2.1 j (by omega)
      · simp (disch := omega) only [up_ne]; rw [c7]; exact mSc.2.2.1
      · simp (disch := omega) only [up_ne]; rw [c7]; exact mSc.2.2.2.1
      · simp (disch := omega) only [up_ne]; rw [c7]; exact mSc.2.2.2.2 j hj
    obtain ⟨O2, q2, m2, r2, r28⟩ := n_rethink 32 (O := O1) (O1 := up O1 7 0 0 28 (nI (A.2.1.1 - 1))) (A := A) (c := (A.2.1.1 - 1, A.2.1.2)) (by rw [c7]; exact hm') wT wc (fun p q a b d f g => up_ne (by omega)) hMS
    refine ⟨nI (A.2.1.1 - 1), _, O1, hw'.scene wc, ?_, c1, c7, c8, O2, ?_, m2, fun c z => (r2 c z).trans (funext fun n => up_row (Or.inl z))⟩
    · rw [sX6_undo_0]
      simp (disch := omega) only [nI_ltI, nI_eq, nI_add, nI_clamp, ib_n, pk_mul, q_and, q_or, q_dn, q_shl, q_shlm, q_p1, if_true, if_false, ↓reduceIte, Option.bind_some, bI_0, bI_1, bI_01, b_or, Nat.not_lt_zero, Nat.zero_add, Bool.false_eq_true, Bool.true_eq_false, or_false, or_true, true_or, false_or, hS.1, e1, q1]
      rw [if_pos (by omega), c10, up_eq]
    · rw [sX7_undo_0, c7]
      simp (disch := omega) only [nI_ltI, nI_eq, nI_add, nI_clamp, ib_n, pk_mul, q_and, q_or, q_dn, q_shl, q_shlm, q_p1, if_true, if_false, ↓reduceIte, Option.bind_some, bI_0, bI_1, bI_01, b_or, Nat.not_lt_zero, Nat.zero_add, Bool.false_eq_true, Bool.true_eq_false, or_false, or_true, true_or, false_or, mSc.1, e1]
      rw [if_neg h0]
      rw [q2]
      simp (disch := omega) only [nI_ltI, nI_eq, nI_add, nI_clamp, ib_n, pk_mul, q_and, q_or, q_dn, q_shl, q_shlm, q_p1, if_true, if_false, ↓reduceIte, Option.bind_some, bI_0, bI_1, bI_01, b_or, Nat.not_lt_zero, Nat.zero_add, Bool.false_eq_true, Bool.true_eq_false, or_false, or_true, true_or, false_or, r28]
theorem q_clear : Cal 78 168 [] := Cal.of fun O A hw hc hm => by
  have hc' := hc
  have hm' := hm
  obtain ⟨w, cw, c9, hT, hS, hI, hB, hM, hP, hF, hSh⟩ := hc
  have hsel := cw.sel
  obtain ⟨mT, mSc, mIm, mN, mP, mF, mSh, mt⟩ := hm
  have hw' := hw
  obtain ⟨wT, wS, wI, wP, wF, wSh, wt⟩ := hw
  have h8 := wT.1
  have h12 := wT.2.1
  have h4 := wT.2.2.1
  have h6 := wT.2.2.2.1
  have wMd : WMd A.1 (mds A.1 A.2.1.2.1 A.2.1.1) := mds_wf _ (by have := wS.1; omega)
  have kmC : ∀ k, k < nK A.1 → KM (O 0 0) k ((mds A.1 A.2.1.2.1 A.2.1.1).2 k) := fun k hk => hM.2.2 k hk (by rw [Nat.testBit_two_pow_sub_one, decide_eq_true hk])
  have kmN : ∀ k, k < nK A.1 → KN (O 7 0) (10 * k) ((mds A.1 A.2.1.2.1 A.2.1.1).2 k) := fun k hk => by have := mN.1 k hk; rwa [Nat.zero_add] at this
  have h24 := wS.1
  have hp := Nat.two_pow_pos (nK A.1)
  have wc : WSc A.1 (0, A.2.1.2.1, 2 ^ nK A.1 - 1, A.2.1.2.2.2) := ⟨Nat.zero_le _, fun j hj => absurd hj (Nat.not_lt_zero _), Nat.sub_lt hp (by decide), wS.2.2.2⟩
  have hCS : CS ((up (up O 1 0 0 0 (nI 0)) 1 0 0 4 (nI (2 ^ nK A.1 - 1))) 1 0) (0, A.2.1.2.1, 2 ^ nK A.1 - 1, A.2.1.2.2.2) := by
    refine ⟨by simp (disch := omega) only [up_ne, up_eq], fun j hj => absurd hj (Nat.not_lt_zero _), up_eq .., ?_, fun j hj => ?_⟩
    · simp (disch := omega) only [up_ne]; exact hS.2.2.2.1
    · simp (disch := omega) only [up_ne]; exact hS.2.2.2.2 j hj
  have hCB : CB ((up (up O 1 0 0 0 (nI 0)) 1 0 0 4 (nI (2 ^ nK A.1 - 1))) 1 0) := by
    refine ⟨fun j hj => ?_, fun j hj => ?_⟩
    · simp (disch := omega) only [up_ne]; exact (hB 0 (by decide)).1 j hj
    · simp (disch := omega) only [up_ne]; exact (hB 0 (by decide)).2 j hj
  obtain ⟨O1, q1, c1, c7, c8, c10⟩ := m_rethink 34 (O1 := up (up O 1 0 0 0 (nI 0)) 1 0 0 4 (nI (2 ^ nK A.1 - 1))) (c := (0, A.2.1.2.1, 2 ^ nK A.1 - 1, A.2.1.2.2.2)) hc' wT wc (fun c z => funext fun n => (up_row (Or.inl z)).trans (up_row (Or.inl z))) (fun i z => (up_row (Or.inr z)).trans (up_row (Or.inr z))) hCS hCB
  have hMS : MS ((up (up O1 7 0 0 28 (nI 0)) 7 0 0 33 (nI (2 ^ nK A.1 - 1))) 7 0) (0, A.2.1.2.1, 2 ^ nK A.1 - 1, A.2.1.2.2.2) := by
    refine ⟨by simp (disch := omega) only [up_ne, up_eq], fun j hj => absurd hj (Nat.not_lt_zero _), up_eq .., ?_, fun j hj => ?_⟩
    · simp (disch := omega) only [up_ne]; rw [c7]; exact mSc.2.2.2.1
    · simp (disch := omega) only [up_ne]; rw [c7]; exact mSc.2.2.2.2 j hj
  obtain ⟨O2, q2, m2, r2, r28⟩ := n_rethink 32 (O := O1) (O1 := up (up O1 7 0 0 28 (nI 0)) 7 0 0 33 (nI (2 ^ nK A.1 - 1))) (A := A) (c := (0, A.2.1.2.1, 2 ^ nK A.1 - 1, A.2.1.2.2.2)) (by rw [c7]; exact hm') wT wc (fun p q a b d f g => by simp (disch := omega) only [up_ne]) hMS
  refine ⟨nI A.2.1.1, _, O1, hw'.scene wc, ?_, c1, c7, c8, O2, ?_, m2, fun c z => (r2 c z).trans (funext fun n => (up_row (Or.inl z)).trans (up_row (Or.inl z)))⟩
  · have hT' : CT ((up O 1 0 0 0 (nI 0)) 4 w) A.1 := by rw [up_row (Or.inl (by decide))]; exact hT
    rw [sX6_clear_0]
    simp (disch := omega) only [up_row]
    simp (disch := omega) only [nI_ltI, nI_eq, nI_add, nI_clamp, ib_n, pk_mul, q_and, q_or, q_dn, q_shl, q_shlm, q_p1, if_true, if_false, ↓reduceIte, Option.bind_some, bI_0, bI_1, bI_01, b_or, Nat.not_lt_zero, Nat.zero_add, Bool.false_eq_true, Bool.true_eq_false, or_false, or_true, true_or, false_or, hsel, m_allKinds (h := hT') (hT := wT), q1, hS.1]
  · rw [sX7_clear_0]
    simp (disch := omega) only [up_ne]
    rw [c7]
    simp (disch := omega) only [nI_ltI, nI_eq, nI_add, nI_clamp, ib_n, pk_mul, q_and, q_or, q_dn, q_shl, q_shlm, q_p1, if_true, if_false, ↓reduceIte, Option.bind_some, bI_0, bI_1, bI_01, b_or, Nat.not_lt_zero, Nat.zero_add, Bool.false_eq_true, Bool.true_eq_false, or_false, or_true, true_or, false_or, mT.1.2.2.2, mSc.1, q2]
/-- only left and theirs are changed -/
theorem CI.lt {O O' : Mem_} {A : A_} (l : Nat) (z : Nat × (Nat → Nat × Bool)) (h : CI O A) (e : ∀ c, c ≠ 1 → O' c = O c) (ei : ∀ i, i ≠ 0 → O' 1 i = O 1 i) (hS : CS (O' 1 0) (A.2.1.1, A.2.1.2.1, l, z)) (hB : CB (O' 1 0)) : CI O' (A.1, (A.2.1.1, A.2.1.2.1, l, z), A.2.2) := by
  have hM : CM (O 0 0) A.1 (2 ^ nK A.1 - 1) A.2.1.1 (mds A.1 A.2.1.2.1 A.2.1.1) := by
    obtain ⟨w, -, -, -, -, -, -, hM, -⟩ := h
    exact hM
  exact h.scene _ ei (e 2 (by decide)) (e 3 (by decide)) (e 4 (by decide)) (e 6 (by decide)) hS hB (by rw [e 0 (by decide)]; exact hM)
theorem MI.lt {O O' : Mem_} {A : A_} (l : Nat) (z : Nat × (Nat → Nat × Bool)) (h : MI (O 7 0) A) (e : ∀ p q, p ≠ 36 → p ≠ 37 → ¬ (p = 0 ∧ (q = 33 ∨ q = 34)) → O' 7 0 p q = O 7 0 p q) (hS : MS (O' 7 0) (A.2.1.1, A.2.1.2.1, l, z)) : MI (O' 7 0) (A.1, (A.2.1.1, A.2.1.2.1, l, z), A.2.2) := by
  refine h.scene _ (fun p q a b d f g => e p q d f (by omega)) hS ?_
  obtain ⟨g1, S, N, g2⟩ := h.2.2.2.1
  refine ⟨fun k hk => ⟨fun s hs => ?_, ?_, ?_⟩, S, N, fun s hs => ?_⟩
  · rw [e _ _ (by decide) (by decide) (by omega), e _ _ (by decide) (by decide) (by omega)]; exact (g1 k hk).1 s hs
  · rw [e _ _ (by decide) (by decide) (by omega)]; exact (g1 k hk).2.1
  · rw [e _ _ (by decide) (by decide) (by omega)]; exact (g1 k hk).2.2
  · rw [e _ _ (by decide) (by decide) (by omega), e _ _ (by decide) (by decide) (by omega)]; exact g2 s hs
theorem q_hush : Cal 98 203 [] := Cal.of fun O A hw hc hm => by
  have hc' := hc
  have hm' := hm
  obtain ⟨w, cw, c9, hT, hS, hI, hB, hM, hP, hF, hSh⟩ := hc
  have hsel := cw.sel
  obtain ⟨mT, mSc, mIm, mN, mP, mF, mSh, mt⟩ := hm
  have hw' := hw
  obtain ⟨wT, wS, wI, wP, wF, wSh, wt⟩ := hw
  have h8 := wT.1
  have h12 := wT.2.1
  have h4 := wT.2.2.1
  have h6 := wT.2.2.2.1
  have wMd : WMd A.1 (mds A.1 A.2.1.2.1 A.2.1.1) := mds_wf _ (by have := wS.1; omega)
  have kmC : ∀ k, k < nK A.1 → KM (O 0 0) k ((mds A.1 A.2.1.2.1 A.2.1.1).2 k) := fun k hk => hM.2.2 k hk (by rw [Nat.testBit_two_pow_sub_one, decide_eq_true hk])
  have kmN : ∀ k, k < nK A.1 → KN (O 7 0) (10 * k) ((mds A.1 A.2.1.2.1 A.2.1.1).2 k) := fun k hk => by have := mN.1 k hk; rwa [Nat.zero_add] at this
  have wc : WSc A.1 (A.2.1.1, A.2.1.2.1, A.2.1.2.2.1, 0, A.2.1.2.2.2.2) := ⟨wS.1, wS.2.1, wS.2.2.1, Nat.zero_le _, fun j hj => absurd hj (Nat.not_lt_zero _)⟩
  refine ⟨nI A.2.1.2.2.2.1, _, up O 1 0 0 5 (nI 0), hw'.scene wc, by rw [sX6_hush_0, hS.2.2.2.1], hc'.lt A.2.1.2.2.1 (0, A.2.1.2.2.2.2) (fun c z => funext fun n => up_row (Or.inl z)) (fun i z => up_row (Or.inr z)) ?_ ?_, funext fun n => up_row (Or.inl (by decide)), funext fun n => up_row (Or.inl (by decide)), up (up O 1 0 0 5 (nI 0)) 7 0 0 34 (nI 0), ?_, MI.lt (O := O) A.2.1.2.2.1 (0, A.2.1.2.2.2.2) hm' (fun p q a b d => ?_) ?_, fun c z => funext fun n => up_row (Or.inl z)⟩
  · refine ⟨?_, fun j hj => ?_, ?_, up_eq .., fun j hj => absurd hj (Nat.not_lt_zero _)⟩
    · simp (disch := omega) only [up_ne]; exact hS.1
    · simp (disch := omega) only [up_ne]; exact hS.2.1 j hj
    · simp (disch := omega) only [up_ne]; exact hS.2.2.1
  · refine ⟨fun j hj => ?_, fun j hj => ?_⟩
    · simp (disch := omega) only [up_ne]; exact (hB 0 (by decide)).1 j hj
    · simp (disch := omega) only [up_ne]; exact (hB 0 (by decide)).2 j hj
  · rw [sX7_hush_0, up_row (by decide), mSc.2.2.2.1]
  · rw [up_ne (by omega), up_row (by decide)]
  · refine ⟨?_, fun j hj => ?_, ?_, up_eq .., fun j hj => absurd hj (Nat.not_lt_zero _)⟩
    · simp (disch := omega) only [up_ne, up_row]; exact mSc.1
    · simp (disch := omega) only [up_ne, up_row]; exact mSc.2.1 j hj
    · simp (disch := omega) only [up_ne, up_row]; exact mSc.2.2.1
theorem q_theirs (x : Int32) (so : Bool) : Cal 97 202 [some (vi x), some (vi (bI so))] := Cal.of fun O A hw hc hm => by
  have hc' := hc
  have hm' := hm
  obtain ⟨w, cw, c9, hT, hS, hI, hB, hM, hP, hF, hSh⟩ := hc
  have hsel := cw.sel
  obtain ⟨mT, mSc, mIm, mN, mP, mF, mSh, mt⟩ := hm
  have hw' := hw
  obtain ⟨wT, wS, wI, wP, wF, wSh, wt⟩ := hw
  have h8 := wT.1
  have h12 := wT.2.1
  have h4 := wT.2.2.1
  have h6 := wT.2.2.2.1
  have wMd : WMd A.1 (mds A.1 A.2.1.2.1 A.2.1.1) := mds_wf _ (by have := wS.1; omega)
  have kmC : ∀ k, k < nK A.1 → KM (O 0 0) k ((mds A.1 A.2.1.2.1 A.2.1.1).2 k) := fun k hk => hM.2.2 k hk (by rw [Nat.testBit_two_pow_sub_one, decide_eq_true hk])
  have kmN : ∀ k, k < nK A.1 → KN (O 7 0) (10 * k) ((mds A.1 A.2.1.2.1 A.2.1.1).2 k) := fun k hk => by have := mN.1 k hk; rwa [Nat.zero_add] at this
  have hn12 := wS.2.2.2.1
  by_cases hx : hsI x (nT A.1) = true
  · have hx' := hx
    obtain ⟨t, ht, rfl⟩ := hsI_of (by omega) hx
    by_cases hn : A.2.1.2.2.2.1 < 12
    · generalize hz : ((A.2.1.2.2.2.1 + 1, upF A.2.1.2.2.2.2 A.2.1.2.2.2.1 (t, so)) : Nat × (Nat → Nat × Bool)) = z
      have wc : WSc A.1 (A.2.1.1, A.2.1.2.1, A.2.1.2.2.1, z) := by
        subst hz
        refine ⟨wS.1, wS.2.1, wS.2.2.1, hn, fun j hj => ?_⟩
        have hj : j < A.2.1.2.2.2.1 + 1 := hj
        simp only [upF]
        split
        · exact ht
        · exact wS.2.2.2.2 j (by omega)
      refine ⟨nI (A.2.1.2.2.2.1 + 1), _, up (up (up O 1 0 7 A.2.1.2.2.2.1 (nI t)) 1 0 8 A.2.1.2.2.2.1 (bI so)) 1 0 0 5 (nI (A.2.1.2.2.2.1 + 1)), hw'.scene wc, ?_, hc'.lt A.2.1.2.2.1 z (fun c z => funext fun n => by simp (disch := omega) only [up_row]) (fun i z => by simp (disch := omega) only [up_row]) ?_ ?_, funext fun n => by simp (disch := omega) only [up_row], funext fun n => by simp (disch := omega) only [up_row], up (up (up (up (up (up O 1 0 7 A.2.1.2.2.2.1 (nI t)) 1 0 8 A.2.1.2.2.2.1 (bI so)) 1 0 0 5 (nI (A.2.1.2.2.2.1 + 1))) 7 0 36 A.2.1.2.2.2.1 (nI t)) 7 0 37 A.2.1.2.2.2.1 (bI so)) 7 0 0 34 (nI (A.2.1.2.2.2.1 + 1)), ?_, MI.lt (O := O) A.2.1.2.2.1 z hm' (fun p q a b d => ?_) ?_, fun c z => funext fun n => by simp (disch := omega) only [up_row]⟩
      · rw [sX6_theirs_0]
        simp (disch := omega) only [nI_ltI, nI_eq, nI_add, nI_clamp, ib_n, pk_mul, q_and, q_or, q_dn, q_shl, q_shlm, q_p1, if_true, if_false, ↓reduceIte, Option.bind_some, bI_0, bI_1, bI_01, b_or, Nat.not_lt_zero, Nat.zero_add, Bool.false_eq_true, Bool.true_eq_false, or_false, or_true, true_or, false_or, hsel, m_hasThing (h := hT), hx', hS.2.2.2.1, hn]
        simp (disch := omega) only [up_ne, up_eq]
        simp (disch := omega) only [nI_ltI, nI_eq, nI_add, nI_clamp, ib_n, pk_mul, q_and, q_or, q_dn, q_shl, q_shlm, q_p1, if_true, if_false, ↓reduceIte, Option.bind_some, bI_0, bI_1, bI_01, b_or, Nat.not_lt_zero, Nat.zero_add, Bool.false_eq_true, Bool.true_eq_false, or_false, or_true, true_or, false_or, hS.2.2.2.1]
      · subst hz
        refine ⟨?_, fun j hj => ?_, ?_, up_eq .., fun j hj => ?_⟩
        · simp (disch := omega) only [up_ne]; exact hS.1
        · simp (disch := omega) only [up_ne]; exact hS.2.1 j hj
        · simp (disch := omega) only [up_ne]; exact hS.2.2.1
        · have hj : j < A.2.1.2.2.2.1 + 1 := hj
          by_cases e : j = A.2.1.2.2.2.1
          · subst e; simp (disch := omega) only [up_ne, up_eq, upF, if_true, and_self]
          · simp (disch := omega) only [up_ne, upF, e, if_false]; exact hS.2.2.2.2 j (by omega)
      · refine ⟨fun j hj => ?_, fun j hj => ?_⟩
        · simp (disch := omega) only [up_ne]; exact (hB 0 (by decide)).1 j hj
        · by_cases e : j = A.2.1.2.2.2.1
          · subst e
            simp (disch := omega) only [up_ne, up_eq]
            cases so
            · exact Or.inl rfl
            · exact Or.inr rfl
          · simp (disch := omega) only [up_ne]; exact (hB 0 (by decide)).2 j hj
      · have mT' : MT ((up (up (up O 1 0 7 A.2.1.2.2.2.1 (nI t)) 1 0 8 A.2.1.2.2.2.1 (bI so)) 1 0 0 5 (nI (A.2.1.2.2.2.1 + 1))) 7 0) A.1 := by simp (disch := omega) only [up_row]; exact mT
        rw [sX7_theirs_0]
        simp (disch := omega) only [nI_ltI, nI_eq, nI_add, nI_clamp, ib_n, pk_mul, q_and, q_or, q_dn, q_shl, q_shlm, q_p1, if_true, if_false, ↓reduceIte, Option.bind_some, bI_0, bI_1, bI_01, b_or, Nat.not_lt_zero, Nat.zero_add, Bool.false_eq_true, Bool.true_eq_false, or_false, or_true, true_or, false_or, n_isThing (h := mT') (hT := wT), hx']
        simp (disch := omega) only [up_ne, up_eq, up_row]
        simp (disch := omega) only [nI_ltI, nI_eq, nI_add, nI_clamp, ib_n, pk_mul, q_and, q_or, q_dn, q_shl, q_shlm, q_p1, if_true, if_false, ↓reduceIte, Option.bind_some, bI_0, bI_1, bI_01, b_or, Nat.not_lt_zero, Nat.zero_add, Bool.false_eq_true, Bool.true_eq_false, or_false, or_true, true_or, false_or, mSc.2.2.2.1]
        rw [if_neg (by omega)]
      · simp (disch := omega) only [up_ne, up_row]
      · subst hz
        refine ⟨?_, fun j hj => ?_, ?_, up_eq .., fun j hj => ?_⟩
        · simp (disch := omega) only [up_ne, up_row]; exact mSc.1
        · simp (disch := omega) only [up_ne, up_row]; exact mSc.2.1 j hj
        · simp (disch := omega) only [up_ne, up_row]; exact mSc.2.2.1
        · have hj : j < A.2.1.2.2.2.1 + 1 := hj
          by_cases e : j = A.2.1.2.2.2.1
          · subst e; simp (disch := omega) only [up_ne, up_eq, upF, if_true, and_self]
          · simp (disch := omega) only [up_ne, up_row, upF, e, if_false]; exact mSc.2.2.2.2 j (by omega)
    · have e12 : A.2.1.2.2.2.1 = 12 := by omega
      refine CalAt.q hw' hc' hm' (-3) ?_ ?_
      · rw [sX6_theirs_0]
        simp (disch := omega) only [nI_ltI, nI_eq, nI_add, nI_clamp, ib_n, pk_mul, q_and, q_or, q_dn, q_shl, q_shlm, q_p1, if_true, if_false, ↓reduceIte, Option.bind_some, bI_0, bI_1, bI_01, b_or, Nat.not_lt_zero, Nat.zero_add, Bool.false_eq_true, Bool.true_eq_false, or_false, or_true, true_or, false_or, hsel, m_hasThing (h := hT), hx', hS.2.2.2.1, e12]
        simp
      · rw [sX7_theirs_0]
        simp (disch := omega) only [nI_ltI, nI_eq, nI_add, nI_clamp, ib_n, pk_mul, q_and, q_or, q_dn, q_shl, q_shlm, q_p1, if_true, if_false, ↓reduceIte, Option.bind_some, bI_0, bI_1, bI_01, b_or, Nat.not_lt_zero, Nat.zero_add, Bool.false_eq_true, Bool.true_eq_false, or_false, or_true, true_or, false_or, n_isThing (h := mT) (hT := wT), hx', mSc.2.2.2.1, e12]
  · have hx := bool_ne hx
    refine CalAt.q hw' hc' hm' (-1) ?_ ?_
    · rw [sX6_theirs_0]
      simp (disch := omega) only [nI_ltI, nI_eq, nI_add, nI_clamp, ib_n, pk_mul, q_and, q_or, q_dn, q_shl, q_shlm, q_p1, if_true, if_false, ↓reduceIte, Option.bind_some, bI_0, bI_1, bI_01, b_or, Nat.not_lt_zero, Nat.zero_add, Bool.false_eq_true, Bool.true_eq_false, or_false, or_true, true_or, false_or, hsel, m_hasThing (h := hT), hx]
    · rw [sX7_theirs_0]
      simp (disch := omega) only [nI_ltI, nI_eq, nI_add, nI_clamp, ib_n, pk_mul, q_and, q_or, q_dn, q_shl, q_shlm, q_p1, if_true, if_false, ↓reduceIte, Option.bind_some, bI_0, bI_1, bI_01, b_or, Nat.not_lt_zero, Nat.zero_add, Bool.false_eq_true, Bool.true_eq_false, or_false, or_true, true_or, false_or, n_isThing (h := mT) (hT := wT), hx]
end
