/-! CALLS THAT CHANGE THE SCENE: show, teach, undo, clear. -/
section
theorem CI.scene {O O' : Mem_} {A : A_} (c : Sc_) (h : CI O A) (e1 : ∀ i, i ≠ 0 → O' 1 i = O 1 i) (e2 : O' 2 = O 2) (e3 : O' 3 = O 3) (e4 : O' 4 = O 4) (e6 : O' 6 = O 6) (hS : CS (O' 1 0) c) (hB : CB (O' 1 0)) (hM : CM (O' 0 0) A.1 (2 ^ nK A.1 - 1) c.1 (mds A.1 c.2.1 c.1)) : CI O' (A.1, c, A.2.2) := by
  obtain ⟨w, cw, c9, hT, -, hI, hB', -, hP, hF, hSh⟩ := h
  refine ⟨w, by rw [e6]; exact cw, by rw [e6]; exact c9, by rw [e4]; exact hT, hS, fun i hi => by rw [e1 _ (by omega)]; exact hI i hi, fun i hi => ?_, hM, by rw [e3]; exact hP, by rw [e3]; exact hF, by rw [e2]; exact hSh⟩
  by_cases z : i = 0
  · rw [z]; exact hB
  · rw [e1 i z]; exact hB' i hi
theorem MI.scene {O O' : Mem_} {A : A_} (c : Sc_) (h : MI (O 7 0) A) (e : ∀ p q, p ≠ 28 → p ≠ 30 → p ≠ 36 → p ≠ 37 → ¬ (p = 0 ∧ (q = 28 ∨ q = 33 ∨ q = 34)) → O' 7 0 p q = O 7 0 p q) (hS : MS (O' 7 0) c) (hN : NM (O' 7 0) 0 A.1 (mds A.1 c.2.1 c.1)) : MI (O' 7 0) (A.1, c, A.2.2) := by
  obtain ⟨h1, h2, h3, h4, h5, h6, h7, h8⟩ := h
  have ez : ∀ q, q ≠ 28 → q ≠ 33 → q ≠ 34 → O' 7 0 0 q = O 7 0 0 q := fun q a b c => e 0 q (by decide) (by decide) (by decide) (by decide) (by omega)
  have ep : ∀ p q, p ≠ 0 → p ≠ 28 → p ≠ 30 → p ≠ 36 → p ≠ 37 → O' 7 0 p q = O 7 0 p q := fun p q a b c d f => e p q b c d f (by omega)
  refine ⟨?_, hS, fun i hi => (h3 i hi).of fun p q a b => ep p q (by omega) (by omega) (by omega) (by omega) (by omega), hN, h5.of (ez _ (by decide) (by decide) (by decide)) (fun q => ep _ _ (by decide) (by decide) (by decide) (by decide) (by decide)), (ez _ (by decide) (by decide) (by decide)).trans h6, h7.of fun p q a b => ep p q (by omega) (by omega) (by omega) (by omega) (by omega), (ez _ (by decide) (by decide) (by decide)).trans h8⟩
  refine ⟨⟨?_, ?_, ?_, ?_⟩, fun t ht => ?_, fun m hm => ⟨?_, ?_, ?_⟩, fun s hs => ?_, fun k hk => ⟨?_, ?_, ?_, ?_, ?_⟩⟩
  · rw [ez _ (by decide) (by decide) (by decide)]; exact h1.1.1
  · rw [ez _ (by decide) (by decide) (by decide)]; exact h1.1.2.1
  · rw [ez _ (by decide) (by decide) (by decide)]; exact h1.1.2.2.1
  · rw [ez _ (by decide) (by decide) (by decide)]; exact h1.1.2.2.2
  · rw [ep _ _ (by decide) (by decide) (by decide) (by decide) (by decide)]; exact h1.2.1 t ht
  · rw [ep _ _ (by decide) (by decide) (by decide) (by decide) (by decide)]; exact (h1.2.2.1 m hm).1
  · rw [ep _ _ (by decide) (by decide) (by decide) (by decide) (by decide)]; exact (h1.2.2.1 m hm).2.1
  · rw [ep _ _ (by decide) (by decide) (by decide) (by decide) (by decide)]; exact (h1.2.2.1 m hm).2.2
  · rw [ep _ _ (by decide) (by decide) (by decide) (by decide) (by decide)]; exact h1.2.2.2.1 s hs
  · rw [ep _ _ (by decide) (by decide) (by decide) (by decide) (by decide)]; exact (h1.2.2.2.2 k hk).1
  · rw [ep _ _ (by decide) (by decide) (by decide) (by decide) (by decide)]; exact (h1.2.2.2.2 k hk).2.1
  · rw [ep _ _ (by decide) (by decide) (by decide) (by decide) (by decide)]; exact (h1.2.2.2.2 k hk).2.2.1
  · rw [ep _ _ (by decide) (by decide) (by decide) (by decide) (by decide)]; exact (h1.2.2.2.2 k hk).2.2.2.1
  · rw [ep _ _ (by decide) (by decide) (by decide) (by decide) (by decide)]; exact (h1.2.2.2.2 k hk).2.2.2.2
/-- one showing more -/
def addS (c : Sc_) (s t : Nat) (so : Bool) : Sc_ := (c.1 + 1, upF c.2.1 c.1 (s, t, so), c.2.2)
theorem addS_wf {T : Td_} {c : Sc_} {s t : Nat} {so : Bool} (h : WSc T c) (hn : c.1 < 24) (hs : s < nS T) (ht : t < nT T) : WSc T (addS c s t so) := by
  refine ⟨hn, fun j hj => ?_, h.2.2⟩
  by_cases e : j = c.1
  · subst e; simp only [addS, upF, if_true]; exact ⟨hs, ht⟩
  · simp only [addS, upF, e, if_false]
    have hj : j < c.1 + 1 := hj
    exact h.2.1 j (by omega)
theorem mds_add {T : Td_} {c : Sc_} {s t : Nat} {so : Bool} : mds T (addS c s t so).2.1 (addS c s t so).1 = see T c.1 s t so (mds T c.2.1 c.1) := by
  show mds T (upF c.2.1 c.1 (s, t, so)) (c.1 + 1) = _
  show see T c.1 (upF c.2.1 c.1 (s, t, so) c.1).1 (upF c.2.1 c.1 (s, t, so) c.1).2.1 (upF c.2.1 c.1 (s, t, so) c.1).2.2 (mds T (upF c.2.1 c.1 (s, t, so)) c.1) = _
  have e : ∀ j, j < c.1 → upF c.2.1 c.1 (s, t, so) j = c.2.1 j := fun j hj => by simp only [upF]; rw [if_neg (by omega)]
  rw [mds_ext c.1 e]
  simp only [upF, if_true]
theorem m_takeShowing (d : Nat) {O : Mem_} {A : A_} {s t : Nat} {so : Bool} (hw : WA A) (hc : CI O A) (hn : A.2.1.1 < 24) (hs : s < nS A.1) (ht : t < nT A.1) : ∃ O', ex (d + 5) 111 0 [some (vr 6 0 0), some (vi (nI s)), some (vi (nI t)), some (vi (bI so))] [] O = some (nI 0, O') ∧ CI O' (A.1, addS A.2.1 s t so, A.2.2) ∧ O' 7 = O 7 ∧ O' 8 = O 8 ∧ O' 1 0 0 0 = nI (A.2.1.1 + 1) ∧ ∀ c, c ≠ 0 → c ≠ 1 → O' c = O c := by
  have hc' := hc
  obtain ⟨w, cw, c9, hT, hS, hI, hB, hM, hP, hF, hSh⟩ := hc
  have hsel := cw.sel
  obtain ⟨wT, wS, wI, wP, wF, wSh, wt⟩ := hw
  have h6 := wT.2.2.2.1
  have h64 : 2 ^ nK A.1 ≤ 2 ^ 6 := Nat.pow_le_pow_right (by decide) h6
  have wMd : WMd A.1 (mds A.1 A.2.1.2.1 A.2.1.1) := mds_wf _ (by omega)
  generalize hO1 : up (up (up (up O 1 0 2 A.2.1.1 (nI s)) 1 0 3 A.2.1.1 (nI t)) 1 0 4 A.2.1.1 (bI so)) 1 0 0 0 (nI (A.2.1.1 + 1)) = O1
  have r : ∀ c n, c ≠ 1 ∨ n ≠ 0 → O1 c n = O c n := fun c n z => by rw [← hO1, up_row z, up_row z, up_row z, up_row z]
  have rc : ∀ c, c ≠ 1 → O1 c = O c := fun c z => funext fun n => r c n (Or.inl z)
  obtain ⟨c, O2, e2, r2, m2, -⟩ := m_see (O := O1) (n := w) (i := 0) d (K := 2 ^ nK A.1 - 1) (so := so) (by omega) hs ht (by rw [rc 4 (by decide)]; exact hT) wT (by rw [rc 0 (by decide)]; exact hM) wMd (by omega)
  have f1 : ∀ n, O2 1 n = O1 1 n := fun n => r2 1 n (Or.inl (by decide))
  refine ⟨O2, ?_, hc'.scene (addS A.2.1 s t so) (fun i hi => by rw [f1, r 1 i (Or.inr hi)]) ?_ ?_ ?_ ?_ ?_ ?_ ?_, ?_, ?_, ?_, fun c z1 z2 => ?_⟩
  · rw [sX6_takeShowing_0]
    simp (disch := omega) only [nI_ltI, nI_eq, nI_add, nI_clamp, ib_n, pk_mul, q_and, q_or, q_dn, q_shl, q_shlm, q_p1, if_true, if_false, ↓reduceIte, Option.bind_some, bI_0, bI_1, bI_01, b_or, Nat.not_lt_zero, Nat.zero_add, Bool.false_eq_true, Bool.true_eq_false, or_false, or_true, true_or, false_or, hS.1]
    simp (disch := omega) only [up_ne, up_row]
    simp (disch := omega) only [nI_ltI, nI_eq, nI_add, nI_clamp, ib_n, pk_mul, q_and, q_or, q_dn, q_shl, q_shlm, q_p1, if_true, if_false, ↓reduceIte, Option.bind_some, bI_0, bI_1, bI_01, b_or, Nat.not_lt_zero, Nat.zero_add, Bool.false_eq_true, Bool.true_eq_false, or_false, or_true, true_or, false_or, hS.1, hsel]
    rw [hO1]
    rw [m_allKinds _ (by rw [rc 4 (by decide)]; exact hT) wT]
    simp (disch := omega) only [nI_ltI, nI_eq, nI_add, nI_clamp, ib_n, pk_mul, q_and, q_or, q_dn, q_shl, q_shlm, q_p1, if_true, if_false, ↓reduceIte, Option.bind_some, bI_0, bI_1, bI_01, b_or, Nat.not_lt_zero, Nat.zero_add, Bool.false_eq_true, Bool.true_eq_false, or_false, or_true, true_or, false_or, e2]
    rw [if_pos hn]
  · funext n; rw [r2 2 n (Or.inl (by decide)), rc 2 (by decide)]
  · funext n; rw [r2 3 n (Or.inl (by decide)), rc 3 (by decide)]
  · funext n; rw [r2 4 n (Or.inl (by decide)), rc 4 (by decide)]
  · funext n; rw [r2 6 n (Or.inl (by decide)), rc 6 (by decide)]
  · rw [f1, ← hO1]
    refine ⟨by rw [up_eq]; rfl, fun j hj => ?_, ?_, ?_, fun j hj => ?_⟩
    · have hj : j < A.2.1.1 + 1 := hj
      by_cases e : j = A.2.1.1
      · subst e
        simp (disch := omega) only [up_ne, up_eq, addS, upF, if_true, and_self]
      · simp (disch := omega) only [up_ne, addS, upF, e, if_false]
        exact hS.2.1 j (by omega)
    · simp (disch := omega) only [up_ne]; exact hS.2.2.1
    · simp (disch := omega) only [up_ne]; exact hS.2.2.2.1
    · simp (disch := omega) only [up_ne]; exact hS.2.2.2.2 j hj
  · rw [f1, ← hO1]
    refine ⟨fun j hj => ?_, fun j hj => ?_⟩
    · by_cases e : j = A.2.1.1
      · subst e
        simp (disch := omega) only [up_ne, up_eq]
        cases so
        · exact Or.inl rfl
        · exact Or.inr rfl
      · simp (disch := omega) only [up_ne]; exact (hB 0 (by decide)).1 j hj
    · simp (disch := omega) only [up_ne]; exact (hB 0 (by decide)).2 j hj
  · rw [mds_add]; exact m2
  · funext n; rw [r2 7 n (Or.inl (by decide)), rc 7 (by decide)]
  · funext n; rw [r2 8 n (Or.inl (by decide)), rc 8 (by decide)]
  · rw [f1, ← hO1, up_eq]
  · funext n; rw [r2 c n (Or.inl z1), rc c z2]
theorem n_adds (d : Nat) {O : Mem_} {A : A_} {s t : Nat} {so : Bool} (hw : WA A) (hm : MI (O 7 0) A) (hn : A.2.1.1 < 24) (hs : s < nS A.1) (ht : t < nT A.1) : ∃ O', ex (d + 7) 163 0 [some (vr 7 0 0), some (vi (nI s)), some (vi (nI t)), some (vi (bI so))] [] O = some (nI (A.2.1.1 + 1), O') ∧ MI (O' 7 0) (A.1, addS A.2.1 s t so, A.2.2) ∧ (∀ c, c ≠ 7 → O' c = O c) ∧ ∀ p q, 42 ≤ p → O' 7 0 p q = O 7 0 p q := by
  have hm' := hm
  obtain ⟨mT, mSc, mIm, mN, mP, mF, mSh, mt⟩ := hm
  obtain ⟨wT, wS, wI, wP, wF, wSh, wt⟩ := hw
  have wMd : WMd A.1 (mds A.1 A.2.1.2.1 A.2.1.1) := mds_wf _ (by omega)
  generalize hO1 : up (up (up O 7 0 30 (3 * A.2.1.1) (nI s)) 7 0 30 (3 * A.2.1.1 + 1) (nI t)) 7 0 30 (3 * A.2.1.1 + 2) (bI so) = O1
  have e1 : ∀ p q, p ≠ 30 → O1 7 0 p q = O 7 0 p q := fun p q z => by rw [← hO1]; simp (disch := omega) only [up_ne]
  have r1 : ∀ c, c ≠ 7 → O1 c = O c := fun c z => funext fun n => by rw [← hO1, up_row (Or.inl z), up_row (Or.inl z), up_row (Or.inl z)]
  have mT1 : MT (O1 7 0) A.1 := by
    refine ⟨⟨?_, ?_, ?_, ?_⟩, fun t ht => ?_, fun m hm => ⟨?_, ?_, ?_⟩, fun s hs => ?_, fun k hk => ⟨?_, ?_, ?_, ?_, ?_⟩⟩ <;> rw [e1 _ _ (by decide)]
    · exact mT.1.1
    · exact mT.1.2.1
    · exact mT.1.2.2.1
    · exact mT.1.2.2.2
    · exact mT.2.1 t ht
    · exact (mT.2.2.1 m hm).1
    · exact (mT.2.2.1 m hm).2.1
    · exact (mT.2.2.1 m hm).2.2
    · exact mT.2.2.2.1 s hs
    · exact (mT.2.2.2.2 k hk).1
    · exact (mT.2.2.2.2 k hk).2.1
    · exact (mT.2.2.2.2 k hk).2.2.1
    · exact (mT.2.2.2.2 k hk).2.2.2.1
    · exact (mT.2.2.2.2 k hk).2.2.2.2
  have mN1 : NM (O1 7 0) 0 A.1 (mds A.1 A.2.1.2.1 A.2.1.1) := by
    obtain ⟨g1, S, N, g2⟩ := mN
    refine ⟨fun k hk => ⟨fun s hs => ?_, ?_, ?_⟩, S, N, fun s hs => ?_⟩
    · rw [e1 _ _ (by decide), e1 _ _ (by decide)]; exact (g1 k hk).1 s hs
    · rw [e1 _ _ (by decide)]; exact (g1 k hk).2.1
    · rw [e1 _ _ (by decide)]; exact (g1 k hk).2.2
    · rw [e1 _ _ (by decide), e1 _ _ (by decide)]; exact g2 s hs
  obtain ⟨O2, q1, q2, q3⟩ := n_sees (O := O1) d (b := 0) (i := A.2.1.1) (s := s) (t := t) (so := so) (by omega) hs ht mT1 wT mN1 wMd (by omega)
  have e2 : ∀ p q, p ≠ 28 → O2 7 0 p q = O1 7 0 p q := fun p q z => q2.2 p q (fun y => z y.1)
  refine ⟨up O2 7 0 0 28 (nI (A.2.1.1 + 1)), ?_, hm'.scene (addS A.2.1 s t so) (fun p q z1 z2 z3 z4 z5 => ?_) ?_ ?_, fun c z => ?_, fun p q z => ?_⟩
  · rw [sX7_adds_0]
    simp (disch := omega) only [nI_ltI, nI_eq, nI_add, nI_clamp, ib_n, pk_mul, q_and, q_or, q_dn, q_shl, q_shlm, q_p1, if_true, if_false, ↓reduceIte, Option.bind_some, bI_0, bI_1, bI_01, b_or, Nat.not_lt_zero, Nat.zero_add, Bool.false_eq_true, Bool.true_eq_false, or_false, or_true, true_or, false_or, mSc.1]
    rw [if_neg (by omega)]
    simp (disch := omega) only [up_ne]
    simp (disch := omega) only [nI_ltI, nI_eq, nI_add, nI_clamp, ib_n, pk_mul, q_and, q_or, q_dn, q_shl, q_shlm, q_p1, if_true, if_false, ↓reduceIte, Option.bind_some, bI_0, bI_1, bI_01, b_or, Nat.not_lt_zero, Nat.zero_add, Bool.false_eq_true, Bool.true_eq_false, or_false, or_true, true_or, false_or, mSc.1, m_flag]
    simp (disch := omega) only [up_ne]
    simp (disch := omega) only [nI_ltI, nI_eq, nI_add, nI_clamp, ib_n, pk_mul, q_and, q_or, q_dn, q_shl, q_shlm, q_p1, if_true, if_false, ↓reduceIte, Option.bind_some, bI_0, bI_1, bI_01, b_or, Nat.not_lt_zero, Nat.zero_add, Bool.false_eq_true, Bool.true_eq_false, or_false, or_true, true_or, false_or, mSc.1]
    rw [hO1]
    simp (disch := omega) only [nI_ltI, nI_eq, nI_add, nI_clamp, ib_n, pk_mul, q_and, q_or, q_dn, q_shl, q_shlm, q_p1, if_true, if_false, ↓reduceIte, Option.bind_some, bI_0, bI_1, bI_01, b_or, Nat.not_lt_zero, Nat.zero_add, Bool.false_eq_true, Bool.true_eq_false, or_false, or_true, true_or, false_or, q1]
    rw [e2 0 28 (by decide), e1 0 28 (by decide), mSc.1, up_eq, nI_add]
  · rw [up_ne (by omega), e2 p q z1, e1 p q z2]
  · refine ⟨up_eq .., fun j hj => ?_, ?_, ?_, fun j hj => ?_⟩
    · have hj : j < A.2.1.1 + 1 := hj
      rw [up_ne (by omega), up_ne (by omega), up_ne (by omega), e2 _ _ (by decide), e2 _ _ (by decide), e2 _ _ (by decide), ← hO1]
      by_cases e : j = A.2.1.1
      · subst e
        simp (disch := omega) only [up_ne, up_eq, addS, upF, if_true, and_self]
      · simp (disch := omega) only [up_ne, addS, upF, e, if_false]
        exact mSc.2.1 j (by omega)
    · rw [up_ne (by omega), e2 _ _ (by decide), e1 _ _ (by decide)]; exact mSc.2.2.1
    · rw [up_ne (by omega), e2 _ _ (by decide), e1 _ _ (by decide)]; exact mSc.2.2.2.1
    · rw [up_ne (by omega), up_ne (by omega), e2 _ _ (by decide), e2 _ _ (by decide), e1 _ _ (by decide), e1 _ _ (by decide)]; exact mSc.2.2.2.2 j hj
  · rw [mds_add]
    obtain ⟨g1, S, N, g2⟩ := q3
    refine ⟨fun k hk => ⟨fun s hs => ?_, ?_, ?_⟩, S, N, fun s hs => ?_⟩
    · rw [up_ne (by omega), up_ne (by omega)]; exact (g1 k hk).1 s hs
    · rw [up_ne (by omega)]; exact (g1 k hk).2.1
    · rw [up_ne (by omega)]; exact (g1 k hk).2.2
    · rw [up_ne (by omega), up_ne (by omega)]; exact g2 s hs
  · funext n
    rw [up_row (Or.inl z), q2.1 c n (Or.inl z), r1 c z]
  · rw [up_ne (by omega), e2 _ _ (by omega), e1 _ _ (by omega)]
theorem WA.scene {A : A_} {c : Sc_} (h : WA A) (hc : WSc A.1 c) : WA (A.1, c, A.2.2) := ⟨h.1, hc, h.2.2⟩
theorem n_adds_full (d : Nat) {O : Mem_} {A : A_} {x y z : Int32} (hm : MI (O 7 0) A) (hn : A.2.1.1 = 24) : ex (d + 1) 163 0 [some (vr 7 0 0), some (vi x), some (vi y), some (vi z)] [] O = some (-3, O) := by
  rw [sX7_adds_0, hm.2.1.1, hn]
  simp (disch := omega) only [nI_ltI, nI_eq, nI_add, nI_clamp, ib_n, pk_mul, q_and, q_or, q_dn, q_shl, q_shlm, q_p1, if_true, if_false, ↓reduceIte, Option.bind_some, bI_0, bI_1, bI_01, b_or, Nat.not_lt_zero, Nat.zero_add, Bool.false_eq_true, Bool.true_eq_false, or_false, or_true, true_or, false_or]
theorem show_in (d d' : Nat) {s t : Nat} {so : Bool} {O : Mem_} {A : A_} (hw : WA A) (hc : CI O A) (hm : MI (O 7 0) A) (hs : s < nS A.1) (ht : t < nT A.1) : ∃ (r : Int32) (A' : A_) (O1 : Mem_), WA A' ∧ ex (d + 6) 75 0 [some (vr 6 0 0), some (vi (nI s)), some (vi (nI t)), some (vi (bI so))] [] O = some (r, O1) ∧ CI O1 A' ∧ O1 7 = O 7 ∧ O1 8 = O 8 ∧ MI (O1 7 0) A ∧ ∃ O2, ex (d' + 7) 163 0 [some (vr 7 0 0), some (vi (nI s)), some (vi (nI t)), some (vi (bI so))] [] O1 = some (r, O2) ∧ MI (O2 7 0) A' ∧ ∀ c, c ≠ 7 → O2 c = O1 c := by
  have hc' := hc
  have hm' := hm
  obtain ⟨w, cw, c9, hT, hS, hI, hB, hM, hP, hF, hSh⟩ := hc
  have hsel := cw.sel
  obtain ⟨mT, mSc, mIm, mN, mP, mF, mSh, mt⟩ := hm
  have hw' := hw
  obtain ⟨wT, wS, wI, wP, wF, wSh, wt⟩ := hw
  have h8 := wT.1
  have h12 := wT.2.1
  have h4 := wT.2.2.1
  have h6 := wT.2.2.2.1
  have wMd : WMd A.1 (mds A.1 A.2.1.2.1 A.2.1.1) := mds_wf _ (by have := wS.1; omega)
  have kmC : ∀ k, k < nK A.1 → KM (O 0 0) k ((mds A.1 A.2.1.2.1 A.2.1.1).2 k) := fun k hk => hM.2.2 k hk (by rw [Nat.testBit_two_pow_sub_one, decide_eq_true hk])
  have kmN : ∀ k, k < nK A.1 → KN (O 7 0) (10 * k) ((mds A.1 A.2.1.2.1 A.2.1.1).2 k) := fun k hk => by have := mN.1 k hk; rwa [Nat.zero_add] at this
  by_cases hn : A.2.1.1 < 24
  · obtain ⟨O1, e1, c1, c7, c8, c10, -⟩ := m_takeShowing (so := so) d hw' hc' hn hs ht
    have hm1 : MI (O1 7 0) A := by rw [c7]; exact hm'
    obtain ⟨O2, e2, m2, r2, -⟩ := n_adds (so := so) d' hw' hm1 hn hs ht
    refine ⟨nI (A.2.1.1 + 1), _, O1, hw'.scene (addS_wf wS hn hs ht), ?_, c1, c7, c8, hm1, O2, e2, m2, r2⟩
    rw [sX6_show_0]
    simp (disch := omega) only [nI_ltI, nI_eq, nI_add, nI_clamp, ib_n, pk_mul, q_and, q_or, q_dn, q_shl, q_shlm, q_p1, if_true, if_false, ↓reduceIte, Option.bind_some, bI_0, bI_1, bI_01, b_or, Nat.not_lt_zero, Nat.zero_add, Bool.false_eq_true, Bool.true_eq_false, or_false, or_true, true_or, false_or, hsel, m_hasSound (h := hT), m_hasThing (h := hT), hsI_n, hs, ht, decide_true, hS.1, hn, e1, c10]
  · have e24 : A.2.1.1 = 24 := by have := wS.1; omega
    refine ⟨-3, A, O, hw', ?_, hc', rfl, rfl, hm', O, n_adds_full _ hm' e24, hm', fun _ _ => rfl⟩
    rw [sX6_show_0]
    simp (disch := omega) only [nI_ltI, nI_eq, nI_add, nI_clamp, ib_n, pk_mul, q_and, q_or, q_dn, q_shl, q_shlm, q_p1, if_true, if_false, ↓reduceIte, Option.bind_some, bI_0, bI_1, bI_01, b_or, Nat.not_lt_zero, Nat.zero_add, Bool.false_eq_true, Bool.true_eq_false, or_false, or_true, true_or, false_or, hsel, m_hasSound (h := hT), m_hasThing (h := hT), hsI_n, hs, ht, decide_true, hS.1, hn]
def CalAt (cx cm : Nat) (args : Lv_) (O : Mem_) (A : A_) : Prop := ∃ (r : Int32) (A' : A_) (O1 : Mem_), WA A' ∧ ex 40 cx 0 (some (vr 6 0 0) :: args) [] O = some (r, O1) ∧ CI O1 A' ∧ O1 7 = O 7 ∧ O1 8 = O 8 ∧ ∃ O2, ex 40 cm 0 (some (vr 7 0 0) :: args) [] O1 = some (r, O2) ∧ MI (O2 7 0) A' ∧ ∀ c, c ≠ 7 → O2 c = O1 c
theorem CalAt.q {cx cm : Nat} {args : Lv_} {O : Mem_} {A : A_} (hw : WA A) (hc : CI O A) (hm : MI (O 7 0) A) (r : Int32) (h1 : ex 40 cx 0 (some (vr 6 0 0) :: args) [] O = some (r, O)) (h2 : ex 40 cm 0 (some (vr 7 0 0) :: args) [] O = some (r, O)) : CalAt cx cm args O A := ⟨r, A, O, hw, h1, hc, rfl, rfl, O, h2, hm, fun _ _ => rfl⟩
theorem Cal.of {cx cm : Nat} {args : Lv_} (h : ∀ (O : Mem_) (A : A_), WA A → CI O A → MI (O 7 0) A → CalAt cx cm args O A) : Cal cx cm args := h
theorem show_bad (d : Nat) {w : Nat} {O : Mem_} {T : Td_} {x y z : Int32} (hsel : sel (O 6 0 0 1) = w) (hT : CT (O 4 w) T) (h : hsI x (nS T) = false ∨ hsI y (nT T) = false) : ex (d + 2) 75 0 [some (vr 6 0 0), some (vi x), some (vi y), some (vi z)] [] O = some (-1, O) := by
  rw [sX6_show_0]
  rcases h with h | h
  · simp (disch := omega) only [nI_ltI, nI_eq, nI_add, nI_clamp, ib_n, pk_mul, q_and, q_or, q_dn, q_shl, q_shlm, q_p1, if_true, if_false, ↓reduceIte, Option.bind_some, bI_0, bI_1, bI_01, b_or, Nat.not_lt_zero, Nat.zero_add, Bool.false_eq_true, Bool.true_eq_false, or_false, or_true, true_or, false_or, hsel, m_hasSound (h := hT), h]
  · simp (disch := omega) only [nI_ltI, nI_eq, nI_add, nI_clamp, ib_n, pk_mul, q_and, q_or, q_dn, q_shl, q_shlm, q_p1, if_true, if_false, ↓reduceIte, Option.bind_some, bI_0, bI_1, bI_01, b_or, Nat.not_lt_zero, Nat.zero_add, Bool.false_eq_true, Bool.true_eq_false, or_false, or_true, true_or, false_or, hsel, m_hasSound (h := hT), m_hasThing (h := hT), h]
    cases hsI x (nS T) <;> simp
theorem q_show (x y : Int32) (so : Bool) : Cal 75 165 [some (vi x), some (vi y), some (vi (bI so))] := Cal.of fun O A hw hc hm => by
  have hc' := hc
  have hm' := hm
  obtain ⟨w, cw, c9, hT, hS, hI, hB, hM, hP, hF, hSh⟩ := hc
  have hsel := cw.sel
  obtain ⟨mT, mSc, mIm, mN, mP, mF, mSh, mt⟩ := hm
  have hw' := hw
  obtain ⟨wT, wS, wI, wP, wF, wSh, wt⟩ := hw
  have h8 := wT.1
  have h12 := wT.2.1
  have h4 := wT.2.2.1
  have h6 := wT.2.2.2.1
  have wMd : WMd A.1 (mds A.1 A.2.1.2.1 A.2.1.1) := mds_wf _ (by have := wS.1; omega)
  have kmC : ∀ k, k < nK A.1 → KM (O 0 0) k ((mds A.1 A.2.1.2.1 A.2.1.1).2 k) := fun k hk => hM.2.2 k hk (by rw [Nat.testBit_two_pow_sub_one, decide_eq_true hk])
  have kmN : ∀ k, k < nK A.1 → KN (O 7 0) (10 * k) ((mds A.1 A.2.1.2.1 A.2.1.1).2 k) := fun k hk => by have := mN.1 k hk; rwa [Nat.zero_add] at this
  by_cases hx : hsI x (nS A.1) = true
  · by_cases hy : hsI y (nT A.1) = true
    · have hx' := hx
      have hy' := hy
      obtain ⟨s, hs, rfl⟩ := hsI_of (by omega) hx
      obtain ⟨t, ht, rfl⟩ := hsI_of (by omega) hy
      obtain ⟨r, A', O1, wA', e1, c1, c7, c8, m1, O2, e2, m2, r2⟩ := show_in 34 32 (so := so) hw' hc' hm' hs ht
      refine ⟨r, A', O1, wA', e1, c1, c7, c8, O2, ?_, m2, r2⟩
      rw [sX7_show_0]
      simp (disch := omega) only [nI_ltI, nI_eq, nI_add, nI_clamp, ib_n, pk_mul, q_and, q_or, q_dn, q_shl, q_shlm, q_p1, if_true, if_false, ↓reduceIte, Option.bind_some, bI_0, bI_1, bI_01, b_or, Nat.not_lt_zero, Nat.zero_add, Bool.false_eq_true, Bool.true_eq_false, or_false, or_true, true_or, false_or, n_isSound (h := m1.1) (hT := wT), n_isThing (h := m1.1) (hT := wT), hx', hy', e2]
    · have hy := bool_ne hy
      refine CalAt.q hw' hc' hm' (-1) (show_bad 38 hsel hT (Or.inr hy)) ?_
      rw [sX7_show_0]
      simp (disch := omega) only [nI_ltI, nI_eq, nI_add, nI_clamp, ib_n, pk_mul, q_and, q_or, q_dn, q_shl, q_shlm, q_p1, if_true, if_false, ↓reduceIte, Option.bind_some, bI_0, bI_1, bI_01, b_or, Nat.not_lt_zero, Nat.zero_add, Bool.false_eq_true, Bool.true_eq_false, or_false, or_true, true_or, false_or, n_isSound (h := mT) (hT := wT), n_isThing (h := mT) (hT := wT), hx, hy]
  · have hx := bool_ne hx
    refine CalAt.q hw' hc' hm' (-1) (show_bad 38 hsel hT (Or.inl hx)) ?_
    rw [sX7_show_0]
    simp (disch := omega) only [nI_ltI, nI_eq, nI_add, nI_clamp, ib_n, pk_mul, q_and, q_or, q_dn, q_shl, q_shlm, q_p1, if_true, if_false, ↓reduceIte, Option.bind_some, bI_0, bI_1, bI_01, b_or, Nat.not_lt_zero, Nat.zero_add, Bool.false_eq_true, Bool.true_eq_false, or_false, or_true, true_or, false_or, n_isSound (h := mT) (hT := wT), n_isThing (h := mT) (hT := wT), hx]
theorem m_isInX (d : Nat) (O : Mem_) (x : Int32) {b : Nat} (hb : b < 2 ^ 31) : ∃ c : Bool, ex (d + 1) 109 0 [some (vi x), some (vi (nI b))] [] O = some (bI c, O) := by
  by_cases h0 : x < nI 0
  · exact ⟨false, by rw [sX6_isIn_0, if_pos h0]; rfl⟩
  · obtain ⟨j, hj, rfl⟩ := nI_of h0
    by_cases h1 : j < 31
    · exact ⟨_, m_isIn d O h1 hb⟩
    · exact ⟨false, by rw [sX6_isIn_0, if_neg h0, if_neg (by rw [nI_ltI hj (by decide)]; exact h1)]; rfl⟩
theorem q_teach (x y : Int32) : Cal 76 166 [some (vi x), some (vi y)] := Cal.of fun O A hw hc hm => by
  have hc' := hc
  have hm' := hm
  obtain ⟨w, cw, c9, hT, hS, hI, hB, hM, hP, hF, hSh⟩ := hc
  have hsel := cw.sel
  obtain ⟨mT, mSc, mIm, mN, mP, mF, mSh, mt⟩ := hm
  have hw' := hw
  obtain ⟨wT, wS, wI, wP, wF, wSh, wt⟩ := hw
  have h8 := wT.1
  have h12 := wT.2.1
  have h4 := wT.2.2.1
  have h6 := wT.2.2.2.1
  have wMd : WMd A.1 (mds A.1 A.2.1.2.1 A.2.1.1) := mds_wf _ (by have := wS.1; omega)
  have kmC : ∀ k, k < nK A.1 → KM (O 0 0) k ((mds A.1 A.2.1.2.1 A.2.1.1).2 k) := fun k hk => hM.2.2 k hk (by rw [Nat.testBit_two_pow_sub_one, decide_eq_true hk])
  have kmN : ∀ k, k < nK A.1 → KN (O 7 0) (10 * k) ((mds A.1 A.2.1.2.1 A.2.1.1).2 k) := fun k hk => by have := mN.1 k hk; rwa [Nat.zero_add] at this
  by_cases hx : hsI x (nS A.1) = true
  · by_cases hy : hsI y (nT A.1) = true
    · have hx' := hx
      have hy' := hy
      obtain ⟨s, hs, rfl⟩ := hsI_of (by omega) hx
      obtain ⟨t, ht, rfl⟩ := hsI_of (by omega) hy
      obtain ⟨r, A', O1, wA', e1, c1, c7, c8, m1, O2, e2, m2, r2⟩ := show_in 33 32 (so := isTg A.1 s t) hw' hc' hm' hs ht
      refine ⟨r, A', O1, wA', ?_, c1, c7, c8, O2, ?_, m2, r2⟩
      · rw [sX6_teach_0]
        simp (disch := omega) only [nI_ltI, nI_eq, nI_add, nI_clamp, ib_n, pk_mul, q_and, q_or, q_dn, q_shl, q_shlm, q_p1, if_true, if_false, ↓reduceIte, Option.bind_some, bI_0, bI_1, bI_01, b_or, Nat.not_lt_zero, Nat.zero_add, Bool.false_eq_true, Bool.true_eq_false, or_false, or_true, true_or, false_or, hsel, m_isTarget 36 (s := s) (t := t) hs (by omega) hT wT, e1]
      · rw [sX7_teach_0]
        simp (disch := omega) only [nI_ltI, nI_eq, nI_add, nI_clamp, ib_n, pk_mul, q_and, q_or, q_dn, q_shl, q_shlm, q_p1, if_true, if_false, ↓reduceIte, Option.bind_some, bI_0, bI_1, bI_01, b_or, Nat.not_lt_zero, Nat.zero_add, Bool.false_eq_true, Bool.true_eq_false, or_false, or_true, true_or, false_or, n_isSound (h := m1.1) (hT := wT), n_isThing (h := m1.1) (hT := wT), hx', hy', n_isTrue 37 (s := s) (t := t) hs (by omega) m1.1 wT, e2]
    · have hy := bool_ne hy
      obtain ⟨s, hs, rfl⟩ := hsI_of (by omega) hx
      have := tgA_lt wT s
      obtain ⟨b, hb⟩ := m_isInX 37 O y (b := tgA A.1 s) (by omega)
      refine CalAt.q hw' hc' hm' (-1) ?_ ?_
      · rw [sX6_teach_0, hsel, sX4_isTarget_0, m_targetThings _ hs hT wT]
        simp (disch := omega) only [nI_ltI, nI_eq, nI_add, nI_clamp, ib_n, pk_mul, q_and, q_or, q_dn, q_shl, q_shlm, q_p1, if_true, if_false, ↓reduceIte, Option.bind_some, bI_0, bI_1, bI_01, b_or, Nat.not_lt_zero, Nat.zero_add, Bool.false_eq_true, Bool.true_eq_false, or_false, or_true, true_or, false_or, hb, show_bad 37 hsel hT (Or.inr hy)]
      · rw [sX7_teach_0]
        simp (disch := omega) only [nI_ltI, nI_eq, nI_add, nI_clamp, ib_n, pk_mul, q_and, q_or, q_dn, q_shl, q_shlm, q_p1, if_true, if_false, ↓reduceIte, Option.bind_some, bI_0, bI_1, bI_01, b_or, Nat.not_lt_zero, Nat.zero_add, Bool.false_eq_true, Bool.true_eq_false, or_false, or_true, true_or, false_or, n_isSound (h := mT) (hT := wT), n_isThing (h := mT) (hT := wT), hx, hy]
  · have hx := bool_ne hx
    obtain ⟨b, hb⟩ := m_isInX 37 O y (b := 0) (by omega)
    refine CalAt.q hw' hc' hm' (-1) ?_ ?_
    · rw [sX6_teach_0, hsel, sX4_isTarget_0, sX4_targetThings_0]
      simp (disch := omega) only [nI_ltI, nI_eq, nI_add, nI_clamp, ib_n, pk_mul, q_and, q_or, q_dn, q_shl, q_shlm, q_p1, if_true, if_false, ↓reduceIte, Option.bind_some, bI_0, bI_1, bI_01, b_or, Nat.not_lt_zero, Nat.zero_add, Bool.false_eq_true, Bool.true_eq_false, or_false, or_true, true_or, false_or, m_hasSound (h := hT), hx, hb, show_bad 37 hsel hT (Or.inl hx)]
    · rw [sX7_teach_0]
      simp (disch := omega) only [nI_ltI, nI_eq, nI_add, nI_clamp, ib_n, pk_mul, q_and, q_or, q_dn, q_shl, q_shlm, q_p1, if_true, if_false, ↓reduceIte, Option.bind_some, bI_0, bI_1, bI_01, b_or, Nat.not_lt_zero, Nat.zero_add, Bool.false_eq_true, Bool.true_eq_false, or_false, or_true, true_or, false_or, n_isSound (h := mT) (hT := wT), hx]
/-- thinking anew -/
theorem m_thinkAgain (d : Nat) {O : Mem_} {T : Td_} {c : Sc_} {w : Nat} (hsel : sel (O 6 0 0 1) = w) (hT : CT (O 4 w) T) (wT : WT T) (hS : CS (O 1 0) c) (wS : WSc T c) : ∃ O', ex (d + 5) 112 0 [some (vr 6 0 0)] [] O = some (nI 0, O') ∧ Ro 0 0 O O' ∧ CM (O' 0 0) T (2 ^ nK T - 1) c.1 (mds T c.2.1 c.1) := by
  have h6 := wT.2.2.2.1
  have h64 : 2 ^ nK T ≤ 2 ^ 6 := Nat.pow_le_pow_right (by decide) h6
  have h24 := wS.1
  rw [sX6_thinkAgain_0]
  obtain ⟨O1, e1, r1, m1⟩ := m_blank (O := O) (n := w) (i := 0) (d + 2) hT wT
  simp (disch := omega) only [nI_ltI, nI_eq, nI_add, nI_clamp, ib_n, pk_mul, q_and, q_or, q_dn, q_shl, q_shlm, q_p1, if_true, if_false, ↓reduceIte, Option.bind_some, bI_0, bI_1, bI_01, b_or, Nat.not_lt_zero, Nat.zero_add, Bool.false_eq_true, Bool.true_eq_false, or_false, or_true, true_or, false_or, hsel, e1]
  refine Exists.elim (lp_i (fun j (O : Mem_) => ex (d + 5) 112 13 [some (vr 6 0 0), some (vi (nI j))] [] O) (fun j O' => Ro 0 0 O O' ∧ CM (O' 0 0) T (2 ^ nK T - 1) j (mds T c.2.1 j)) c.1 ?_ O1 ⟨r1, m1 _⟩) ?_
  · intro j O' hj ⟨g1, g2⟩
    have hT' : CT (O' 4 w) T := by rw [g1 4 w (Or.inl (by decide))]; exact hT
    obtain ⟨t1, t2, t3⟩ := hS.2.1 j hj
    have wj := wS.2.1 j hj
    obtain ⟨b, O2, e2, r2, m2, -⟩ := m_see (O := O') (n := w) (i := 0) d (K := 2 ^ nK T - 1) (s := (c.2.1 j).1) (t := (c.2.1 j).2.1) (so := (c.2.1 j).2.2) (by omega) wj.1 wj.2 hT' wT g2 (mds_wf _ (by omega)) (by omega)
    refine ⟨O2, ?_, g1.trans r2, m2⟩
    refine (sX6_thinkAgain_13 ..).trans ?_
    simp (disch := omega) only [nI_ltI, nI_eq, nI_add, nI_clamp, ib_n, pk_mul, q_and, q_or, q_dn, q_shl, q_shlm, q_p1, if_true, if_false, ↓reduceIte, Option.bind_some, bI_0, bI_1, bI_01, b_or, Nat.not_lt_zero, Nat.zero_add, Bool.false_eq_true, Bool.true_eq_false, or_false, or_true, true_or, false_or, g1 1 0 (Or.inl (by decide)), g1 6 0 (Or.inl (by decide)), hS.1, hj, hsel, m_allKinds (h := hT') (hT := wT), t1, t2, t3, e2]
    rw [if_pos (by omega)]
  · rintro O' ⟨e, g1, g2⟩
    refine ⟨O', e.trans ?_, g1, g2⟩
    refine (sX6_thinkAgain_13 ..).trans ?_
    simp (disch := omega) only [nI_ltI, nI_eq, nI_add, nI_clamp, ib_n, pk_mul, q_and, q_or, q_dn, q_shl, q_shlm, q_p1, if_true, if_false, ↓reduceIte, Option.bind_some, bI_0, bI_1, bI_01, b_or, Nat.not_lt_zero, Nat.zero_add, Bool.false_eq_true, Bool.true_eq_false, or_false, or_true, true_or, false_or, g1 1 0 (Or.inl (by decide)), hS.1, Nat.lt_irrefl]
theorem n_replays (d : Nat) {O : Mem_} {T : Td_} {c : Sc_} (hT : MT (O 7 0) T) (wT : WT T) (h0 : O 7 0 0 28 = nI c.1) (hS : ∀ j, j < c.1 → O 7 0 30 (3 * j) = nI (c.2.1 j).1 ∧ O 7 0 30 (3 * j + 1) = nI (c.2.1 j).2.1 ∧ O 7 0 30 (3 * j + 2) = bI (c.2.1 j).2.2) (wS : WSc T c) : ∃ O', ex (d + 7) 162 0 [some (vr 7 0 0)] [] O = some (nI 0, O') ∧ NX 0 70 O O' ∧ NM (O' 7 0) 0 T (mds T c.2.1 c.1) := by
  have h24 := wS.1
  rw [sX7_replays_0]
  obtain ⟨O1, e1, r1, m1⟩ := n_wakes (O := O) (d + 4) (b := 0) (by omega) wT
  simp (disch := omega) only [nI_ltI, nI_eq, nI_add, nI_clamp, ib_n, pk_mul, q_and, q_or, q_dn, q_shl, q_shlm, q_p1, if_true, if_false, ↓reduceIte, Option.bind_some, bI_0, bI_1, bI_01, b_or, Nat.not_lt_zero, Nat.zero_add, Bool.false_eq_true, Bool.true_eq_false, or_false, or_true, true_or, false_or, e1]
  refine Exists.elim (lp_i (fun j (O : Mem_) => ex (d + 7) 162 7 [some (vr 7 0 0), some (vi (nI j))] [] O) (fun j O' => NX 0 70 O O' ∧ NM (O' 7 0) 0 T (mds T c.2.1 j)) c.1 ?_ O1 ⟨r1, m1⟩) ?_
  · intro j O' hj ⟨g1, g2⟩
    obtain ⟨t1, t2, t3⟩ := hS j hj
    have wj := wS.2.1 j hj
    obtain ⟨O2, e2, r2, m2⟩ := n_sees (O := O') d (b := 0) (i := j) (s := (c.2.1 j).1) (t := (c.2.1 j).2.1) (so := (c.2.1 j).2.2) (by omega) wj.1 wj.2 (hT.nx g1) wT g2 (mds_wf _ (by omega)) (by omega)
    refine ⟨O2, ?_, g1.trans r2, m2⟩
    refine (sX7_replays_7 ..).trans ?_
    rw [g1.2 0 28 (by omega), h0]
    simp (disch := omega) only [nI_ltI, nI_eq, nI_add, nI_clamp, ib_n, pk_mul, q_and, q_or, q_dn, q_shl, q_shlm, q_p1, if_true, if_false, ↓reduceIte, Option.bind_some, bI_0, bI_1, bI_01, b_or, Nat.not_lt_zero, Nat.zero_add, Bool.false_eq_true, Bool.true_eq_false, or_false, or_true, true_or, false_or, hj, g1.2 30 (3 * j) (by omega), g1.2 30 (3 * j + 1) (by omega), g1.2 30 (3 * j + 2) (by omega), t1, t2, t3]
    cases hb : (c.2.1 j).2.2 with
    | true =>
      rw [hb, bI_t] at e2
      simp only [if_true]
      rw [sX7_replays_55]
      simp (disch := omega) only [nI_ltI, nI_eq, nI_add, nI_clamp, ib_n, pk_mul, q_and, q_or, q_dn, q_shl, q_shlm, q_p1, if_true, if_false, ↓reduceIte, Option.bind_some, bI_0, bI_1, bI_01, b_or, Nat.not_lt_zero, Nat.zero_add, Bool.false_eq_true, Bool.true_eq_false, or_false, or_true, true_or, false_or, e2]
    | false =>
      rw [hb, bI_f] at e2
      simp only [Bool.false_eq_true, if_false]
      rw [sX7_replays_55]
      simp (disch := omega) only [nI_ltI, nI_eq, nI_add, nI_clamp, ib_n, pk_mul, q_and, q_or, q_dn, q_shl, q_shlm, q_p1, if_true, if_false, ↓reduceIte, Option.bind_some, bI_0, bI_1, bI_01, b_or, Nat.not_lt_zero, Nat.zero_add, Bool.false_eq_true, Bool.true_eq_false, or_false, or_true, true_or, false_or, e2]
  · rintro O' ⟨e, g1, g2⟩
    refine ⟨O', e.trans ?_, g1, g2⟩
    refine (sX7_replays_7 ..).trans ?_
    rw [g1.2 0 28 (by omega), h0]
    simp (disch := omega) only [nI_ltI, nI_eq, nI_add, nI_clamp, ib_n, pk_mul, q_and, q_or, q_dn, q_shl, q_shlm, q_p1, if_true, if_false, ↓reduceIte, Option.bind_some, bI_0, bI_1, bI_01, b_or, Nat.not_lt_zero, Nat.zero_add, Bool.false_eq_true, Bool.true_eq_false, or_false, or_true, true_or, false_or, Nat.lt_irrefl]
end
